def dM (w t : Nat) : Nat := w &&& (268435455 ^^^ t)
theorem not_n {g : Nat} (hg : g < 4294967296) : nI g ^^^ mI 1 = nI (4294967295 - g) := by
  refine Int32.toBitVec_inj.mp ?_
  rw [Int32.toBitVec_xor]
  have e : (mI 1).toBitVec = BitVec.allOnes 32 := by decide
  rw [e, BitVec.xor_allOnes]
  show ~~~(BitVec.ofNat 32 g) = BitVec.ofNat 32 (4294967295 - g)
  refine BitVec.eq_of_toNat_eq ?_
  rw [BitVec.toNat_not, BitVec.toNat_ofNat, BitVec.toNat_ofNat]
  omega
theorem dM_n {w t : Nat} (hw : w < 268435456) (ht : t < 268435456) : nI w &&& (nI t ^^^ mI 1) = nI (dM w t) := by
  rw [not_n (by omega), nn_and]
  congr 1
  apply Nat.eq_of_testBit_eq
  intro i
  unfold dM
  rw [Nat.testBit_and, Nat.testBit_and]
  by_cases hi : i < 28
  · congr 1
    rw [Nat.testBit_xor, show (268435455 : Nat) = 2 ^ 28 - 1 from rfl, Nat.testBit_two_pow_sub_one, show 4294967295 - t = 2 ^ 32 - (t + 1) by omega, Nat.testBit_two_pow_sub_succ (by omega)]
    rw [decide_eq_true (show i < 32 by omega), decide_eq_true hi]
    cases t.testBit i <;> rfl
  · rw [Nat.testBit_lt_two_pow (x := w) (i := i) (Nat.lt_of_lt_of_le hw (by
      have : 2 ^ 28 ≤ 2 ^ i := Nat.pow_le_pow_right (by omega) (by omega)
      omega))]
    rfl
theorem dM_lt {w t : Nat} (hw : w < 268435456) : dM w t < 268435456 := Nat.lt_of_le_of_lt Nat.and_le_left hw
theorem bs_28 (p : Nat → Bool) : bs p 28 < 268435456 := bs_lt p 28
/-- years of a heap; pairs that it tells apart -/
def hpS (y : Nat → Option Nat) (S : Nat) : Nat → Option Nat
  | 0 => some 0
  | i + 1 => match hpS y S i with
    | none => none
    | some v => if bt S i = 1 then (match y i with | none => none | some u => some (v + u)) else some v
def tlM (a : Nat → Nat) (n S : Nat) : Nat → Nat
  | 0 => 0
  | i + 1 => if bt S i = 1 then tlM a n S i ||| apM (a i) n else tlM a n S i
theorem tlM_lt {a : Nat → Nat} {n S : Nat} : ∀ i, tlM a n S i < 268435456
  | 0 => show 0 < 268435456 by omega
  | i + 1 => by
    unfold tlM
    split
    · exact Nat.or_lt_two_pow (n := 28) (tlM_lt i) (bs_lt _ 28)
    · exact tlM_lt i
theorem hpS_le {y : Nat → Option Nat} {S : Nat} : ∀ i v, (∀ j u, j < i → y j = some u → u ≤ 99) → hpS y S i = some v → v ≤ 99 * i
  | 0, v, _, e => by cases e; omega
  | i + 1, v, h, e => by
    unfold hpS at e
    cases e1 : hpS y S i with
    | none => rw [e1] at e; cases e
    | some v1 =>
      rw [e1] at e
      dsimp only at e
      have ih := hpS_le i v1 (fun j u hj => h j u (by omega)) e1
      by_cases c : bt S i = 1
      · rw [if_pos c] at e
        cases e2 : y i with
        | none => rw [e2] at e; cases e
        | some u =>
          rw [e2] at e
          cases e
          have := h i u (by omega) e2
          omega
      · rw [if_neg c] at e; cases e; omega
theorem hpS_n {y : Nat → Option Nat} {S i : Nat} (h : hpS y S i = none) : ∀ k, hpS y S (i + k) = none
  | 0 => h
  | k + 1 => by
    show hpS y S (i + k + 1) = none
    unfold hpS
    rw [hpS_n h k]
def hpV (y : Nat → Option Nat) (a : Nat → Nat) (n m W S : Nat) : Option Nat := match hpS y S m with
  | none => none
  | some v => if dM W (tlM a n S m) = 0 then some v else none
section HR
variable {d Ls : Nat} {I : Nat → Nat → Int32} {L : Nat → Nat → Int64} {R : Nat → Nat → Option Nat} {X : List pKd} {h : pHp}
theorem pl_42 {S W n m : Nat} {y : Nat → Option Nat} {a : Nat → Nat} (hm : m ≤ 8) (hS : S < 256) (hW : W < 268435456) (hy : ∀ j u, j < m → y j = some u → u ≤ 99) (e71 : I 71 2 = nI m) (e63 : ∀ q, q < m → I 63 q = pnI (y q)) (e65 : ∀ q, q < m → I 65 q = nI (apM (a q) n)) (hr : R 48 1 = some 71) : P_m d 42 [.ref 48, .int (nI S), .int (nI W)] (p_mk Ls I L R X) (fun v h' => v = some (.int (pnI (hpV y a n m W S))) ∧ h' = p_mk Ls I L R X) := by
  have loop : ∀ q, q ≤ m → ∀ v, hpS y S q = some v → P_run d 42 (p_bk 42 1) 0 0 [.ref 48, .int (nI S), .int (nI W), .int (nI v), .int (nI (tlM a n S q)), .int (nI q)] [] (p_mk Ls I L R X) (fun v h' => v = some (.int (pnI (hpV y a n m W S))) ∧ h' = p_mk Ls I L R X) := by
    refine down_ind ?_ ?_
    · intro v e
      have e1 := dM_n hW (tlM_lt (a := a) (n := n) (S := S) m)
      have e2 := dM_lt (t := tlM a n S m) hW
      have eV : hpV y a n m W S = if dM W (tlM a n S m) = 0 then some v else none := by unfold hpV; rw [e]
      rw [eV]
      generalize dM W (tlM a n S m) = D at *
      generalize tlM a n S m = E at *
      by_cases c : D = 0
      · rw [if_pos c]
        rw [P_run_eq, bk_42_1, pb_42_1]; simp -implicitDefEqProofs (disch := first | omega | decide) only [P_m, ↓P_run_eq _ 42 _ (p_bk 42 5), bk_42_5, pb_42_5, ↓P_run_eq _ 42 _ (p_bk 42 7), bk_42_7, pb_42_7, pw_iload_5, pw_aload_n0, pw_aloadN_n0, pw_getR, pw_getI, pw_cge, pw_iload_n1, pw_ishr, pw_iconst, il_1, pw_iand, pw_zne, pw_goto, pw_iload_n2, pw_iload_4, il_m1, pw_ixor, pw_iload_n3, pw_ret0, kd_48, rf_48_0, rf_48_6, rf_48_7, rf_48_8, rf_48_9, rf_48_10, rf_48_12, rf_48_13, rf_48_14, rf_48_15, rf_48_1, rf_48_2, kd_71, rf_71_1, rf_71_3, rf_71_4, rf_71_5, rf_71_6, rf_71_11, rf_71_12, rf_71_14, n_0, n_1, nn_lt, nn_nlt, nn_le, nn_nle, nn_ne, nn_sub, nn_mul, nI_add, nn_neg, nm_eq, mn_eq, mm_eq, mn_lt, nm_lt, mn_le, nm_le, nn_sub0, nn_of, implies_true, nn_c, nn_in, nn_div, nat_rem, Nat.reduceMul, Nat.reduceSub, Nat.reduceDiv, Nat.reduceMod, pf_at, pf_ne, mk_s, mk_1, Classical.not_not, b2i_T, b2i_F, false_imp_iff, true_imp_iff, false_and, and_false, p_sw, Int.reduceAdd, Int.zero_add, Option.some.injEq, Value.int.injEq, Value.long.injEq, Value.ref.injEq, exists_eq_left', mk_I, mk_L, mk_wI, mk_wL, rf_s, rf_n, true_and, and_true, and_self, or_true, true_or, or_false, false_or, not_true_eq_false, not_false_eq_true, Option.toList_some, Option.toList_none, List.cons_append, List.nil_append, List.map_nil, List.map_cons, List.sum_nil, List.sum_cons, cat_i, cat_l, cat_r, cat_n, Nat.reduceLeDiff, Nat.reduceAdd, Nat.reduceEqDiff, Nat.zero_le, p_ent, p_u_ne, p_u_at, reduceIte, if_true, if_false, hr, va_rs, e71, e1, c, pnI]
      · rw [if_neg c]
        rw [P_run_eq, bk_42_1, pb_42_1]; simp -implicitDefEqProofs (disch := first | omega | decide) only [P_m, ↓P_run_eq _ 42 _ (p_bk 42 5), bk_42_5, pb_42_5, ↓P_run_eq _ 42 _ (p_bk 42 6), bk_42_6, pb_42_6, ↓P_run_eq _ 42 _ (p_bk 42 7), bk_42_7, pb_42_7, pw_iload_5, pw_aload_n0, pw_aloadN_n0, pw_getR, pw_getI, pw_cge, pw_iload_n1, pw_ishr, pw_iconst, il_1, pw_iand, pw_zne, pw_goto, pw_iload_n2, pw_iload_4, il_m1, pw_ixor, pw_iload_n3, pw_nop, pw_ret0, kd_48, rf_48_0, rf_48_6, rf_48_7, rf_48_8, rf_48_9, rf_48_10, rf_48_12, rf_48_13, rf_48_14, rf_48_15, rf_48_1, rf_48_2, kd_71, rf_71_1, rf_71_3, rf_71_4, rf_71_5, rf_71_6, rf_71_11, rf_71_12, rf_71_14, n_0, n_1, nn_lt, nn_nlt, nn_le, nn_nle, nn_ne, nn_sub, nn_mul, nI_add, nn_neg, nm_eq, mn_eq, mm_eq, mn_lt, nm_lt, mn_le, nm_le, nn_sub0, nn_of, implies_true, nn_c, nn_in, nn_div, nat_rem, Nat.reduceMul, Nat.reduceSub, Nat.reduceDiv, Nat.reduceMod, pf_at, pf_ne, mk_s, mk_1, Classical.not_not, b2i_T, b2i_F, false_imp_iff, true_imp_iff, false_and, and_false, p_sw, Int.reduceAdd, Int.zero_add, Option.some.injEq, Value.int.injEq, Value.long.injEq, Value.ref.injEq, exists_eq_left', mk_I, mk_L, mk_wI, mk_wL, rf_s, rf_n, true_and, and_true, and_self, or_true, true_or, or_false, false_or, not_true_eq_false, not_false_eq_true, Option.toList_some, Option.toList_none, List.cons_append, List.nil_append, List.map_nil, List.map_cons, List.sum_nil, List.sum_cons, cat_i, cat_l, cat_r, cat_n, Nat.reduceLeDiff, Nat.reduceAdd, Nat.reduceEqDiff, Nat.zero_le, p_ent, p_u_ne, p_u_at, reduceIte, if_true, if_false, hr, va_rs, e71, e1, c, pnI]
    · intro q hq ih v e
      have q8 : q < 8 := by omega
      have b := bit_n hS q8
      have f63 := e63 q hq
      have f65 := e65 q hq
      have ex : hpS y S (q + 1) = if bt S q = 1 then (match y q with | none => none | some u => some (v + u)) else some v := by
        show (match hpS y S q with | none => none | some v => _) = _
        rw [e]
        first | done | rfl
      have et : tlM a n S (q + 1) = if bt S q = 1 then tlM a n S q ||| apM (a q) n else tlM a n S q := rfl
      have vl := hpS_le q v (fun j u hj => hy j u (by omega)) e
      rcases bt_01 S q with c | c
      · rw [if_neg (by omega)] at ex et
        have ih := ih v ex
        rw [et] at ih
        rw [c] at b
        generalize tlM a n S q = E at *
        generalize hpV y a n m W S = V at *
        rw [P_run_eq, bk_42_1, pb_42_1]; simp -implicitDefEqProofs (disch := first | omega | decide) only [P_m, ↓P_run_eq _ 42 _ (p_bk 42 4), bk_42_4, pb_42_4, pw_iload_5, pw_aload_n0, pw_aloadN_n0, pw_getR, pw_getI, pw_cge, pw_iload_n1, pw_ishr, pw_iconst, il_1, pw_iand, pw_zne, pw_goto, pw_iinc_5, po_i5, po_r5, po_n5, po_u5, kd_48, rf_48_0, rf_48_6, rf_48_7, rf_48_8, rf_48_9, rf_48_10, rf_48_12, rf_48_13, rf_48_14, rf_48_15, rf_48_1, rf_48_2, kd_71, rf_71_1, rf_71_3, rf_71_4, rf_71_5, rf_71_6, rf_71_11, rf_71_12, rf_71_14, n_0, n_1, nn_lt, nn_nlt, nn_le, nn_nle, nn_ne, nn_sub, nn_mul, nI_add, nn_neg, nm_eq, mn_eq, mm_eq, mn_lt, nm_lt, mn_le, nm_le, nn_sub0, nn_of, implies_true, nn_c, nn_in, nn_div, nat_rem, Nat.reduceMul, Nat.reduceSub, Nat.reduceDiv, Nat.reduceMod, pf_at, pf_ne, mk_s, mk_1, Classical.not_not, b2i_T, b2i_F, false_imp_iff, true_imp_iff, false_and, and_false, p_sw, Int.reduceAdd, Int.zero_add, Option.some.injEq, Value.int.injEq, Value.long.injEq, Value.ref.injEq, exists_eq_left', mk_I, mk_L, mk_wI, mk_wL, rf_s, rf_n, true_and, and_true, and_self, or_true, true_or, or_false, false_or, not_true_eq_false, not_false_eq_true, Option.toList_some, Option.toList_none, List.cons_append, List.nil_append, List.map_nil, List.map_cons, List.sum_nil, List.sum_cons, cat_i, cat_l, cat_r, cat_n, Nat.reduceLeDiff, Nat.reduceAdd, Nat.reduceEqDiff, Nat.zero_le, p_ent, p_u_ne, p_u_at, reduceIte, if_true, if_false, hr, va_rs, e71, b]
        exact ih
      · rw [if_pos c] at ex et
        rw [c] at b
        cases hyq : y q with
        | none =>
          rw [hyq] at ex f63
          have hn : hpS y S m = none := by
            have := hpS_n ex (m - (q + 1))
            rwa [show q + 1 + (m - (q + 1)) = m by omega] at this
          have eV : hpV y a n m W S = none := by unfold hpV; rw [hn]
          rw [eV]
          replace f63 : I 63 q = mI 1 := f63
          generalize tlM a n S q = E at *
          rw [P_run_eq, bk_42_1, pb_42_1]; simp -implicitDefEqProofs (disch := first | omega | decide) only [P_m, ↓P_run_eq _ 42 _ (p_bk 42 2), bk_42_2, pb_42_2, pw_iload_5, pw_aload_n0, pw_aloadN_n0, pw_getR, pw_getI, pw_cge, pw_iload_n1, pw_ishr, pw_iconst, il_1, pw_iand, pw_zne, pw_goto, pw_iald, il_m1, pw_cne, pw_ret0, kd_48, rf_48_0, rf_48_6, rf_48_7, rf_48_8, rf_48_9, rf_48_10, rf_48_12, rf_48_13, rf_48_14, rf_48_15, rf_48_1, rf_48_2, kd_63, kd_71, rf_71_1, rf_71_3, rf_71_4, rf_71_5, rf_71_6, rf_71_11, rf_71_12, rf_71_14, n_0, n_1, nn_lt, nn_nlt, nn_le, nn_nle, nn_ne, nn_sub, nn_mul, nI_add, nn_neg, nm_eq, mn_eq, mm_eq, mn_lt, nm_lt, mn_le, nm_le, nn_sub0, nn_of, implies_true, nn_c, nn_in, nn_div, nat_rem, Nat.reduceMul, Nat.reduceSub, Nat.reduceDiv, Nat.reduceMod, pf_at, pf_ne, mk_s, mk_1, Classical.not_not, b2i_T, b2i_F, false_imp_iff, true_imp_iff, false_and, and_false, p_sw, Int.reduceAdd, Int.zero_add, Option.some.injEq, Value.int.injEq, Value.long.injEq, Value.ref.injEq, exists_eq_left', mk_I, mk_L, mk_wI, mk_wL, rf_s, rf_n, true_and, and_true, and_self, or_true, true_or, or_false, false_or, not_true_eq_false, not_false_eq_true, Option.toList_some, Option.toList_none, List.cons_append, List.nil_append, List.map_nil, List.map_cons, List.sum_nil, List.sum_cons, cat_i, cat_l, cat_r, cat_n, Nat.reduceLeDiff, Nat.reduceAdd, Nat.reduceEqDiff, Nat.zero_le, p_ent, p_u_ne, p_u_at, reduceIte, if_true, if_false, hr, va_rs, e71, b, f63, pnI]
        | some u =>
          have ul := hy q u hq hyq
          rw [hyq] at ex f63
          replace f63 : I 63 q = nI u := f63
          have ih := ih _ ex
          rw [et] at ih
          have e5 := nn_or (tlM a n S q) (apM (a q) n)
          generalize tlM a n S q ||| apM (a q) n = F at *
          generalize tlM a n S q = E at *
          generalize apM (a q) n = G at *
          generalize hpV y a n m W S = V at *
          rw [P_run_eq, bk_42_1, pb_42_1]; simp -implicitDefEqProofs (disch := first | omega | decide) only [P_m, ↓P_run_eq _ 42 _ (p_bk 42 2), bk_42_2, pb_42_2, ↓P_run_eq _ 42 _ (p_bk 42 3), bk_42_3, pb_42_3, ↓P_run_eq _ 42 _ (p_bk 42 4), bk_42_4, pb_42_4, pw_iload_5, pw_aload_n0, pw_aloadN_n0, pw_getR, pw_getI, pw_cge, pw_iload_n1, pw_ishr, pw_iconst, il_1, pw_iand, pw_zne, pw_goto, pw_iald, il_m1, pw_cne, pw_ret0, pw_iload_n3, pw_iadd, pw_istore_n3, ps_3, pe_3, po_i3, po_r3, po_n3, po_u3, pw_iload_4, pw_ior, pw_istore, ps_4, pe_4, po_i4, po_r4, po_n4, po_u4, pw_nop, pw_iinc_5, po_i5, po_r5, po_n5, po_u5, kd_48, rf_48_0, rf_48_6, rf_48_7, rf_48_8, rf_48_9, rf_48_10, rf_48_12, rf_48_13, rf_48_14, rf_48_15, rf_48_1, rf_48_2, kd_63, kd_65, kd_71, rf_71_1, rf_71_3, rf_71_4, rf_71_5, rf_71_6, rf_71_11, rf_71_12, rf_71_14, n_0, n_1, nn_lt, nn_nlt, nn_le, nn_nle, nn_ne, nn_sub, nn_mul, nI_add, nn_neg, nm_eq, mn_eq, mm_eq, mn_lt, nm_lt, mn_le, nm_le, nn_sub0, nn_of, implies_true, nn_c, nn_in, nn_div, nat_rem, Nat.reduceMul, Nat.reduceSub, Nat.reduceDiv, Nat.reduceMod, pf_at, pf_ne, mk_s, mk_1, Classical.not_not, b2i_T, b2i_F, false_imp_iff, true_imp_iff, false_and, and_false, p_sw, Int.reduceAdd, Int.zero_add, Option.some.injEq, Value.int.injEq, Value.long.injEq, Value.ref.injEq, exists_eq_left', mk_I, mk_L, mk_wI, mk_wL, rf_s, rf_n, true_and, and_true, and_self, or_true, true_or, or_false, false_or, not_true_eq_false, not_false_eq_true, Option.toList_some, Option.toList_none, List.cons_append, List.nil_append, List.map_nil, List.map_cons, List.sum_nil, List.sum_cons, cat_i, cat_l, cat_r, cat_n, Nat.reduceLeDiff, Nat.reduceAdd, Nat.reduceEqDiff, Nat.zero_le, p_ent, p_u_ne, p_u_at, reduceIte, if_true, if_false, hr, va_rs, e71, b, f63, f65, e5]
          exact ih
  have st := loop 0 (by omega) 0 rfl
  replace st : P_run d 42 (p_bk 42 1) 0 0 [.ref 48, .int (nI S), .int (nI W), .int (nI 0), .int (nI 0), .int (nI 0)] [] (p_mk Ls I L R X) _ := st
  generalize hpV y a n m W S = V at *
  simp -implicitDefEqProofs (disch := first | omega | decide) only [P_m, ↓P_run_eq _ 42 _ (p_bk 42 0), bk_42_0, pb_42_0, pw_iconst, il_0, pw_istore_n3, ps_3, pe_3, po_i3, po_r3, po_n3, po_u3, pw_istore, ps_4, pe_4, po_i4, po_r4, po_n4, po_u4, ps_5, pe_5, po_i5, po_r5, po_n5, po_u5, pw_nop, kd_48, rf_48_0, rf_48_6, rf_48_7, rf_48_8, rf_48_9, rf_48_10, rf_48_12, rf_48_13, rf_48_14, rf_48_15, rf_48_1, rf_48_2, n_0, n_1, nn_lt, nn_nlt, nn_le, nn_nle, nn_ne, nn_sub, nn_mul, nI_add, nn_neg, nm_eq, mn_eq, mm_eq, mn_lt, nm_lt, mn_le, nm_le, nn_sub0, nn_of, implies_true, nn_c, nn_in, nn_div, nat_rem, Nat.reduceMul, Nat.reduceSub, Nat.reduceDiv, Nat.reduceMod, pf_at, pf_ne, mk_s, mk_1, Classical.not_not, b2i_T, b2i_F, false_imp_iff, true_imp_iff, false_and, and_false, p_sw, Int.reduceAdd, Int.zero_add, Option.some.injEq, Value.int.injEq, Value.long.injEq, Value.ref.injEq, exists_eq_left', mk_I, mk_L, mk_wI, mk_wL, rf_s, rf_n, true_and, and_true, and_self, or_true, true_or, or_false, false_or, not_true_eq_false, not_false_eq_true, Option.toList_some, Option.toList_none, List.cons_append, List.nil_append, List.map_nil, List.map_cons, List.sum_nil, List.sum_cons, cat_i, cat_l, cat_r, cat_n, Nat.reduceLeDiff, Nat.reduceAdd, Nat.reduceEqDiff, Nat.zero_le, p_ent, p_u_ne, p_u_at, reduceIte, if_true, if_false]
  exact st
end HR
