/-! NUMBERS, and what the reader emits -/
def nmO (B : Nat → Nat) (T j : Nat) : Option Nat := if tC B T j = 50 then some (if tV B T j ≤ 1000 then tV B T j else 1001) else none
section NU
variable {d Ls : Nat} {I : Nat → Nat → Int32} {L : Nat → Nat → Int64} {R : Nat → Nat → Option Nat} {X : List pKd} {h : pHp} {B : Nat → Nat} {T : Nat}
theorem tC_50 {j : Nat} : tC B T j = 50 ↔ tS B T j < T ∧ isDg (B (tS B T j)) = true := by
  unfold tC cdT
  by_cases c1 : T ≤ tS B T j
  · rw [if_pos c1]; constructor <;> (intro h; omega)
  · rw [if_neg c1]
    by_cases c2 : isSm (B (tS B T j)) = true
    · rw [if_pos c2]
      have := wdC_le (slc B (tS B T j) (te B T (tS B T j)))
      constructor
      · intro h; omega
      · intro h
        exfalso
        have h2 := h.2
        unfold isSm at c2
        unfold isDg at h2
        simp only [Bool.and_eq_true, decide_eq_true_eq] at c2 h2
        omega
    · rw [if_neg c2]
      by_cases c3 : isDg (B (tS B T j)) = true
      · rw [if_pos c3]; exact ⟨fun _ => ⟨by omega, c3⟩, fun _ => rfl⟩
      · rw [if_neg c3]
        constructor
        · intro h
          exfalso
          omega
        · intro h; exact absurd h.2 c3
theorem vlF_ge : ∀ n k v, (∀ i, k ≤ i → i < k + n → 48 ≤ B i) → v ≤ vlF B n k v
  | 0, _, v, _ => Nat.le_refl v
  | n + 1, k, v, h => by
    unfold vlF
    have h1 := h k (Nat.le_refl k) (by omega)
    refine Nat.le_trans ?_ (vlF_ge n (k + 1) _ (fun i a b => h i (by omega) (by omega)))
    split <;> omega
theorem tV_at {j : Nat} (h : tC B T j = 50) : tV B T j = vlF B (te B T (tS B T j) - tS B T j) (tS B T j) 0 := by
  obtain ⟨h1, h2⟩ := tC_50.mp h
  unfold tV vlT
  rw [if_neg (by omega), if_pos h2]
theorem pl_67 {j : Nat} (h0 : cT0 B T I R) (hk : cTk B T I j) : P_m d 67 [.ref 35] (p_mk Ls I L R X) (fun v h' => v = some (.int (pnI (nmO B T j))) ∧ h' = p_mk Ls I L R X) := by
  obtain ⟨r1, e2, hT, hB⟩ := h0
  obtain ⟨e4, e5⟩ := hk
  have hb := tS_b (B := B) (T := T) j
  obtain ⟨t1, t2, t3⟩ := te_b (B := B) hb
  unfold nmO
  by_cases c : tC B T j = 50
  · rw [if_pos c, tV_at c]
    obtain ⟨c1, c2⟩ := tC_50.mp c
    have dg := fun k => dg_in (B := B) (T := T) (i := j) (k := k) c2 c1
    have d0 := dg _ (Nat.le_refl _) (t3 c1)
    obtain ⟨b1, b2⟩ := hB _ c1
    have loop : ∀ n k v, k + n = te B T (tS B T j) → tS B T j ≤ k → v ≤ 1000 → P_run d 67 (p_bk 67 3) 0 0 [.ref 35, .int (nI v), .int (nI k)] [] (p_mk Ls I L R X) (fun w h' => w = some (.int (nI (if vlF B n k v ≤ 1000 then vlF B n k v else 1001))) ∧ h' = p_mk Ls I L R X) := by
      intro n
      induction n with
      | zero =>
        intro k v hn hk2 hv
        show P_run _ _ _ _ _ _ _ _ (fun w h' => w = some (.int (nI (if v ≤ 1000 then v else 1001))) ∧ _)
        rw [if_pos hv]
        have kk : k = te B T (tS B T j) := by omega
        rw [kk]
        generalize te B T (tS B T j) = q at *
        rw [P_run_eq, bk_67_3, pb_67_3]; simp -implicitDefEqProofs (disch := first | omega | decide) only [P_m, ↓P_run_eq _ 67 _ (p_bk 67 5), bk_67_5, pb_67_5, pw_iload_n2, pw_aload_n0, pw_aloadN_n0, pw_getI, pw_cge, pw_bipush, bl_10, pw_iload_n1, pw_imul, pw_getR, pw_iald, pw_iadd, bl_48, pw_isub, pw_istore_n1, ps_1, pe_1, po_i1, po_r1, po_n1, po_u1, pw_sipush, sl_1000, pw_cle, sl_1001, pw_ret0, kd_35, rf_35_0, rf_35_1, n_0, n_1, n_10, n_48, n_1000, n_1001, nn_lt, nn_nlt, nn_le, nn_nle, nn_ne, nn_sub, nn_mul, nI_add, nn_neg, nm_eq, mn_eq, mm_eq, mn_lt, nm_lt, mn_le, nm_le, nn_sub0, nn_of, implies_true, nn_c, nn_in, nn_div, nat_rem, Nat.reduceMul, Nat.reduceSub, Nat.reduceDiv, Nat.reduceMod, pf_at, pf_ne, mk_s, mk_1, Classical.not_not, b2i_T, b2i_F, false_imp_iff, true_imp_iff, false_and, and_false, p_sw, Int.reduceAdd, Int.zero_add, Option.some.injEq, Value.int.injEq, Value.long.injEq, Value.ref.injEq, exists_eq_left', mk_I, mk_L, mk_wI, mk_wL, rf_s, rf_n, true_and, and_true, and_self, or_true, true_or, or_false, false_or, not_true_eq_false, not_false_eq_true, Option.toList_some, Option.toList_none, List.cons_append, List.nil_append, List.map_nil, List.map_cons, List.sum_nil, List.sum_cons, cat_i, cat_l, cat_r, cat_n, Nat.reduceLeDiff, Nat.reduceAdd, Nat.reduceEqDiff, Nat.zero_le, p_ent, p_u_ne, p_u_at, reduceIte, if_true, if_false, e5]
      | succ n ih =>
        intro k v hn hk2 hv
        obtain ⟨x1, x2⟩ := hB k (by omega)
        obtain ⟨y1, y2⟩ := dg k hk2 (by omega)
        have e : vlF B (n + 1) k v = vlF B n (k + 1) (10 * v + B k - 48) := by
          show vlF B n (k + 1) (if 1000000 < v then v else _) = _
          rw [if_neg (by omega)]
        rw [e]
        have sb : nI (10 * v + B k) - nI 48 = nI (10 * v + B k - 48) := nn_sub (by omega)
        by_cases cc : 10 * v + B k - 48 ≤ 1000
        · have nx := ih (k + 1) (10 * v + B k - 48) (by omega) (by omega) cc
          clear ih dg
          generalize (if vlF B n (k + 1) (10 * v + B k - 48) ≤ 1000 then vlF B n (k + 1) (10 * v + B k - 48) else 1001) = Z at *
          generalize te B T (tS B T j) = q at *
          generalize B k = bk at *
          rw [P_run_eq, bk_67_3, pb_67_3]; simp -implicitDefEqProofs (disch := first | omega | decide) only [P_m, ↓P_run_eq _ 67 _ (p_bk 67 4), bk_67_4, pb_67_4, pw_iload_n2, pw_aload_n0, pw_aloadN_n0, pw_getI, pw_cge, pw_bipush, bl_10, pw_iload_n1, pw_imul, pw_getR, pw_iald, pw_iadd, bl_48, pw_isub, pw_istore_n1, ps_1, pe_1, po_i1, po_r1, po_n1, po_u1, pw_sipush, sl_1000, pw_cle, sl_1001, pw_ret0, pw_iinc_2, il_1, po_i2, po_r2, po_n2, po_u2, pw_goto, kd_34, kd_35, rf_35_0, rf_35_1, n_0, n_1, n_10, n_48, n_1000, n_1001, nn_lt, nn_nlt, nn_le, nn_nle, nn_ne, nn_sub, nn_mul, nI_add, nn_neg, nm_eq, mn_eq, mm_eq, mn_lt, nm_lt, mn_le, nm_le, nn_sub0, nn_of, implies_true, nn_c, nn_in, nn_div, nat_rem, Nat.reduceMul, Nat.reduceSub, Nat.reduceDiv, Nat.reduceMod, pf_at, pf_ne, mk_s, mk_1, Classical.not_not, b2i_T, b2i_F, false_imp_iff, true_imp_iff, false_and, and_false, p_sw, Int.reduceAdd, Int.zero_add, Option.some.injEq, Value.int.injEq, Value.long.injEq, Value.ref.injEq, exists_eq_left', mk_I, mk_L, mk_wI, mk_wL, rf_s, rf_n, true_and, and_true, and_self, or_true, true_or, or_false, false_or, not_true_eq_false, not_false_eq_true, Option.toList_some, Option.toList_none, List.cons_append, List.nil_append, List.map_nil, List.map_cons, List.sum_nil, List.sum_cons, cat_i, cat_l, cat_r, cat_n, Nat.reduceLeDiff, Nat.reduceAdd, Nat.reduceEqDiff, Nat.zero_le, p_ent, p_u_ne, p_u_at, reduceIte, if_true, if_false, r1, va_rs, e5, x1, sb]
          exact nx
        · have ge := vlF_ge (B := B) n (k + 1) (10 * v + B k - 48) (fun i a b => (dg i (by omega) (by omega)).1)
          rw [if_neg (by omega)]
          clear ih dg e ge
          generalize te B T (tS B T j) = q at *
          generalize B k = bk at *
          rw [P_run_eq, bk_67_3, pb_67_3]; simp -implicitDefEqProofs (disch := first | omega | decide) only [P_m, pw_iload_n2, pw_aload_n0, pw_aloadN_n0, pw_getI, pw_cge, pw_bipush, bl_10, pw_iload_n1, pw_imul, pw_getR, pw_iald, pw_iadd, bl_48, pw_isub, pw_istore_n1, ps_1, pe_1, po_i1, po_r1, po_n1, po_u1, pw_sipush, sl_1000, pw_cle, sl_1001, pw_ret0, kd_34, kd_35, rf_35_0, rf_35_1, n_0, n_1, n_10, n_48, n_1000, n_1001, nn_lt, nn_nlt, nn_le, nn_nle, nn_ne, nn_sub, nn_mul, nI_add, nn_neg, nm_eq, mn_eq, mm_eq, mn_lt, nm_lt, mn_le, nm_le, nn_sub0, nn_of, implies_true, nn_c, nn_in, nn_div, nat_rem, Nat.reduceMul, Nat.reduceSub, Nat.reduceDiv, Nat.reduceMod, pf_at, pf_ne, mk_s, mk_1, Classical.not_not, b2i_T, b2i_F, false_imp_iff, true_imp_iff, false_and, and_false, p_sw, Int.reduceAdd, Int.zero_add, Option.some.injEq, Value.int.injEq, Value.long.injEq, Value.ref.injEq, exists_eq_left', mk_I, mk_L, mk_wI, mk_wL, rf_s, rf_n, true_and, and_true, and_self, or_true, true_or, or_false, false_or, not_true_eq_false, not_false_eq_true, Option.toList_some, Option.toList_none, List.cons_append, List.nil_append, List.map_nil, List.map_cons, List.sum_nil, List.sum_cons, cat_i, cat_l, cat_r, cat_n, Nat.reduceLeDiff, Nat.reduceAdd, Nat.reduceEqDiff, Nat.zero_le, p_ent, p_u_ne, p_u_at, reduceIte, if_true, if_false, r1, va_rs, e5, x1, sb]
    have st := loop (te B T (tS B T j) - tS B T j) (tS B T j) 0 (by omega) (Nat.le_refl _) (by omega)
    clear loop dg
    generalize (if vlF B (te B T (tS B T j) - tS B T j) (tS B T j) 0 ≤ 1000 then vlF B (te B T (tS B T j) - tS B T j) (tS B T j) 0 else 1001) = Z at *
    show P_m _ _ _ _ (fun v h' => v = some (.int (nI Z)) ∧ _)
    generalize B (tS B T j) = b at *
    generalize tS B T j = p at *
    simp -implicitDefEqProofs (disch := first | omega | decide) only [P_m, ↓P_run_eq _ 67 _ (p_bk 67 0), bk_67_0, pb_67_0, ↓P_run_eq _ 67 _ (p_bk 67 2), bk_67_2, pb_67_2, pw_aload_n0, pw_aloadN_n0, pw_getI, pw_cge, pw_getR, pw_iald, pw_bipush, bl_48, pw_clt, bl_57, pw_cle, pw_nop, pw_iconst, il_0, pw_istore_n1, ps_1, pe_1, po_i1, po_r1, po_n1, po_u1, pw_istore_n2, ps_2, pe_2, po_i2, po_r2, po_n2, po_u2, kd_34, kd_35, rf_35_0, rf_35_1, n_0, n_1, n_48, n_57, nn_lt, nn_nlt, nn_le, nn_nle, nn_ne, nn_sub, nn_mul, nI_add, nn_neg, nm_eq, mn_eq, mm_eq, mn_lt, nm_lt, mn_le, nm_le, nn_sub0, nn_of, implies_true, nn_c, nn_in, nn_div, nat_rem, Nat.reduceMul, Nat.reduceSub, Nat.reduceDiv, Nat.reduceMod, pf_at, pf_ne, mk_s, mk_1, Classical.not_not, b2i_T, b2i_F, false_imp_iff, true_imp_iff, false_and, and_false, p_sw, Int.reduceAdd, Int.zero_add, Option.some.injEq, Value.int.injEq, Value.long.injEq, Value.ref.injEq, exists_eq_left', mk_I, mk_L, mk_wI, mk_wL, rf_s, rf_n, true_and, and_true, and_self, or_true, true_or, or_false, false_or, not_true_eq_false, not_false_eq_true, Option.toList_some, Option.toList_none, List.cons_append, List.nil_append, List.map_nil, List.map_cons, List.sum_nil, List.sum_cons, cat_i, cat_l, cat_r, cat_n, Nat.reduceLeDiff, Nat.reduceAdd, Nat.reduceEqDiff, Nat.zero_le, p_ent, p_u_ne, p_u_at, reduceIte, if_true, if_false, r1, va_rs, e2, e4, b1]
    exact st
  · rw [if_neg c]
    show P_m _ _ _ _ (fun v h' => v = some (.int (mI 1)) ∧ _)
    by_cases c1 : tS B T j < T
    · obtain ⟨b1, b2⟩ := hB _ c1
      have c2 : ¬ (48 ≤ B (tS B T j) ∧ B (tS B T j) ≤ 57) := fun hh => c (tC_50.mpr ⟨c1, by unfold isDg; simp [hh]⟩)
      clear c
      generalize B (tS B T j) = b at *
      generalize tS B T j = p at *
      by_cases c3 : 48 ≤ b
      · have c4 : 57 < b := by omega
        simp -implicitDefEqProofs (disch := first | omega | decide) only [P_m, ↓P_run_eq _ 67 _ (p_bk 67 0), bk_67_0, pb_67_0, ↓P_run_eq _ 67 _ (p_bk 67 1), bk_67_1, pb_67_1, pw_aload_n0, pw_aloadN_n0, pw_getI, pw_cge, pw_getR, pw_iald, pw_bipush, bl_48, pw_clt, bl_57, pw_cle, pw_nop, pw_iconst, il_m1, pw_ret0, kd_34, kd_35, rf_35_0, rf_35_1, n_0, n_1, n_48, n_57, nn_lt, nn_nlt, nn_le, nn_nle, nn_ne, nn_sub, nn_mul, nI_add, nn_neg, nm_eq, mn_eq, mm_eq, mn_lt, nm_lt, mn_le, nm_le, nn_sub0, nn_of, implies_true, nn_c, nn_in, nn_div, nat_rem, Nat.reduceMul, Nat.reduceSub, Nat.reduceDiv, Nat.reduceMod, pf_at, pf_ne, mk_s, mk_1, Classical.not_not, b2i_T, b2i_F, false_imp_iff, true_imp_iff, false_and, and_false, p_sw, Int.reduceAdd, Int.zero_add, Option.some.injEq, Value.int.injEq, Value.long.injEq, Value.ref.injEq, exists_eq_left', mk_I, mk_L, mk_wI, mk_wL, rf_s, rf_n, true_and, and_true, and_self, or_true, true_or, or_false, false_or, not_true_eq_false, not_false_eq_true, Option.toList_some, Option.toList_none, List.cons_append, List.nil_append, List.map_nil, List.map_cons, List.sum_nil, List.sum_cons, cat_i, cat_l, cat_r, cat_n, Nat.reduceLeDiff, Nat.reduceAdd, Nat.reduceEqDiff, Nat.zero_le, p_ent, p_u_ne, p_u_at, reduceIte, if_true, if_false, r1, va_rs, e2, e4, b1]
      · simp -implicitDefEqProofs (disch := first | omega | decide) only [P_m, ↓P_run_eq _ 67 _ (p_bk 67 0), bk_67_0, pb_67_0, ↓P_run_eq _ 67 _ (p_bk 67 1), bk_67_1, pb_67_1, pw_aload_n0, pw_aloadN_n0, pw_getI, pw_cge, pw_getR, pw_iald, pw_bipush, bl_48, pw_clt, bl_57, pw_cle, pw_nop, pw_iconst, il_m1, pw_ret0, kd_34, kd_35, rf_35_0, rf_35_1, n_0, n_1, n_48, n_57, nn_lt, nn_nlt, nn_le, nn_nle, nn_ne, nn_sub, nn_mul, nI_add, nn_neg, nm_eq, mn_eq, mm_eq, mn_lt, nm_lt, mn_le, nm_le, nn_sub0, nn_of, implies_true, nn_c, nn_in, nn_div, nat_rem, Nat.reduceMul, Nat.reduceSub, Nat.reduceDiv, Nat.reduceMod, pf_at, pf_ne, mk_s, mk_1, Classical.not_not, b2i_T, b2i_F, false_imp_iff, true_imp_iff, false_and, and_false, p_sw, Int.reduceAdd, Int.zero_add, Option.some.injEq, Value.int.injEq, Value.long.injEq, Value.ref.injEq, exists_eq_left', mk_I, mk_L, mk_wI, mk_wL, rf_s, rf_n, true_and, and_true, and_self, or_true, true_or, or_false, false_or, not_true_eq_false, not_false_eq_true, Option.toList_some, Option.toList_none, List.cons_append, List.nil_append, List.map_nil, List.map_cons, List.sum_nil, List.sum_cons, cat_i, cat_l, cat_r, cat_n, Nat.reduceLeDiff, Nat.reduceAdd, Nat.reduceEqDiff, Nat.zero_le, p_ent, p_u_ne, p_u_at, reduceIte, if_true, if_false, r1, va_rs, e2, e4, b1]
    · generalize tS B T j = p at *
      simp -implicitDefEqProofs (disch := first | omega | decide) only [P_m, ↓P_run_eq _ 67 _ (p_bk 67 0), bk_67_0, pb_67_0, ↓P_run_eq _ 67 _ (p_bk 67 1), bk_67_1, pb_67_1, pw_aload_n0, pw_aloadN_n0, pw_getI, pw_cge, pw_getR, pw_iald, pw_bipush, bl_48, pw_clt, bl_57, pw_cle, pw_nop, pw_iconst, il_m1, pw_ret0, kd_34, kd_35, rf_35_0, rf_35_1, n_0, n_1, n_48, n_57, nn_lt, nn_nlt, nn_le, nn_nle, nn_ne, nn_sub, nn_mul, nI_add, nn_neg, nm_eq, mn_eq, mm_eq, mn_lt, nm_lt, mn_le, nm_le, nn_sub0, nn_of, implies_true, nn_c, nn_in, nn_div, nat_rem, Nat.reduceMul, Nat.reduceSub, Nat.reduceDiv, Nat.reduceMod, pf_at, pf_ne, mk_s, mk_1, Classical.not_not, b2i_T, b2i_F, false_imp_iff, true_imp_iff, false_and, and_false, p_sw, Int.reduceAdd, Int.zero_add, Option.some.injEq, Value.int.injEq, Value.long.injEq, Value.ref.injEq, exists_eq_left', mk_I, mk_L, mk_wI, mk_wL, rf_s, rf_n, true_and, and_true, and_self, or_true, true_or, or_false, false_or, not_true_eq_false, not_false_eq_true, Option.toList_some, Option.toList_none, List.cons_append, List.nil_append, List.map_nil, List.map_cons, List.sum_nil, List.sum_cons, cat_i, cat_l, cat_r, cat_n, Nat.reduceLeDiff, Nat.reduceAdd, Nat.reduceEqDiff, Nat.zero_le, p_ent, p_u_ne, p_u_at, reduceIte, if_true, if_false, r1, va_rs, e2, e4]
/-- one more of code -/
def emW (I : Nat → Nat → Int32) (n o v : Nat) : Nat → Nat → Int32 := p_u (p_u (p_u I 42 n (nI o)) 43 n (nI v)) 36 6 (nI (n + 1))
theorem pl_77 {n o v : Nat} (hn : n < 400) (e : I 36 6 = nI n) : P_m d 77 [.ref 36, .int (nI o), .int (nI v)] (p_mk Ls I L R X) (fun w h' => w = some (.int (nI n)) ∧ h' = p_mk Ls (emW I n o v) L R X) := by
  have e1 : p_u I 42 n (nI o) 36 6 = nI n := by rw [p_u_ne (by omega)]; exact e
  have e2 : p_u (p_u I 42 n (nI o)) 43 n (nI v) 36 6 = nI n := by rw [p_u_ne (by omega)]; exact e1
  unfold emW
  have sb : nI (n + 1) - nI 1 = nI n := by rw [nn_sub (by omega)]; congr 1
  simp -implicitDefEqProofs (disch := first | omega | decide) only [P_m, ↓P_run_eq _ 77 _ (p_bk 77 0), bk_77_0, pb_77_0, ↓P_run_eq _ 77 _ (p_bk 77 1), bk_77_1, pb_77_1, pw_aload_n0, pw_aloadN_n0, pw_getI, pw_getR, pw_alen, pw_cge, pw_iload_n1, pw_iast, pw_iload_n2, pw_dupi, pw_dupr, pw_iconst, il_1, pw_iadd, pw_putI, pw_nop, pw_isub, pw_ret0, kd_36, rf_36_1, rf_36_2, rf_36_3, rf_36_4, rf_36_5, rf_36_7, rf_36_8, kd_42, kd_43, n_0, n_1, nn_lt, nn_nlt, nn_le, nn_nle, nn_ne, nn_sub, nn_mul, nI_add, nn_neg, nm_eq, mn_eq, mm_eq, mn_lt, nm_lt, mn_le, nm_le, nn_sub0, nn_of, implies_true, nn_c, nn_in, nn_div, nat_rem, Nat.reduceMul, Nat.reduceSub, Nat.reduceDiv, Nat.reduceMod, pf_at, pf_ne, mk_s, mk_1, Classical.not_not, b2i_T, b2i_F, false_imp_iff, true_imp_iff, false_and, and_false, p_sw, Int.reduceAdd, Int.zero_add, Option.some.injEq, Value.int.injEq, Value.long.injEq, Value.ref.injEq, exists_eq_left', mk_I, mk_L, mk_wI, mk_wL, rf_s, rf_n, true_and, and_true, and_self, or_true, true_or, or_false, false_or, not_true_eq_false, not_false_eq_true, Option.toList_some, Option.toList_none, List.cons_append, List.nil_append, List.map_nil, List.map_cons, List.sum_nil, List.sum_cons, cat_i, cat_l, cat_r, cat_n, Nat.reduceLeDiff, Nat.reduceAdd, Nat.reduceEqDiff, Nat.zero_le, p_ent, p_u_ne, p_u_at, reduceIte, if_true, if_false, e, e1, e2, sb]
theorem pl_78n : P_m d 78 [.ref 36, .int (mI 1)] (p_mk Ls I L R X) (fun w h' => w = none ∧ h' = p_mk Ls I L R X) := by
  simp -implicitDefEqProofs (disch := first | omega | decide) only [P_m, ↓P_run_eq _ 78 _ (p_bk 78 0), bk_78_0, pb_78_0, ↓P_run_eq _ 78 _ (p_bk 78 1), bk_78_1, pb_78_1, pw_iload_n1, pw_zlt, pw_aload_n0, pw_aloadN_n0, pw_getI, pw_cge, pw_getR, pw_iast, pw_nop, pw_vret, kd_36, rf_36_1, rf_36_2, rf_36_3, rf_36_4, rf_36_5, rf_36_7, rf_36_8, n_0, n_1, nn_lt, nn_nlt, nn_le, nn_nle, nn_ne, nn_sub, nn_mul, nI_add, nn_neg, nm_eq, mn_eq, mm_eq, mn_lt, nm_lt, mn_le, nm_le, nn_sub0, nn_of, implies_true, nn_c, nn_in, nn_div, nat_rem, Nat.reduceMul, Nat.reduceSub, Nat.reduceDiv, Nat.reduceMod, pf_at, pf_ne, mk_s, mk_1, Classical.not_not, b2i_T, b2i_F, false_imp_iff, true_imp_iff, false_and, and_false, p_sw, Int.reduceAdd, Int.zero_add, Option.some.injEq, Value.int.injEq, Value.long.injEq, Value.ref.injEq, exists_eq_left', mk_I, mk_L, mk_wI, mk_wL, rf_s, rf_n, true_and, and_true, and_self, or_true, true_or, or_false, false_or, not_true_eq_false, not_false_eq_true, Option.toList_some, Option.toList_none, List.cons_append, List.nil_append, List.map_nil, List.map_cons, List.sum_nil, List.sum_cons, cat_i, cat_l, cat_r, cat_n, Nat.reduceLeDiff, Nat.reduceAdd, Nat.reduceEqDiff, Nat.zero_le, p_ent, p_u_ne, p_u_at, reduceIte, if_true, if_false, lm1]
theorem pl_78 {n x : Nat} (hn : n ≤ 400) (hx : x < n) (e : I 36 6 = nI n) : P_m d 78 [.ref 36, .int (nI x)] (p_mk Ls I L R X) (fun w h' => w = none ∧ h' = p_mk Ls (p_u I 43 x (nI n)) L R X) := by
  simp -implicitDefEqProofs (disch := first | omega | decide) only [P_m, ↓P_run_eq _ 78 _ (p_bk 78 0), bk_78_0, pb_78_0, ↓P_run_eq _ 78 _ (p_bk 78 1), bk_78_1, pb_78_1, pw_iload_n1, pw_zlt, pw_aload_n0, pw_aloadN_n0, pw_getI, pw_cge, pw_getR, pw_iast, pw_nop, pw_vret, kd_36, rf_36_1, rf_36_2, rf_36_3, rf_36_4, rf_36_5, rf_36_7, rf_36_8, kd_43, n_0, n_1, nn_lt, nn_nlt, nn_le, nn_nle, nn_ne, nn_sub, nn_mul, nI_add, nn_neg, nm_eq, mn_eq, mm_eq, mn_lt, nm_lt, mn_le, nm_le, nn_sub0, nn_of, implies_true, nn_c, nn_in, nn_div, nat_rem, Nat.reduceMul, Nat.reduceSub, Nat.reduceDiv, Nat.reduceMod, pf_at, pf_ne, mk_s, mk_1, Classical.not_not, b2i_T, b2i_F, false_imp_iff, true_imp_iff, false_and, and_false, p_sw, Int.reduceAdd, Int.zero_add, Option.some.injEq, Value.int.injEq, Value.long.injEq, Value.ref.injEq, exists_eq_left', mk_I, mk_L, mk_wI, mk_wL, rf_s, rf_n, true_and, and_true, and_self, or_true, true_or, or_false, false_or, not_true_eq_false, not_false_eq_true, Option.toList_some, Option.toList_none, List.cons_append, List.nil_append, List.map_nil, List.map_cons, List.sum_nil, List.sum_cons, cat_i, cat_l, cat_r, cat_n, Nat.reduceLeDiff, Nat.reduceAdd, Nat.reduceEqDiff, Nat.zero_le, p_ent, p_u_ne, p_u_at, reduceIte, if_true, if_false, e]
def acW (I : Nat → Nat → Int32) (m kd t fr mi en : Nat) : Nat → Nat → Int32 := p_u (p_u (p_u (p_u (p_u (p_u I 37 m (nI kd)) 38 m (nI t)) 39 m (nI fr)) 40 m (nI mi)) 41 m (nI en)) 36 0 (nI (m + 1))
theorem pl_79 {m kd t fr mi en : Nat} (hm : m < 12) (e : I 36 0 = nI m) (e6 : I 36 6 = nI en) : P_m d 79 [.ref 36, .int (nI kd), .int (nI t), .int (nI fr), .int (nI mi)] (p_mk Ls I L R X) (fun w h' => w = none ∧ h' = p_mk Ls (acW I m kd t fr mi en) L R X) := by
  unfold acW
  simp -implicitDefEqProofs (disch := first | omega | decide) only [P_m, ↓P_run_eq _ 79 _ (p_bk 79 0), bk_79_0, pb_79_0, ↓P_run_eq _ 79 _ (p_bk 79 1), bk_79_1, pb_79_1, pw_aload_n0, pw_aloadN_n0, pw_getI, pw_getR, pw_alen, pw_cge, pw_iload_n1, pw_iast, pw_iload_n2, pw_iload_n3, pw_iload_4, pw_dupi, pw_dupr, pw_iconst, il_1, pw_iadd, pw_putI, pw_nop, pw_vret, kd_36, rf_36_1, rf_36_2, rf_36_3, rf_36_4, rf_36_5, rf_36_7, rf_36_8, kd_37, kd_38, kd_39, kd_40, kd_41, n_0, n_1, nn_lt, nn_nlt, nn_le, nn_nle, nn_ne, nn_sub, nn_mul, nI_add, nn_neg, nm_eq, mn_eq, mm_eq, mn_lt, nm_lt, mn_le, nm_le, nn_sub0, nn_of, implies_true, nn_c, nn_in, nn_div, nat_rem, Nat.reduceMul, Nat.reduceSub, Nat.reduceDiv, Nat.reduceMod, pf_at, pf_ne, mk_s, mk_1, Classical.not_not, b2i_T, b2i_F, false_imp_iff, true_imp_iff, false_and, and_false, p_sw, Int.reduceAdd, Int.zero_add, Option.some.injEq, Value.int.injEq, Value.long.injEq, Value.ref.injEq, exists_eq_left', mk_I, mk_L, mk_wI, mk_wL, rf_s, rf_n, true_and, and_true, and_self, or_true, true_or, or_false, false_or, not_true_eq_false, not_false_eq_true, Option.toList_some, Option.toList_none, List.cons_append, List.nil_append, List.map_nil, List.map_cons, List.sum_nil, List.sum_cons, cat_i, cat_l, cat_r, cat_n, Nat.reduceLeDiff, Nat.reduceAdd, Nat.reduceEqDiff, Nat.zero_le, p_ent, p_u_ne, p_u_at, reduceIte, if_true, if_false, e, e6]
end NU
