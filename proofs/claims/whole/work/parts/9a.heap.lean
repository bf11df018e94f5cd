/-- pairs below i within a set -/
def wM (A i : Nat) : Nat := bs (fun k => decide (tP k < i) && (A.testBit (tP k) && A.testBit (uP k))) 28
theorem wM_s {A t : Nat} : wM A t ||| pbM t A = wM A (t + 1) := by
  unfold wM pbM
  rw [bs_or]
  refine bs_cg 28 (fun k hk => ?_)
  rw [bt1_tb, bt1_tb]
  rcases Nat.lt_trichotomy (tP k) t with h | h | h
  · rw [decide_eq_true h, decide_eq_false (show ¬ tP k = t by omega), decide_eq_true (show tP k < t + 1 by omega), Bool.false_and, Bool.or_false]
  · subst h
    rw [decide_eq_false (show ¬ tP k < tP k by omega), decide_eq_true (show tP k = tP k from rfl), decide_eq_true (show tP k < tP k + 1 by omega), Bool.false_and, Bool.false_or]
  · rw [decide_eq_false (show ¬ tP k < t by omega), decide_eq_false (show ¬ tP k = t by omega), decide_eq_false (show ¬ tP k < t + 1 by omega)]
    rfl
theorem wM_0 (A : Nat) : wM A 0 = 0 := by
  refine Nat.eq_of_testBit_eq (fun k => ?_)
  unfold wM
  rw [bs_tb, decide_eq_false (show ¬ tP k < 0 by omega), Bool.false_and, Bool.and_false, Nat.zero_testBit]
/-- the least heap, the first of those -/
def hpF (V : Nat → Option Nat) : Nat → Option (Nat × Nat)
  | 0 => none
  | S + 1 => match V S with
    | none => hpF V S
    | some v => match hpF V S with
      | none => some (v, S)
      | some b => if v < b.1 then some (v, S) else some b
theorem hpF_le {V : Nat → Option Nat} {M : Nat} (hV : ∀ S v, V S = some v → v ≤ M) : ∀ S b, hpF V S = some b → b.1 ≤ M ∧ b.2 < S
  | 0, b, e => by cases e
  | S + 1, b, e => by
    have ih := hpF_le hV S
    unfold hpF at e
    cases e1 : V S with
    | none => rw [e1] at e; have := ih b e; omega
    | some v =>
      have := hV S v e1
      rw [e1] at e
      dsimp only at e
      cases e2 : hpF V S with
      | none => rw [e2] at e; cases e; exact ⟨this, by omega⟩
      | some b1 =>
        rw [e2] at e
        dsimp only at e
        have := ih b1 e2
        split at e <;> cases e <;> exact ⟨by omega, by omega⟩
theorem shl_n8 {t : Nat} (ht : t ≤ 8) : (nI 1 <<< (nI t &&& 31)) = nI (2 ^ t) := by
  have : ∀ t, t ≤ 8 → (nI 1 <<< (nI t &&& 31)) = nI (2 ^ t) := by decide
  exact this t ht
section HS
variable {d Ls : Nat} {I : Nat → Nat → Int32} {L : Nat → Nat → Int64} {R : Nat → Nat → Option Nat} {X : List pKd} {h : pHp} {c : Option (List tCl)} {r : Option Nat} {K : Nat → Int32}
def yH (c : Option (List tCl)) (K : Nat → Int32) (q : Nat) : Option Nat := if bv c K q (pc (kn K 0)) = true then none else some (yv c K q (pc (kn K 0)))
def vH (c : Option (List tCl)) (K : Nat → Int32) (S : Nat) : Option Nat := hpV (yH c K) (fun q => kn K (37 + q)) (kn K 52) (kn K 53) (wM (kn K 0) 8) S
def frG (I J : Nat → Nat → Int32) : Prop := ∀ a, ¬ a = 48 → ¬ a = 50 → ¬ a = 51 → ¬ a = 63 → ¬ a = 65 → J a = I a
theorem yH_le (hV : vld K) : ∀ j u, j < kn K 53 → yH c K j = some u → u ≤ 99 := fun j u hj e => by
  have m2 := (kn_53 hV).2
  unfold yH at e
  split at e
  · cases e
  · cases e; exact (yv_e (vld_env hV (by omega)) (pc_le _)).2
theorem vH_le (hV : vld K) : ∀ S v, vH c K S = some v → v ≤ 792 := fun S v e => by
  have m2 := (kn_53 hV).2
  unfold vH hpV at e
  cases e1 : hpS (yH c K) S (kn K 53) with
  | none => rw [e1] at e; cases e
  | some u =>
    rw [e1] at e
    dsimp only at e
    have := hpS_le _ _ (yH_le hV) e1
    split at e <;> cases e
    omega
theorem lp_41c (hV : vld K) (hK : hutR I 71 K) (hr : R 48 1 = some 71) : ∀ S, S ≤ 2 ^ kn K 53 → ∀ J, frG I J → (∀ q, q < kn K 53 → J 63 q = pnI (yH c K q) ∧ J 65 q = nI (apM (kn K (37 + q)) (kn K 52))) → J 48 3 = pnI ((hpF (vH c K) S).map Prod.fst) → (∀ b, hpF (vH c K) S = some b → J 48 5 = nI b.2) → P_run (d + 1) 41 (p_bk 41 5) 0 0 [.ref 48, .ref 71, .int (nI (wM (kn K 0) 8)), .int (nI S)] [] (p_mk Ls J L R X) (fun v h' => v = some (.int (nI (bN (hpF (vH c K) (2 ^ kn K 53)).isSome))) ∧ ∃ J', frG I J' ∧ (∀ b, hpF (vH c K) (2 ^ kn K 53) = some b → J' 48 3 = nI b.1 ∧ J' 48 5 = nI b.2) ∧ h' = p_mk Ls J' L R X) := by
  obtain ⟨m1, m2⟩ := kn_53 hV
  obtain ⟨⟨r1, r2, r3, r4, r5, r6, r7, r8⟩, -, ra, -⟩ := hutR_at hK
  have p2 : 2 ^ kn K 53 ≤ 2 ^ 8 := Nat.pow_le_pow_right (by omega) m2
  have sh := shl_n8 m2
  refine down_ind ?_ ?_
  · intro J hJ hS h3 h5
    have j2 : J 71 2 = nI (kn K 53) := by rw [hJ 71 (by omega) (by omega) (by omega) (by omega) (by omega)]; exact r2.trans m1
    have fl := hpF_le (vH_le (c := c) hV) (2 ^ kn K 53)
    generalize wM (kn K 0) 8 = W at *
    generalize 2 ^ kn K 53 = M at *
    cases hF : hpF (vH c K) M with
    | none =>
      rw [hF] at h3
      replace h3 : J 48 3 = mI 1 := h3
      rw [P_run_eq, bk_41_5, pb_41_5]; simp -implicitDefEqProofs (disch := first | omega | decide) only [P_m, ↓P_run_eq _ 41 _ (p_bk 41 8), bk_41_8, pb_41_8, ↓P_run_eq _ 41 _ (p_bk 41 9), bk_41_9, pb_41_9, ↓P_run_eq _ 41 _ (p_bk 41 10), bk_41_10, pb_41_10, pw_iload_n3, pw_iconst, il_1, pw_aload_n0, pw_aloadN_n0, pw_getR, pw_getI, pw_ishl, pw_cge, pw_iload_n2, pw_iv3, pw_istore, ps_4, pe_4, po_i4, po_r4, po_n4, po_u4, pw_iload_4, il_m1, pw_ceq, pw_nop, pw_goto, il_0, pw_ret1, kd_48, rf_48_0, rf_48_6, rf_48_7, rf_48_8, rf_48_9, rf_48_10, rf_48_12, rf_48_13, rf_48_14, rf_48_15, rf_48_1, rf_48_2, kd_71, rf_71_1, rf_71_3, rf_71_4, rf_71_5, rf_71_6, rf_71_11, rf_71_12, rf_71_14, n_0, n_1, nn_lt, nn_nlt, nn_le, nn_nle, nn_ne, nn_sub, nn_mul, nI_add, nn_neg, nm_eq, mn_eq, mm_eq, mn_lt, nm_lt, mn_le, nm_le, nn_sub0, nn_of, implies_true, nn_c, nn_in, nn_div, nat_rem, Nat.reduceMul, Nat.reduceSub, Nat.reduceDiv, Nat.reduceMod, pf_at, pf_ne, mk_s, mk_1, Classical.not_not, b2i_T, b2i_F, false_imp_iff, true_imp_iff, false_and, and_false, p_sw, Int.reduceAdd, Int.zero_add, Option.some.injEq, Value.int.injEq, Value.long.injEq, Value.ref.injEq, exists_eq_left', mk_I, mk_L, mk_wI, mk_wL, rf_s, rf_n, true_and, and_true, and_self, or_true, true_or, or_false, false_or, not_true_eq_false, not_false_eq_true, Option.toList_some, Option.toList_none, List.cons_append, List.nil_append, List.map_nil, List.map_cons, List.sum_nil, List.sum_cons, cat_i, cat_l, cat_r, cat_n, Nat.reduceLeDiff, Nat.reduceAdd, Nat.reduceEqDiff, Nat.zero_le, p_ent, p_u_ne, p_u_at, reduceIte, if_true, if_false, hr, va_rs, j2, sh, h3]
      exact ⟨rfl, J, hJ, fun b hb => (by cases hb), rfl⟩
    | some b =>
      have h5 := h5 b hF
      have fl := (fl b hF).1
      rw [hF] at h3
      replace h3 : J 48 3 = nI b.1 := h3
      rw [P_run_eq, bk_41_5, pb_41_5]; simp -implicitDefEqProofs (disch := first | omega | decide) only [P_m, ↓P_run_eq _ 41 _ (p_bk 41 8), bk_41_8, pb_41_8, ↓P_run_eq _ 41 _ (p_bk 41 10), bk_41_10, pb_41_10, pw_iload_n3, pw_iconst, il_1, pw_aload_n0, pw_aloadN_n0, pw_getR, pw_getI, pw_ishl, pw_cge, pw_iload_n2, pw_iv3, pw_istore, ps_4, pe_4, po_i4, po_r4, po_n4, po_u4, pw_iload_4, il_m1, pw_ceq, pw_nop, pw_goto, pw_ret1, kd_48, rf_48_0, rf_48_6, rf_48_7, rf_48_8, rf_48_9, rf_48_10, rf_48_12, rf_48_13, rf_48_14, rf_48_15, rf_48_1, rf_48_2, kd_71, rf_71_1, rf_71_3, rf_71_4, rf_71_5, rf_71_6, rf_71_11, rf_71_12, rf_71_14, n_0, n_1, nn_lt, nn_nlt, nn_le, nn_nle, nn_ne, nn_sub, nn_mul, nI_add, nn_neg, nm_eq, mn_eq, mm_eq, mn_lt, nm_lt, mn_le, nm_le, nn_sub0, nn_of, implies_true, nn_c, nn_in, nn_div, nat_rem, Nat.reduceMul, Nat.reduceSub, Nat.reduceDiv, Nat.reduceMod, pf_at, pf_ne, mk_s, mk_1, Classical.not_not, b2i_T, b2i_F, false_imp_iff, true_imp_iff, false_and, and_false, p_sw, Int.reduceAdd, Int.zero_add, Option.some.injEq, Value.int.injEq, Value.long.injEq, Value.ref.injEq, exists_eq_left', mk_I, mk_L, mk_wI, mk_wL, rf_s, rf_n, true_and, and_true, and_self, or_true, true_or, or_false, false_or, not_true_eq_false, not_false_eq_true, Option.toList_some, Option.toList_none, List.cons_append, List.nil_append, List.map_nil, List.map_cons, List.sum_nil, List.sum_cons, cat_i, cat_l, cat_r, cat_n, Nat.reduceLeDiff, Nat.reduceAdd, Nat.reduceEqDiff, Nat.zero_le, p_ent, p_u_ne, p_u_at, reduceIte, if_true, if_false, hr, va_rs, j2, sh, h3]
      exact ⟨rfl, J, hJ, fun b' hb => by cases hb; exact ⟨h3, h5⟩, rfl⟩
  · intro S hS2 ih J hJ hS h3 h5
    have j2 : J 71 2 = nI (kn K 53) := by rw [hJ 71 (by omega) (by omega) (by omega) (by omega) (by omega)]; exact r2.trans m1
    have s1 := pl_42 (d := d) (Ls := Ls) (I := J) (L := L) (R := R) (X := X) (S := S) (W := wM (kn K 0) 8) (n := kn K 52) (m := kn K 53) (y := yH c K) (a := fun q => kn K (37 + q)) m2 (by omega) (bs_28 _) (yH_le hV) j2 (fun q hq => (hS q hq).1) (fun q hq => (hS q hq).2) hr
    replace s1 : P_m d 42 [.ref 48, .int (nI S), .int (nI (wM (kn K 0) 8))] (p_mk Ls J L R X) (fun v h' => v = some (.int (pnI (vH c K S))) ∧ h' = p_mk Ls J L R X) := s1
    have vl := vH_le (c := c) hV S
    have fl := hpF_le (vH_le (c := c) hV) S
    have es : hpF (vH c K) (S + 1) = (match vH c K S with
      | none => hpF (vH c K) S
      | some v => match hpF (vH c K) S with
        | none => some (v, S)
        | some b => if v < b.1 then some (v, S) else some b) := rfl
    have kee : hpF (vH c K) (S + 1) = hpF (vH c K) S → P_run (d + 1) 41 (p_bk 41 5) 0 0 [.ref 48, .ref 71, .int (nI (wM (kn K 0) 8)), .int (nI (S + 1))] [] (p_mk Ls J L R X) _ := fun e => by
      rw [e] at ih
      exact ih J hJ hS h3 h5
    have yes : ∀ v, hpF (vH c K) (S + 1) = some (v, S) → P_run (d + 1) 41 (p_bk 41 5) 0 0 [.ref 48, .ref 71, .int (nI (wM (kn K 0) 8)), .int (nI (S + 1))] [] (p_mk Ls (p_u (p_u J 48 3 (nI v)) 48 5 (nI S)) L R X) _ := fun v e => by
      rw [e] at ih
      refine ih _ (fun a a1 a2 a3 a4 a5 => by rw [p_u_ne a1, p_u_ne a1]; exact hJ a a1 a2 a3 a4 a5) (fun q hq => by rw [p_u_ne (by omega), p_u_ne (by omega), p_u_ne (by omega), p_u_ne (by omega)]; exact hS q hq) ?_ ?_
      · rw [p_u_at, if_neg (by omega), p_u_at, if_pos rfl]; rfl
      · intro b hb; cases hb; rw [p_u_at, if_pos rfl]
    generalize wM (kn K 0) 8 = W at *
    generalize 2 ^ kn K 53 = M at *
    cases hv : vH c K S with
    | none =>
      rw [hv] at s1 es
      have nx := kee es
      replace s1 : P_m d 42 [.ref 48, .int (nI S), .int (nI W)] (p_mk Ls J L R X) (fun v h' => v = some (.int (mI 1)) ∧ h' = p_mk Ls J L R X) := s1
      rw [P_run_eq, bk_41_5, pb_41_5]; simp -implicitDefEqProofs (disch := first | omega | decide) only [P_m, ↓P_run_eq _ 41 _ (p_bk 41 7), bk_41_7, pb_41_7, pw_iload_n3, pw_iconst, il_1, pw_aload_n0, pw_aloadN_n0, pw_getR, pw_getI, pw_ishl, pw_cge, pw_iload_n2, pw_iv3, pw_istore, ps_4, pe_4, po_i4, po_r4, po_n4, po_u4, pw_iload_4, il_m1, pw_ceq, pw_nop, pw_iinc_3, po_i3, po_r3, po_n3, po_u3, pw_goto, kd_48, rf_48_0, rf_48_6, rf_48_7, rf_48_8, rf_48_9, rf_48_10, rf_48_12, rf_48_13, rf_48_14, rf_48_15, rf_48_1, rf_48_2, kd_71, rf_71_1, rf_71_3, rf_71_4, rf_71_5, rf_71_6, rf_71_11, rf_71_12, rf_71_14, n_0, n_1, nn_lt, nn_nlt, nn_le, nn_nle, nn_ne, nn_sub, nn_mul, nI_add, nn_neg, nm_eq, mn_eq, mm_eq, mn_lt, nm_lt, mn_le, nm_le, nn_sub0, nn_of, implies_true, nn_c, nn_in, nn_div, nat_rem, Nat.reduceMul, Nat.reduceSub, Nat.reduceDiv, Nat.reduceMod, pf_at, pf_ne, mk_s, mk_1, Classical.not_not, b2i_T, b2i_F, false_imp_iff, true_imp_iff, false_and, and_false, p_sw, Int.reduceAdd, Int.zero_add, Option.some.injEq, Value.int.injEq, Value.long.injEq, Value.ref.injEq, exists_eq_left', mk_I, mk_L, mk_wI, mk_wL, rf_s, rf_n, true_and, and_true, and_self, or_true, true_or, or_false, false_or, not_true_eq_false, not_false_eq_true, Option.toList_some, Option.toList_none, List.cons_append, List.nil_append, List.map_nil, List.map_cons, List.sum_nil, List.sum_cons, cat_i, cat_l, cat_r, cat_n, Nat.reduceLeDiff, Nat.reduceAdd, Nat.reduceEqDiff, Nat.zero_le, p_ent, p_u_ne, p_u_at, reduceIte, if_true, if_false, hr, va_rs, j2, sh, P_ce s1]
      exact P_ls nx one_l
    | some v =>
      have vl := vl v hv
      rw [hv] at s1 es
      replace s1 : P_m d 42 [.ref 48, .int (nI S), .int (nI W)] (p_mk Ls J L R X) (fun w h' => w = some (.int (nI v)) ∧ h' = p_mk Ls J L R X) := s1
      cases hF : hpF (vH c K) S with
      | none =>
        rw [hF] at es h3
        have nx := yes v es
        replace h3 : J 48 3 = mI 1 := h3
        rw [P_run_eq, bk_41_5, pb_41_5]; simp -implicitDefEqProofs (disch := first | omega | decide) only [P_m, ↓P_run_eq _ 41 _ (p_bk 41 6), bk_41_6, pb_41_6, ↓P_run_eq _ 41 _ (p_bk 41 7), bk_41_7, pb_41_7, pw_iload_n3, pw_iconst, il_1, pw_aload_n0, pw_aloadN_n0, pw_getR, pw_getI, pw_ishl, pw_cge, pw_iload_n2, pw_iv3, pw_istore, ps_4, pe_4, po_i4, po_r4, po_n4, po_u4, pw_iload_4, il_m1, pw_ceq, pw_nop, pw_putI, pw_iinc_3, po_i3, po_r3, po_n3, po_u3, pw_goto, kd_48, rf_48_0, rf_48_6, rf_48_7, rf_48_8, rf_48_9, rf_48_10, rf_48_12, rf_48_13, rf_48_14, rf_48_15, rf_48_1, rf_48_2, kd_71, rf_71_1, rf_71_3, rf_71_4, rf_71_5, rf_71_6, rf_71_11, rf_71_12, rf_71_14, n_0, n_1, nn_lt, nn_nlt, nn_le, nn_nle, nn_ne, nn_sub, nn_mul, nI_add, nn_neg, nm_eq, mn_eq, mm_eq, mn_lt, nm_lt, mn_le, nm_le, nn_sub0, nn_of, implies_true, nn_c, nn_in, nn_div, nat_rem, Nat.reduceMul, Nat.reduceSub, Nat.reduceDiv, Nat.reduceMod, pf_at, pf_ne, mk_s, mk_1, Classical.not_not, b2i_T, b2i_F, false_imp_iff, true_imp_iff, false_and, and_false, p_sw, Int.reduceAdd, Int.zero_add, Option.some.injEq, Value.int.injEq, Value.long.injEq, Value.ref.injEq, exists_eq_left', mk_I, mk_L, mk_wI, mk_wL, rf_s, rf_n, true_and, and_true, and_self, or_true, true_or, or_false, false_or, not_true_eq_false, not_false_eq_true, Option.toList_some, Option.toList_none, List.cons_append, List.nil_append, List.map_nil, List.map_cons, List.sum_nil, List.sum_cons, cat_i, cat_l, cat_r, cat_n, Nat.reduceLeDiff, Nat.reduceAdd, Nat.reduceEqDiff, Nat.zero_le, p_ent, p_u_ne, p_u_at, reduceIte, if_true, if_false, hr, va_rs, j2, sh, h3, P_ce s1]
        exact P_ls nx one_l
      | some b =>
        have fl := (fl b hF).1
        by_cases lt : v < b.1
        · have es2 : hpF (vH c K) (S + 1) = some (v, S) := by rw [es, hF]; exact if_pos lt
          have nx := yes v es2
          rw [hF] at h3
          replace h3 : J 48 3 = nI b.1 := h3
          rw [P_run_eq, bk_41_5, pb_41_5]; simp -implicitDefEqProofs (disch := first | omega | decide) only [P_m, ↓P_run_eq _ 41 _ (p_bk 41 6), bk_41_6, pb_41_6, ↓P_run_eq _ 41 _ (p_bk 41 7), bk_41_7, pb_41_7, pw_iload_n3, pw_iconst, il_1, pw_aload_n0, pw_aloadN_n0, pw_getR, pw_getI, pw_ishl, pw_cge, pw_iload_n2, pw_iv3, pw_istore, ps_4, pe_4, po_i4, po_r4, po_n4, po_u4, pw_iload_4, il_m1, pw_ceq, pw_nop, pw_putI, pw_iinc_3, po_i3, po_r3, po_n3, po_u3, pw_goto, kd_48, rf_48_0, rf_48_6, rf_48_7, rf_48_8, rf_48_9, rf_48_10, rf_48_12, rf_48_13, rf_48_14, rf_48_15, rf_48_1, rf_48_2, kd_71, rf_71_1, rf_71_3, rf_71_4, rf_71_5, rf_71_6, rf_71_11, rf_71_12, rf_71_14, n_0, n_1, nn_lt, nn_nlt, nn_le, nn_nle, nn_ne, nn_sub, nn_mul, nI_add, nn_neg, nm_eq, mn_eq, mm_eq, mn_lt, nm_lt, mn_le, nm_le, nn_sub0, nn_of, implies_true, nn_c, nn_in, nn_div, nat_rem, Nat.reduceMul, Nat.reduceSub, Nat.reduceDiv, Nat.reduceMod, pf_at, pf_ne, mk_s, mk_1, Classical.not_not, b2i_T, b2i_F, false_imp_iff, true_imp_iff, false_and, and_false, p_sw, Int.reduceAdd, Int.zero_add, Option.some.injEq, Value.int.injEq, Value.long.injEq, Value.ref.injEq, exists_eq_left', mk_I, mk_L, mk_wI, mk_wL, rf_s, rf_n, true_and, and_true, and_self, or_true, true_or, or_false, false_or, not_true_eq_false, not_false_eq_true, Option.toList_some, Option.toList_none, List.cons_append, List.nil_append, List.map_nil, List.map_cons, List.sum_nil, List.sum_cons, cat_i, cat_l, cat_r, cat_n, Nat.reduceLeDiff, Nat.reduceAdd, Nat.reduceEqDiff, Nat.zero_le, p_ent, p_u_ne, p_u_at, reduceIte, if_true, if_false, hr, va_rs, j2, sh, h3, P_ce s1]
          exact P_ls nx one_l
        · have es2 : hpF (vH c K) (S + 1) = hpF (vH c K) S := by rw [es, hF]; exact if_neg lt
          have nx := kee es2
          rw [hF] at h3
          replace h3 : J 48 3 = nI b.1 := h3
          rw [P_run_eq, bk_41_5, pb_41_5]; simp -implicitDefEqProofs (disch := first | omega | decide) only [P_m, ↓P_run_eq _ 41 _ (p_bk 41 7), bk_41_7, pb_41_7, pw_iload_n3, pw_iconst, il_1, pw_aload_n0, pw_aloadN_n0, pw_getR, pw_getI, pw_ishl, pw_cge, pw_iload_n2, pw_iv3, pw_istore, ps_4, pe_4, po_i4, po_r4, po_n4, po_u4, pw_iload_4, il_m1, pw_ceq, pw_nop, pw_iinc_3, po_i3, po_r3, po_n3, po_u3, pw_goto, kd_48, rf_48_0, rf_48_6, rf_48_7, rf_48_8, rf_48_9, rf_48_10, rf_48_12, rf_48_13, rf_48_14, rf_48_15, rf_48_1, rf_48_2, kd_71, rf_71_1, rf_71_3, rf_71_4, rf_71_5, rf_71_6, rf_71_11, rf_71_12, rf_71_14, n_0, n_1, nn_lt, nn_nlt, nn_le, nn_nle, nn_ne, nn_sub, nn_mul, nI_add, nn_neg, nm_eq, mn_eq, mm_eq, mn_lt, nm_lt, mn_le, nm_le, nn_sub0, nn_of, implies_true, nn_c, nn_in, nn_div, nat_rem, Nat.reduceMul, Nat.reduceSub, Nat.reduceDiv, Nat.reduceMod, pf_at, pf_ne, mk_s, mk_1, Classical.not_not, b2i_T, b2i_F, false_imp_iff, true_imp_iff, false_and, and_false, p_sw, Int.reduceAdd, Int.zero_add, Option.some.injEq, Value.int.injEq, Value.long.injEq, Value.ref.injEq, exists_eq_left', mk_I, mk_L, mk_wI, mk_wL, rf_s, rf_n, true_and, and_true, and_self, or_true, true_or, or_false, false_or, not_true_eq_false, not_false_eq_true, Option.toList_some, Option.toList_none, List.cons_append, List.nil_append, List.map_nil, List.map_cons, List.sum_nil, List.sum_cons, cat_i, cat_l, cat_r, cat_n, Nat.reduceLeDiff, Nat.reduceAdd, Nat.reduceEqDiff, Nat.zero_le, p_ent, p_u_ne, p_u_at, reduceIte, if_true, if_false, hr, va_rs, j2, sh, h3, P_ce s1]
          exact P_ls nx one_l
end HS
