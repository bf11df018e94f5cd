/-! ORDER: small things -/
section OD
variable {d Ls : Nat} {I : Nat → Nat → Int32} {L : Nat → Nat → Int64} {R : Nat → Nat → Option Nat} {X : List pKd} {h : pHp}
theorem pl_242 {m : Nat} {x : Int32} (hm : m ≤ 8) (e : I 125 53 = nI m) : (∃ S, S < 2 ^ m ∧ x = nI S ∧ P_m (d + 1) 242 [.ref 123, .int x] (p_mk Ls I L R X) (fun v h' => v = some (.int (nI (bN (decide (pc S ≤ 7))))) ∧ h' = p_mk Ls I L R X)) ∨ (¬ (nI 0 ≤ x ∧ x ≤ nI (2 ^ m - 1)) ∧ P_m (d + 1) 242 [.ref 123, .int x] (p_mk Ls I L R X) (fun v h' => v = some (.int (nI 0)) ∧ h' = p_mk Ls I L R X)) := by
  have p2 : 2 ^ m ≤ 2 ^ 8 := Nat.pow_le_pow_right (by omega) hm
  have p0 : 0 < 2 ^ m := Nat.two_pow_pos _
  have sh := shl_n8 hm
  have sb : nI (2 ^ m) - nI 1 = nI (2 ^ m - 1) := nn_sub (by omega)
  have s1 := sp_125 (d := d) (h := p_mk Ls I L R X) x (nI 0) (nI (2 ^ m - 1))
  by_cases hi : nI 0 ≤ x ∧ x ≤ nI (2 ^ m - 1)
  · left
    rw [show b2i (nI 0 ≤ x ∧ x ≤ nI (2 ^ m - 1)) = nI 1 from b2i_t hi] at s1
    obtain ⟨k, hk, rfl⟩ := nI_of (x := x) (Int32.not_lt.mpr hi.1)
    have h2 := hi.2
    rw [Int32.le_iff_toInt_le, nI_toInt hk, nI_toInt (by omega)] at h2
    refine ⟨k, by omega, rfl, ?_⟩
    have s2 := sp_132n (d := d) (h := p_mk Ls I L R X) (s := k) (by omega)
    have pl := pc_le k
    generalize 2 ^ m - 1 = A at *
    generalize 2 ^ m = B at *
    by_cases c : pc k ≤ 7
    · rw [decide_eq_true c, bN_t]
      generalize pc k = P at *
      simp -implicitDefEqProofs (disch := first | omega | decide) only [P_m, ↓P_run_eq _ 242 _ (p_bk 242 0), bk_242_0, pb_242_0, ↓P_run_eq _ 242 _ (p_bk 242 1), bk_242_1, pb_242_1, ↓P_run_eq _ 242 _ (p_bk 242 3), bk_242_3, pb_242_3, pw_iload_n1, pw_iconst, il_0, il_1, pw_aload_n0, pw_aloadN_n0, pw_getR, pw_bipush, bl_53, pw_iald, pw_ishl, pw_isub, pw_is3, pw_zne, pw_ret1, pw_is1, bl_8, pw_cge, pw_goto, kd_123, rf_123_1, rf_123_2, rf_123_3, rf_123_4, rf_123_5, rf_123_7, rf_123_11, rf_123_12, rf_123_15, rf_123_16, rf_123_17, rf_123_26, rf_123_29, rf_123_30, rf_123_32, rf_123_34, rf_123_35, rf_123_45, kd_125, n_0, n_1, n_8, n_53, nn_lt, nn_nlt, nn_le, nn_nle, nn_ne, nn_sub, nn_mul, nI_add, nn_neg, nm_eq, mn_eq, mm_eq, mn_lt, nm_lt, mn_le, nm_le, nn_sub0, nn_of, implies_true, nn_c, nn_in, nn_div, nat_rem, Nat.reduceMul, Nat.reduceSub, Nat.reduceDiv, Nat.reduceMod, pf_at, pf_ne, mk_s, mk_1, Classical.not_not, b2i_T, b2i_F, false_imp_iff, true_imp_iff, false_and, and_false, p_sw, Int.reduceAdd, Int.zero_add, Option.some.injEq, Value.int.injEq, Value.long.injEq, Value.ref.injEq, exists_eq_left', mk_I, mk_L, mk_wI, mk_wL, rf_s, rf_n, true_and, and_true, and_self, or_true, true_or, or_false, false_or, not_true_eq_false, not_false_eq_true, Option.toList_some, Option.toList_none, List.cons_append, List.nil_append, List.map_nil, List.map_cons, List.sum_nil, List.sum_cons, cat_i, cat_l, cat_r, cat_n, Nat.reduceLeDiff, Nat.reduceAdd, Nat.reduceEqDiff, Nat.zero_le, p_ent, p_u_ne, p_u_at, reduceIte, if_true, if_false, e, sh, sb, P_ce s1, P_ce s2]
    · rw [decide_eq_false c, bN_f]
      generalize pc k = P at *
      simp -implicitDefEqProofs (disch := first | omega | decide) only [P_m, ↓P_run_eq _ 242 _ (p_bk 242 0), bk_242_0, pb_242_0, ↓P_run_eq _ 242 _ (p_bk 242 1), bk_242_1, pb_242_1, ↓P_run_eq _ 242 _ (p_bk 242 2), bk_242_2, pb_242_2, ↓P_run_eq _ 242 _ (p_bk 242 3), bk_242_3, pb_242_3, pw_iload_n1, pw_iconst, il_0, il_1, pw_aload_n0, pw_aloadN_n0, pw_getR, pw_bipush, bl_53, pw_iald, pw_ishl, pw_isub, pw_is3, pw_zne, pw_ret1, pw_is1, bl_8, pw_cge, pw_goto, pw_nop, kd_123, rf_123_1, rf_123_2, rf_123_3, rf_123_4, rf_123_5, rf_123_7, rf_123_11, rf_123_12, rf_123_15, rf_123_16, rf_123_17, rf_123_26, rf_123_29, rf_123_30, rf_123_32, rf_123_34, rf_123_35, rf_123_45, kd_125, n_0, n_1, n_8, n_53, nn_lt, nn_nlt, nn_le, nn_nle, nn_ne, nn_sub, nn_mul, nI_add, nn_neg, nm_eq, mn_eq, mm_eq, mn_lt, nm_lt, mn_le, nm_le, nn_sub0, nn_of, implies_true, nn_c, nn_in, nn_div, nat_rem, Nat.reduceMul, Nat.reduceSub, Nat.reduceDiv, Nat.reduceMod, pf_at, pf_ne, mk_s, mk_1, Classical.not_not, b2i_T, b2i_F, false_imp_iff, true_imp_iff, false_and, and_false, p_sw, Int.reduceAdd, Int.zero_add, Option.some.injEq, Value.int.injEq, Value.long.injEq, Value.ref.injEq, exists_eq_left', mk_I, mk_L, mk_wI, mk_wL, rf_s, rf_n, true_and, and_true, and_self, or_true, true_or, or_false, false_or, not_true_eq_false, not_false_eq_true, Option.toList_some, Option.toList_none, List.cons_append, List.nil_append, List.map_nil, List.map_cons, List.sum_nil, List.sum_cons, cat_i, cat_l, cat_r, cat_n, Nat.reduceLeDiff, Nat.reduceAdd, Nat.reduceEqDiff, Nat.zero_le, p_ent, p_u_ne, p_u_at, reduceIte, if_true, if_false, e, sh, sb, P_ce s1, P_ce s2]
  · right
    refine ⟨hi, ?_⟩
    rw [show b2i (nI 0 ≤ x ∧ x ≤ nI (2 ^ m - 1)) = nI 0 from b2i_f hi] at s1
    generalize 2 ^ m - 1 = A at *
    generalize 2 ^ m = B at *
    simp -implicitDefEqProofs (disch := first | omega | decide) only [P_m, ↓P_run_eq _ 242 _ (p_bk 242 0), bk_242_0, pb_242_0, pw_iload_n1, pw_iconst, il_0, il_1, pw_aload_n0, pw_aloadN_n0, pw_getR, pw_bipush, bl_53, pw_iald, pw_ishl, pw_isub, pw_is3, pw_zne, pw_ret1, kd_123, rf_123_1, rf_123_2, rf_123_3, rf_123_4, rf_123_5, rf_123_7, rf_123_11, rf_123_12, rf_123_15, rf_123_16, rf_123_17, rf_123_26, rf_123_29, rf_123_30, rf_123_32, rf_123_34, rf_123_35, rf_123_45, kd_125, n_0, n_1, n_53, nn_lt, nn_nlt, nn_le, nn_nle, nn_ne, nn_sub, nn_mul, nI_add, nn_neg, nm_eq, mn_eq, mm_eq, mn_lt, nm_lt, mn_le, nm_le, nn_sub0, nn_of, implies_true, nn_c, nn_in, nn_div, nat_rem, Nat.reduceMul, Nat.reduceSub, Nat.reduceDiv, Nat.reduceMod, pf_at, pf_ne, mk_s, mk_1, Classical.not_not, b2i_T, b2i_F, false_imp_iff, true_imp_iff, false_and, and_false, p_sw, Int.reduceAdd, Int.zero_add, Option.some.injEq, Value.int.injEq, Value.long.injEq, Value.ref.injEq, exists_eq_left', mk_I, mk_L, mk_wI, mk_wL, rf_s, rf_n, true_and, and_true, and_self, or_true, true_or, or_false, false_or, not_true_eq_false, not_false_eq_true, Option.toList_some, Option.toList_none, List.cons_append, List.nil_append, List.map_nil, List.map_cons, List.sum_nil, List.sum_cons, cat_i, cat_l, cat_r, cat_n, Nat.reduceLeDiff, Nat.reduceAdd, Nat.reduceEqDiff, Nat.zero_le, p_ent, p_u_ne, p_u_at, reduceIte, if_true, if_false, e, sh, sb, P_ce s1]
end OD
