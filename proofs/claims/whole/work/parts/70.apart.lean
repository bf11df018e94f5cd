section AP
variable {d Ls : Nat} {I : Nat → Nat → Int32} {L : Nat → Nat → Int64} {R : Nat → Nat → Option Nat} {X : List pKd} {c : Option (List tCl)}
/-- whether two things answer unlike -/
def unl (K : Nat → Int32) (a b q : Nat) : Bool := decide (¬ an (kn K (37 + q)) a = an (kn K (37 + q)) b)
theorem lp_105 {a b : Nat} (hx : Cx Ls I R X c) (ha : a < kn (I 125) 52) (hb : b < kn (I 125) 52) : ∀ q, q ≤ kn (I 125) 53 → ∀ J, frJ I J → ∃ J', frJ I J' ∧ P_run (d + 5) 105 (p_bk 105 3) 0 0 [.ref 32, .int (nI a), .int (nI b), .int (apB (apF (unl (I 125) a b) (fun q => yv c (I 125) q (pc (kn (I 125) 0))) q)), .int (nI (apL 0 (apF (unl (I 125) a b) (fun q => yv c (I 125) q (pc (kn (I 125) 0))) q))), .int (nI q)] [] (p_mk Ls J L R X) (fun v h' => v = some (.int (apB (apF (unl (I 125) a b) (fun q => yv c (I 125) q (pc (kn (I 125) 0))) (kn (I 125) 53)))) ∧ h' = p_mk Ls J' L R X) := by
  have hV := hx.2.2.1
  obtain ⟨m1, m2⟩ := kn_53 hV
  obtain ⟨t1, t2⟩ := kn_52 hV
  obtain ⟨⟨r1, r2, r3, r4, r5, r6, r7, r8⟩, -, ra, -⟩ := hutR_at hx.1
  have r2' := r2.trans m1
  have yle : ∀ q, q < kn (I 125) 53 → (fun q => yv c (I 125) q (pc (kn (I 125) 0))) q ≤ 99 := fun q hq => (yv_e (vld_env hV (by omega)) (pc_le _)).2
  have ale := fun q hq => apF_le (f := unl (I 125) a b) yle q hq
  refine down_ind ?_ ?_
  · intro J hJ
    refine ⟨J, hJ, ?_⟩
    have j1 : J 71 2 = nI (kn (I 125) 53) := by rw [hJ 71 (by omega) (by omega)]; exact r2'
    rw [P_run_eq, bk_105_3, pb_105_3]; simp -implicitDefEqProofs (disch := first | omega | decide) only [P_m, ↓P_run_eq _ 105 _ (p_bk 105 7), bk_105_7, pb_105_7, pw_iload_5, pw_aload_n0, pw_aloadN_n0, pw_getR, pw_getI, pw_cge, pw_iload_n1, pw_iv3, pw_iload_n2, pw_cne, pw_goto, pw_iload_n3, pw_ret0, kd_32, rf_32_0, rf_32_1, rf_32_2, rf_32_3, rf_32_4, rf_32_5, rf_32_6, rf_32_7, rf_32_8, rf_32_9, rf_32_11, rf_32_12, rf_32_13, kd_71, rf_71_1, rf_71_3, rf_71_4, rf_71_5, rf_71_6, rf_71_11, rf_71_12, rf_71_14, n_0, n_1, nn_lt, nn_nlt, nn_le, nn_nle, nn_ne, nn_sub, nn_mul, nI_add, nn_neg, nm_eq, mn_eq, mm_eq, mn_lt, nm_lt, mn_le, nm_le, nn_sub0, nn_of, implies_true, nn_c, nn_in, nn_div, nat_rem, Nat.reduceMul, Nat.reduceSub, Nat.reduceDiv, Nat.reduceMod, pf_at, pf_ne, mk_s, mk_1, Classical.not_not, b2i_T, b2i_F, false_imp_iff, true_imp_iff, false_and, and_false, p_sw, Int.reduceAdd, Int.zero_add, Option.some.injEq, Value.int.injEq, Value.long.injEq, Value.ref.injEq, exists_eq_left', mk_I, mk_L, mk_wI, mk_wL, rf_s, rf_n, true_and, and_true, and_self, or_true, true_or, or_false, false_or, not_true_eq_false, not_false_eq_true, Option.toList_some, Option.toList_none, List.cons_append, List.nil_append, List.map_nil, List.map_cons, List.sum_nil, List.sum_cons, cat_i, cat_l, cat_r, cat_n, Nat.reduceLeDiff, Nat.reduceAdd, Nat.reduceEqDiff, Nat.zero_le, p_ent, p_u_ne, p_u_at, reduceIte, if_true, if_false, j1]
  · intro q hq ih J hJ
    have hq8 : q < 8 := by omega
    obtain ⟨q1, q2, q3, q4, q5⟩ := ra q hq8
    obtain ⟨y1, y2⟩ := kn_37 hV hq8
    have j1 : J 71 2 = nI (kn (I 125) 53) := by rw [hJ 71 (by omega) (by omega)]; exact r2'
    have j2 : J 75 q = nI (kn (I 125) (37 + q)) := by rw [hJ 75 (by omega) (by omega)]; exact q4.trans y1
    have z1 := sp_14n (d := d + 4) (Ls := Ls) (I := J) (L := L) (R := R) (X := X) (q := q) (t := a) hq8 (by omega) y2 j2
    have z2 := sp_14n (d := d + 4) (Ls := Ls) (I := J) (L := L) (R := R) (X := X) (q := q) (t := b) hq8 (by omega) y2 j2
    have l1 := an_lt (kn (I 125) (37 + q)) a
    have l2 := an_lt (kn (I 125) (37 + q)) b
    by_cases hu : an (kn (I 125) (37 + q)) a = an (kn (I 125) (37 + q)) b
    · have e1 : apF (unl (I 125) a b) (fun q => yv c (I 125) q (pc (kn (I 125) 0))) (q + 1) = apF (unl (I 125) a b) (fun q => yv c (I 125) q (pc (kn (I 125) 0))) q := by
        show (if unl (I 125) a b q = true then _ else _) = _
        rw [if_neg (by unfold unl; rw [decide_eq_false (fun h => h hu)]; decide)]
      rw [e1] at ih
      obtain ⟨J', f', s'⟩ := ih J hJ
      refine ⟨J', f', ?_⟩
      rw [hu] at z1
      generalize apF (unl (I 125) a b) (fun q => yv c (I 125) q (pc (kn (I 125) 0))) q = A at s' ⊢
      rw [P_run_eq, bk_105_3, pb_105_3]; simp -implicitDefEqProofs (disch := first | omega | decide) only [P_m, ↓P_run_eq _ 105 _ (p_bk 105 6), bk_105_6, pb_105_6, pw_iload_5, pw_aload_n0, pw_aloadN_n0, pw_getR, pw_getI, pw_cge, pw_iload_n1, pw_iv3, pw_iload_n2, pw_cne, pw_goto, pw_iinc_5, il_1, po_i5, po_r5, po_n5, po_u5, kd_32, rf_32_0, rf_32_1, rf_32_2, rf_32_3, rf_32_4, rf_32_5, rf_32_6, rf_32_7, rf_32_8, rf_32_9, rf_32_11, rf_32_12, rf_32_13, kd_71, rf_71_1, rf_71_3, rf_71_4, rf_71_5, rf_71_6, rf_71_11, rf_71_12, rf_71_14, n_0, n_1, nn_lt, nn_nlt, nn_le, nn_nle, nn_ne, nn_sub, nn_mul, nI_add, nn_neg, nm_eq, mn_eq, mm_eq, mn_lt, nm_lt, mn_le, nm_le, nn_sub0, nn_of, implies_true, nn_c, nn_in, nn_div, nat_rem, Nat.reduceMul, Nat.reduceSub, Nat.reduceDiv, Nat.reduceMod, pf_at, pf_ne, mk_s, mk_1, Classical.not_not, b2i_T, b2i_F, false_imp_iff, true_imp_iff, false_and, and_false, p_sw, Int.reduceAdd, Int.zero_add, Option.some.injEq, Value.int.injEq, Value.long.injEq, Value.ref.injEq, exists_eq_left', mk_I, mk_L, mk_wI, mk_wL, rf_s, rf_n, true_and, and_true, and_self, or_true, true_or, or_false, false_or, not_true_eq_false, not_false_eq_true, Option.toList_some, Option.toList_none, List.cons_append, List.nil_append, List.map_nil, List.map_cons, List.sum_nil, List.sum_cons, cat_i, cat_l, cat_r, cat_n, Nat.reduceLeDiff, Nat.reduceAdd, Nat.reduceEqDiff, Nat.zero_le, p_ent, p_u_ne, p_u_at, reduceIte, if_true, if_false, j1, P_ce z1, P_ce z2]
      exact s'
    · obtain ⟨J1, f1, s1⟩ := sp_123 (L := L) (D := d + 4) (Cx_J hx hJ) hq8 (by omega)
      rw [hJ 125 (by omega) (by omega)] at s1
      obtain ⟨J', f', s'⟩ := ih J1 (frJ_tr hJ f1)
      refine ⟨J', f', ?_⟩
      have e1 : apF (unl (I 125) a b) (fun q => yv c (I 125) q (pc (kn (I 125) 0))) (q + 1) = (match apF (unl (I 125) a b) (fun q => yv c (I 125) q (pc (kn (I 125) 0))) q with
          | none => some (q, yv c (I 125) q (pc (kn (I 125) 0)))
          | some b => if yv c (I 125) q (pc (kn (I 125) 0)) < b.2 then some (q, yv c (I 125) q (pc (kn (I 125) 0))) else some b) := by
        show (if unl (I 125) a b q = true then _ else _) = _
        rw [if_pos (by unfold unl; rw [decide_eq_true hu])]
        rfl
      rw [e1] at s'
      have yq := yle q hq
      have aq := ale q (by omega)
      cases hA : apF (unl (I 125) a b) (fun q => yv c (I 125) q (pc (kn (I 125) 0))) q with
      | none =>
        rw [hA] at s'
        dsimp only at s' yq
        show P_run (d + 5) 105 (p_bk 105 3) 0 0 [.ref 32, .int (nI a), .int (nI b), .int (mI 1), .int (nI 0), .int (nI q)] [] (p_mk Ls J L R X) _
        rw [P_run_eq, bk_105_3, pb_105_3]; simp -implicitDefEqProofs (disch := first | omega | decide) only [P_m, ↓P_run_eq _ 105 _ (p_bk 105 4), bk_105_4, pb_105_4, ↓P_run_eq _ 105 _ (p_bk 105 5), bk_105_5, pb_105_5, ↓P_run_eq _ 105 _ (p_bk 105 6), bk_105_6, pb_105_6, pw_iload_5, pw_aload_n0, pw_aloadN_n0, pw_getR, pw_getI, pw_cge, pw_iload_n1, pw_iv3, pw_iload_n2, pw_cne, pw_goto, pw_iv2, pw_istore, ps_6, pe_6, po_i6, po_r6, po_n6, po_u6, pw_iload_n3, pw_iconst, il_m1, pw_ceq, pw_iload_6, pw_iload_4, pw_nop, pw_istore_n3, ps_3, pe_3, po_i3, po_r3, po_n3, po_u3, ps_4, pe_4, po_i4, po_r4, po_n4, po_u4, pw_iinc_5, il_1, po_i5, po_r5, po_n5, po_u5, kd_32, rf_32_0, rf_32_1, rf_32_2, rf_32_3, rf_32_4, rf_32_5, rf_32_6, rf_32_7, rf_32_8, rf_32_9, rf_32_11, rf_32_12, rf_32_13, kd_71, rf_71_1, rf_71_3, rf_71_4, rf_71_5, rf_71_6, rf_71_11, rf_71_12, rf_71_14, n_0, n_1, nn_lt, nn_nlt, nn_le, nn_nle, nn_ne, nn_sub, nn_mul, nI_add, nn_neg, nm_eq, mn_eq, mm_eq, mn_lt, nm_lt, mn_le, nm_le, nn_sub0, nn_of, implies_true, nn_c, nn_in, nn_div, nat_rem, Nat.reduceMul, Nat.reduceSub, Nat.reduceDiv, Nat.reduceMod, pf_at, pf_ne, mk_s, mk_1, Classical.not_not, b2i_T, b2i_F, false_imp_iff, true_imp_iff, false_and, and_false, p_sw, Int.reduceAdd, Int.zero_add, Option.some.injEq, Value.int.injEq, Value.long.injEq, Value.ref.injEq, exists_eq_left', mk_I, mk_L, mk_wI, mk_wL, rf_s, rf_n, true_and, and_true, and_self, or_true, true_or, or_false, false_or, not_true_eq_false, not_false_eq_true, Option.toList_some, Option.toList_none, List.cons_append, List.nil_append, List.map_nil, List.map_cons, List.sum_nil, List.sum_cons, cat_i, cat_l, cat_r, cat_n, Nat.reduceLeDiff, Nat.reduceAdd, Nat.reduceEqDiff, Nat.zero_le, p_ent, p_u_ne, p_u_at, reduceIte, if_true, if_false, j1, P_ce z1, P_ce z2, P_ce s1]
        exact P_ls s' one_l
      | some x =>
        obtain ⟨x1, x2⟩ := x
        obtain ⟨b1, b2⟩ := aq _ hA
        rw [hA] at s'
        dsimp only at s' yq b1 b2
        show P_run (d + 5) 105 (p_bk 105 3) 0 0 [.ref 32, .int (nI a), .int (nI b), .int (nI x1), .int (nI x2), .int (nI q)] [] (p_mk Ls J L R X) _
        by_cases hl : yv c (I 125) q (pc (kn (I 125) 0)) < x2
        · rw [if_pos hl] at s'
          rw [P_run_eq, bk_105_3, pb_105_3]; simp -implicitDefEqProofs (disch := first | omega | decide) only [P_m, ↓P_run_eq _ 105 _ (p_bk 105 4), bk_105_4, pb_105_4, ↓P_run_eq _ 105 _ (p_bk 105 5), bk_105_5, pb_105_5, ↓P_run_eq _ 105 _ (p_bk 105 6), bk_105_6, pb_105_6, pw_iload_5, pw_aload_n0, pw_aloadN_n0, pw_getR, pw_getI, pw_cge, pw_iload_n1, pw_iv3, pw_iload_n2, pw_cne, pw_goto, pw_iv2, pw_istore, ps_6, pe_6, po_i6, po_r6, po_n6, po_u6, pw_iload_n3, pw_iconst, il_m1, pw_ceq, pw_iload_6, pw_iload_4, pw_nop, pw_istore_n3, ps_3, pe_3, po_i3, po_r3, po_n3, po_u3, ps_4, pe_4, po_i4, po_r4, po_n4, po_u4, pw_iinc_5, il_1, po_i5, po_r5, po_n5, po_u5, kd_32, rf_32_0, rf_32_1, rf_32_2, rf_32_3, rf_32_4, rf_32_5, rf_32_6, rf_32_7, rf_32_8, rf_32_9, rf_32_11, rf_32_12, rf_32_13, kd_71, rf_71_1, rf_71_3, rf_71_4, rf_71_5, rf_71_6, rf_71_11, rf_71_12, rf_71_14, n_0, n_1, nn_lt, nn_nlt, nn_le, nn_nle, nn_ne, nn_sub, nn_mul, nI_add, nn_neg, nm_eq, mn_eq, mm_eq, mn_lt, nm_lt, mn_le, nm_le, nn_sub0, nn_of, implies_true, nn_c, nn_in, nn_div, nat_rem, Nat.reduceMul, Nat.reduceSub, Nat.reduceDiv, Nat.reduceMod, pf_at, pf_ne, mk_s, mk_1, Classical.not_not, b2i_T, b2i_F, false_imp_iff, true_imp_iff, false_and, and_false, p_sw, Int.reduceAdd, Int.zero_add, Option.some.injEq, Value.int.injEq, Value.long.injEq, Value.ref.injEq, exists_eq_left', mk_I, mk_L, mk_wI, mk_wL, rf_s, rf_n, true_and, and_true, and_self, or_true, true_or, or_false, false_or, not_true_eq_false, not_false_eq_true, Option.toList_some, Option.toList_none, List.cons_append, List.nil_append, List.map_nil, List.map_cons, List.sum_nil, List.sum_cons, cat_i, cat_l, cat_r, cat_n, Nat.reduceLeDiff, Nat.reduceAdd, Nat.reduceEqDiff, Nat.zero_le, p_ent, p_u_ne, p_u_at, reduceIte, if_true, if_false, j1, P_ce z1, P_ce z2, P_ce s1]
          exact P_ls s' one_l
        · rw [if_neg hl] at s'
          rw [P_run_eq, bk_105_3, pb_105_3]; simp -implicitDefEqProofs (disch := first | omega | decide) only [P_m, ↓P_run_eq _ 105 _ (p_bk 105 4), bk_105_4, pb_105_4, ↓P_run_eq _ 105 _ (p_bk 105 5), bk_105_5, pb_105_5, ↓P_run_eq _ 105 _ (p_bk 105 6), bk_105_6, pb_105_6, pw_iload_5, pw_aload_n0, pw_aloadN_n0, pw_getR, pw_getI, pw_cge, pw_iload_n1, pw_iv3, pw_iload_n2, pw_cne, pw_goto, pw_iv2, pw_istore, ps_6, pe_6, po_i6, po_r6, po_n6, po_u6, pw_iload_n3, pw_iconst, il_m1, pw_ceq, pw_iload_6, pw_iload_4, pw_nop, pw_istore_n3, ps_3, pe_3, po_i3, po_r3, po_n3, po_u3, ps_4, pe_4, po_i4, po_r4, po_n4, po_u4, pw_iinc_5, il_1, po_i5, po_r5, po_n5, po_u5, kd_32, rf_32_0, rf_32_1, rf_32_2, rf_32_3, rf_32_4, rf_32_5, rf_32_6, rf_32_7, rf_32_8, rf_32_9, rf_32_11, rf_32_12, rf_32_13, kd_71, rf_71_1, rf_71_3, rf_71_4, rf_71_5, rf_71_6, rf_71_11, rf_71_12, rf_71_14, n_0, n_1, nn_lt, nn_nlt, nn_le, nn_nle, nn_ne, nn_sub, nn_mul, nI_add, nn_neg, nm_eq, mn_eq, mm_eq, mn_lt, nm_lt, mn_le, nm_le, nn_sub0, nn_of, implies_true, nn_c, nn_in, nn_div, nat_rem, Nat.reduceMul, Nat.reduceSub, Nat.reduceDiv, Nat.reduceMod, pf_at, pf_ne, mk_s, mk_1, Classical.not_not, b2i_T, b2i_F, false_imp_iff, true_imp_iff, false_and, and_false, p_sw, Int.reduceAdd, Int.zero_add, Option.some.injEq, Value.int.injEq, Value.long.injEq, Value.ref.injEq, exists_eq_left', mk_I, mk_L, mk_wI, mk_wL, rf_s, rf_n, true_and, and_true, and_self, or_true, true_or, or_false, false_or, not_true_eq_false, not_false_eq_true, Option.toList_some, Option.toList_none, List.cons_append, List.nil_append, List.map_nil, List.map_cons, List.sum_nil, List.sum_cons, cat_i, cat_l, cat_r, cat_n, Nat.reduceLeDiff, Nat.reduceAdd, Nat.reduceEqDiff, Nat.zero_le, p_ent, p_u_ne, p_u_at, reduceIte, if_true, if_false, j1, P_ce z1, P_ce z2, P_ce s1]
          exact P_ls s' one_l
theorem lp_239 {a b : Nat} (hx : Cx Ls I R X c) (ha : a < kn (I 125) 52) (hb : b < kn (I 125) 52) : ∀ q, q ≤ kn (I 125) 53 → ∀ J, frE I J → ∃ J', frE I J' ∧ P_run (d + 60) 239 (p_bk 239 3) 0 0 [.ref 123, .int (nI a), .int (nI b), .int (apB (apF (unl (I 125) a b) (fun q => yv c (I 125) q (pc (kn (I 125) 0))) q)), .int (nI (apL 1000000 (apF (unl (I 125) a b) (fun q => yv c (I 125) q (pc (kn (I 125) 0))) q))), .int (nI q)] [] (p_mk Ls J L R X) (fun v h' => v = some (.int (apB (apF (unl (I 125) a b) (fun q => yv c (I 125) q (pc (kn (I 125) 0))) (kn (I 125) 53)))) ∧ h' = p_mk Ls J' L R X) := by
  have hV := hx.2.2.1
  obtain ⟨m1, m2⟩ := kn_53 hV
  obtain ⟨t1, t2⟩ := kn_52 hV
  obtain ⟨k1, k2, k3⟩ := kn_0 hV
  have yle : ∀ q, q < kn (I 125) 53 → (fun q => yv c (I 125) q (pc (kn (I 125) 0))) q ≤ 99 := fun q hq => (yv_e (vld_env hV (by omega)) (pc_le _)).2
  have ale := fun q hq => apF_le (f := unl (I 125) a b) yle q hq
  refine down_ind ?_ ?_
  · intro J hJ
    refine ⟨J, hJ, ?_⟩
    have j1 : J 125 53 = nI (kn (I 125) 53) := by rw [hJ.1 125 (by omega) (by omega)]; exact m1
    rw [P_run_eq, bk_239_3, pb_239_3]; simp -implicitDefEqProofs (disch := first | omega | decide) only [P_m, ↓P_run_eq _ 239 _ (p_bk 239 7), bk_239_7, pb_239_7, pw_iload_5, pw_aload_n0, pw_aloadN_n0, pw_getR, pw_bipush, bl_53, pw_iald, pw_cge, pw_iload_n1, pw_iv3, pw_iload_n2, pw_cne, pw_goto, pw_iload_n3, pw_ret0, kd_123, rf_123_1, rf_123_2, rf_123_3, rf_123_4, rf_123_5, rf_123_7, rf_123_11, rf_123_12, rf_123_15, rf_123_16, rf_123_17, rf_123_26, rf_123_29, rf_123_30, rf_123_32, rf_123_34, rf_123_35, rf_123_45, kd_125, n_0, n_1, n_53, nn_lt, nn_nlt, nn_le, nn_nle, nn_ne, nn_sub, nn_mul, nI_add, nn_neg, nm_eq, mn_eq, mm_eq, mn_lt, nm_lt, mn_le, nm_le, nn_sub0, nn_of, implies_true, nn_c, nn_in, nn_div, nat_rem, Nat.reduceMul, Nat.reduceSub, Nat.reduceDiv, Nat.reduceMod, pf_at, pf_ne, mk_s, mk_1, Classical.not_not, b2i_T, b2i_F, false_imp_iff, true_imp_iff, false_and, and_false, p_sw, Int.reduceAdd, Int.zero_add, Option.some.injEq, Value.int.injEq, Value.long.injEq, Value.ref.injEq, exists_eq_left', mk_I, mk_L, mk_wI, mk_wL, rf_s, rf_n, true_and, and_true, and_self, or_true, true_or, or_false, false_or, not_true_eq_false, not_false_eq_true, Option.toList_some, Option.toList_none, List.cons_append, List.nil_append, List.map_nil, List.map_cons, List.sum_nil, List.sum_cons, cat_i, cat_l, cat_r, cat_n, Nat.reduceLeDiff, Nat.reduceAdd, Nat.reduceEqDiff, Nat.zero_le, p_ent, p_u_ne, p_u_at, reduceIte, if_true, if_false, j1]
  · intro q hq ih J hJ
    have hq8 : q < 8 := by omega
    obtain ⟨y1, y2⟩ := kn_37 hV hq8
    have e125 := hJ.1 125 (by omega) (by omega)
    have j1 : J 125 53 = nI (kn (I 125) 53) := by rw [e125]; exact m1
    have j2 : J 125 (37 + q) = nI (kn (I 125) (37 + q)) := by rw [e125]; exact y1
    have z1 := sp_142 (d := d + 59) (Ls := Ls) (I := J) (L := L) (R := R) (X := X) (q := q) (t := a) hq8 (by omega) y2 j2
    have z2 := sp_142 (d := d + 59) (Ls := Ls) (I := J) (L := L) (R := R) (X := X) (q := q) (t := b) hq8 (by omega) y2 j2
    have l1 := an_lt (kn (I 125) (37 + q)) a
    have l2 := an_lt (kn (I 125) (37 + q)) b
    by_cases hu : an (kn (I 125) (37 + q)) a = an (kn (I 125) (37 + q)) b
    · have e1 : apF (unl (I 125) a b) (fun q => yv c (I 125) q (pc (kn (I 125) 0))) (q + 1) = apF (unl (I 125) a b) (fun q => yv c (I 125) q (pc (kn (I 125) 0))) q := by
        show (if unl (I 125) a b q = true then _ else _) = _
        rw [if_neg (by unfold unl; rw [decide_eq_false (fun h => h hu)]; decide)]
      rw [e1] at ih
      obtain ⟨J', f', s'⟩ := ih J hJ
      refine ⟨J', f', ?_⟩
      rw [hu] at z1
      generalize apF (unl (I 125) a b) (fun q => yv c (I 125) q (pc (kn (I 125) 0))) q = A at s' ⊢
      rw [P_run_eq, bk_239_3, pb_239_3]; simp -implicitDefEqProofs (disch := first | omega | decide) only [P_m, ↓P_run_eq _ 239 _ (p_bk 239 6), bk_239_6, pb_239_6, pw_iload_5, pw_aload_n0, pw_aloadN_n0, pw_getR, pw_bipush, bl_53, pw_iald, pw_cge, pw_iload_n1, pw_iv3, pw_iload_n2, pw_cne, pw_goto, pw_iinc_5, il_1, po_i5, po_r5, po_n5, po_u5, kd_123, rf_123_1, rf_123_2, rf_123_3, rf_123_4, rf_123_5, rf_123_7, rf_123_11, rf_123_12, rf_123_15, rf_123_16, rf_123_17, rf_123_26, rf_123_29, rf_123_30, rf_123_32, rf_123_34, rf_123_35, rf_123_45, kd_125, n_0, n_1, n_53, nn_lt, nn_nlt, nn_le, nn_nle, nn_ne, nn_sub, nn_mul, nI_add, nn_neg, nm_eq, mn_eq, mm_eq, mn_lt, nm_lt, mn_le, nm_le, nn_sub0, nn_of, implies_true, nn_c, nn_in, nn_div, nat_rem, Nat.reduceMul, Nat.reduceSub, Nat.reduceDiv, Nat.reduceMod, pf_at, pf_ne, mk_s, mk_1, Classical.not_not, b2i_T, b2i_F, false_imp_iff, true_imp_iff, false_and, and_false, p_sw, Int.reduceAdd, Int.zero_add, Option.some.injEq, Value.int.injEq, Value.long.injEq, Value.ref.injEq, exists_eq_left', mk_I, mk_L, mk_wI, mk_wL, rf_s, rf_n, true_and, and_true, and_self, or_true, true_or, or_false, false_or, not_true_eq_false, not_false_eq_true, Option.toList_some, Option.toList_none, List.cons_append, List.nil_append, List.map_nil, List.map_cons, List.sum_nil, List.sum_cons, cat_i, cat_l, cat_r, cat_n, Nat.reduceLeDiff, Nat.reduceAdd, Nat.reduceEqDiff, Nat.zero_le, p_ent, p_u_ne, p_u_at, reduceIte, if_true, if_false, j1, P_ce z1, P_ce z2]
      exact s'
    · have hxJ := Cx_E hx hJ
      have k1' : J 125 0 = nI (kn (I 125) 0) := by rw [e125]; exact k1
      have s0 := sp_196 (d := d + 58) (Ls := Ls) (I := J) (L := L) (R := R) (X := X) k3 k1'
      obtain ⟨J1, f1, s1⟩ := ages_r (Ls := Ls) (L := L) (R := R) (X := X) (D := d + 59) (q := q) hxJ.2.2.2.1 (vld_env hxJ.2.2.1 hq8) (pc_le (kn (I 125) 0)) (by omega)
      rw [(yv_e (vld_env hxJ.2.2.1 hq8) (pc_le _)).1, e125] at s1
      obtain ⟨J', f', s'⟩ := ih J1 (frE_tr hJ f1)
      refine ⟨J', f', ?_⟩
      have e1 : apF (unl (I 125) a b) (fun q => yv c (I 125) q (pc (kn (I 125) 0))) (q + 1) = (match apF (unl (I 125) a b) (fun q => yv c (I 125) q (pc (kn (I 125) 0))) q with
          | none => some (q, yv c (I 125) q (pc (kn (I 125) 0)))
          | some b => if yv c (I 125) q (pc (kn (I 125) 0)) < b.2 then some (q, yv c (I 125) q (pc (kn (I 125) 0))) else some b) := by
        show (if unl (I 125) a b q = true then _ else _) = _
        rw [if_pos (by unfold unl; rw [decide_eq_true hu])]
        rfl
      rw [e1] at s'
      have yq := yle q hq
      have aq := ale q (by omega)
      cases hA : apF (unl (I 125) a b) (fun q => yv c (I 125) q (pc (kn (I 125) 0))) q with
      | none =>
        rw [hA] at s'
        dsimp only at s' yq
        show P_run (d + 60) 239 (p_bk 239 3) 0 0 [.ref 123, .int (nI a), .int (nI b), .int (mI 1), .int (nI 1000000), .int (nI q)] [] (p_mk Ls J L R X) _
        rw [P_run_eq, bk_239_3, pb_239_3]; simp -implicitDefEqProofs (disch := first | omega | decide) only [P_m, ↓P_run_eq _ 239 _ (p_bk 239 4), bk_239_4, pb_239_4, ↓P_run_eq _ 239 _ (p_bk 239 5), bk_239_5, pb_239_5, ↓P_run_eq _ 239 _ (p_bk 239 6), bk_239_6, pb_239_6, pw_iload_5, pw_aload_n0, pw_aloadN_n0, pw_getR, pw_bipush, bl_53, pw_iald, pw_cge, pw_iload_n1, pw_iv3, pw_iload_n2, pw_cne, pw_goto, pw_iv1, pw_istore, ps_6, pe_6, po_i6, po_r6, po_n6, po_u6, pw_iload_6, pw_iload_4, pw_clt, ps_4, pe_4, po_i4, po_r4, po_n4, po_u4, pw_istore_n3, ps_3, pe_3, po_i3, po_r3, po_n3, po_u3, pw_nop, pw_iinc_5, il_1, po_i5, po_r5, po_n5, po_u5, kd_123, rf_123_1, rf_123_2, rf_123_3, rf_123_4, rf_123_5, rf_123_7, rf_123_11, rf_123_12, rf_123_15, rf_123_16, rf_123_17, rf_123_26, rf_123_29, rf_123_30, rf_123_32, rf_123_34, rf_123_35, rf_123_45, kd_125, n_0, n_1, n_53, nn_lt, nn_nlt, nn_le, nn_nle, nn_ne, nn_sub, nn_mul, nI_add, nn_neg, nm_eq, mn_eq, mm_eq, mn_lt, nm_lt, mn_le, nm_le, nn_sub0, nn_of, implies_true, nn_c, nn_in, nn_div, nat_rem, Nat.reduceMul, Nat.reduceSub, Nat.reduceDiv, Nat.reduceMod, pf_at, pf_ne, mk_s, mk_1, Classical.not_not, b2i_T, b2i_F, false_imp_iff, true_imp_iff, false_and, and_false, p_sw, Int.reduceAdd, Int.zero_add, Option.some.injEq, Value.int.injEq, Value.long.injEq, Value.ref.injEq, exists_eq_left', mk_I, mk_L, mk_wI, mk_wL, rf_s, rf_n, true_and, and_true, and_self, or_true, true_or, or_false, false_or, not_true_eq_false, not_false_eq_true, Option.toList_some, Option.toList_none, List.cons_append, List.nil_append, List.map_nil, List.map_cons, List.sum_nil, List.sum_cons, cat_i, cat_l, cat_r, cat_n, Nat.reduceLeDiff, Nat.reduceAdd, Nat.reduceEqDiff, Nat.zero_le, p_ent, p_u_ne, p_u_at, reduceIte, if_true, if_false, j1, P_ce z1, P_ce z2, P_ce s0, P_ce s1]
        exact P_ls s' one_l
      | some x =>
        obtain ⟨x1, x2⟩ := x
        obtain ⟨b1, b2⟩ := aq _ hA
        rw [hA] at s'
        dsimp only at s' yq b1 b2
        show P_run (d + 60) 239 (p_bk 239 3) 0 0 [.ref 123, .int (nI a), .int (nI b), .int (nI x1), .int (nI x2), .int (nI q)] [] (p_mk Ls J L R X) _
        by_cases hl : yv c (I 125) q (pc (kn (I 125) 0)) < x2
        · rw [if_pos hl] at s'
          rw [P_run_eq, bk_239_3, pb_239_3]; simp -implicitDefEqProofs (disch := first | omega | decide) only [P_m, ↓P_run_eq _ 239 _ (p_bk 239 4), bk_239_4, pb_239_4, ↓P_run_eq _ 239 _ (p_bk 239 5), bk_239_5, pb_239_5, ↓P_run_eq _ 239 _ (p_bk 239 6), bk_239_6, pb_239_6, pw_iload_5, pw_aload_n0, pw_aloadN_n0, pw_getR, pw_bipush, bl_53, pw_iald, pw_cge, pw_iload_n1, pw_iv3, pw_iload_n2, pw_cne, pw_goto, pw_iv1, pw_istore, ps_6, pe_6, po_i6, po_r6, po_n6, po_u6, pw_iload_6, pw_iload_4, pw_clt, ps_4, pe_4, po_i4, po_r4, po_n4, po_u4, pw_istore_n3, ps_3, pe_3, po_i3, po_r3, po_n3, po_u3, pw_nop, pw_iinc_5, il_1, po_i5, po_r5, po_n5, po_u5, kd_123, rf_123_1, rf_123_2, rf_123_3, rf_123_4, rf_123_5, rf_123_7, rf_123_11, rf_123_12, rf_123_15, rf_123_16, rf_123_17, rf_123_26, rf_123_29, rf_123_30, rf_123_32, rf_123_34, rf_123_35, rf_123_45, kd_125, n_0, n_1, n_53, nn_lt, nn_nlt, nn_le, nn_nle, nn_ne, nn_sub, nn_mul, nI_add, nn_neg, nm_eq, mn_eq, mm_eq, mn_lt, nm_lt, mn_le, nm_le, nn_sub0, nn_of, implies_true, nn_c, nn_in, nn_div, nat_rem, Nat.reduceMul, Nat.reduceSub, Nat.reduceDiv, Nat.reduceMod, pf_at, pf_ne, mk_s, mk_1, Classical.not_not, b2i_T, b2i_F, false_imp_iff, true_imp_iff, false_and, and_false, p_sw, Int.reduceAdd, Int.zero_add, Option.some.injEq, Value.int.injEq, Value.long.injEq, Value.ref.injEq, exists_eq_left', mk_I, mk_L, mk_wI, mk_wL, rf_s, rf_n, true_and, and_true, and_self, or_true, true_or, or_false, false_or, not_true_eq_false, not_false_eq_true, Option.toList_some, Option.toList_none, List.cons_append, List.nil_append, List.map_nil, List.map_cons, List.sum_nil, List.sum_cons, cat_i, cat_l, cat_r, cat_n, Nat.reduceLeDiff, Nat.reduceAdd, Nat.reduceEqDiff, Nat.zero_le, p_ent, p_u_ne, p_u_at, reduceIte, if_true, if_false, j1, P_ce z1, P_ce z2, P_ce s0, P_ce s1]
          exact P_ls s' one_l
        · rw [if_neg hl] at s'
          rw [P_run_eq, bk_239_3, pb_239_3]; simp -implicitDefEqProofs (disch := first | omega | decide) only [P_m, ↓P_run_eq _ 239 _ (p_bk 239 4), bk_239_4, pb_239_4, ↓P_run_eq _ 239 _ (p_bk 239 5), bk_239_5, pb_239_5, ↓P_run_eq _ 239 _ (p_bk 239 6), bk_239_6, pb_239_6, pw_iload_5, pw_aload_n0, pw_aloadN_n0, pw_getR, pw_bipush, bl_53, pw_iald, pw_cge, pw_iload_n1, pw_iv3, pw_iload_n2, pw_cne, pw_goto, pw_iv1, pw_istore, ps_6, pe_6, po_i6, po_r6, po_n6, po_u6, pw_iload_6, pw_iload_4, pw_clt, ps_4, pe_4, po_i4, po_r4, po_n4, po_u4, pw_istore_n3, ps_3, pe_3, po_i3, po_r3, po_n3, po_u3, pw_nop, pw_iinc_5, il_1, po_i5, po_r5, po_n5, po_u5, kd_123, rf_123_1, rf_123_2, rf_123_3, rf_123_4, rf_123_5, rf_123_7, rf_123_11, rf_123_12, rf_123_15, rf_123_16, rf_123_17, rf_123_26, rf_123_29, rf_123_30, rf_123_32, rf_123_34, rf_123_35, rf_123_45, kd_125, n_0, n_1, n_53, nn_lt, nn_nlt, nn_le, nn_nle, nn_ne, nn_sub, nn_mul, nI_add, nn_neg, nm_eq, mn_eq, mm_eq, mn_lt, nm_lt, mn_le, nm_le, nn_sub0, nn_of, implies_true, nn_c, nn_in, nn_div, nat_rem, Nat.reduceMul, Nat.reduceSub, Nat.reduceDiv, Nat.reduceMod, pf_at, pf_ne, mk_s, mk_1, Classical.not_not, b2i_T, b2i_F, false_imp_iff, true_imp_iff, false_and, and_false, p_sw, Int.reduceAdd, Int.zero_add, Option.some.injEq, Value.int.injEq, Value.long.injEq, Value.ref.injEq, exists_eq_left', mk_I, mk_L, mk_wI, mk_wL, rf_s, rf_n, true_and, and_true, and_self, or_true, true_or, or_false, false_or, not_true_eq_false, not_false_eq_true, Option.toList_some, Option.toList_none, List.cons_append, List.nil_append, List.map_nil, List.map_cons, List.sum_nil, List.sum_cons, cat_i, cat_l, cat_r, cat_n, Nat.reduceLeDiff, Nat.reduceAdd, Nat.reduceEqDiff, Nat.zero_le, p_ent, p_u_ne, p_u_at, reduceIte, if_true, if_false, j1, P_ce z1, P_ce z2, P_ce s0, P_ce s1]
          exact P_ls s' one_l
theorem apF_none {f : Nat → Bool} {y : Nat → Nat} (h : ∀ q, f q = false) : ∀ q, apF f y q = none
  | 0 => rfl
  | q + 1 => by
    unfold apF
    rw [h q, if_neg (by decide)]
    exact apF_none h q
theorem q_apart (w v : Int32) (H : Inv I R X) : Same (d + 60) 105 239 [.int w, .int v] Ls (p_mk Ls I L R X) := by
  obtain ⟨c, hx⟩ := Inv_cx (Ls := Ls) H
  have hV := hx.2.2.1
  obtain ⟨t1, t2⟩ := kn_52 hV
  obtain ⟨⟨r1, -⟩, -⟩ := hutR_at hx.1
  have r1' := r1.trans t1
  have sw := sp_7 (d := d + 59) (Ls := Ls) (I := I) (L := L) (R := R) (X := X) w
  have sv := sp_7 (d := d + 59) (Ls := Ls) (I := I) (L := L) (R := R) (X := X) v
  rw [r1'] at sw sv
  have mw := fun (J : Nat → Nat → Int32) (h : J 125 52 = nI (kn (I 125) 52)) => sp_138n (d := d + 58) (Ls := Ls) (I := J) (L := L) (R := R) (X := X) (t := w) h
  have mv := fun (J : Nat → Nat → Int32) (h : J 125 52 = nI (kn (I 125) 52)) => sp_138n (d := d + 58) (Ls := Ls) (I := J) (L := L) (R := R) (X := X) (t := v) h
  rcases rg_n w (m := kn (I 125) 52) (by omega) with ⟨a, ha, rfl⟩ | ⟨n1, n2⟩
  · obtain ⟨g1, g2⟩ := rg_t ha (by omega)
    rw [show b2i (0 ≤ nI a ∧ nI a < nI (kn (I 125) 52)) = nI 1 from b2i_t g1] at sw
    rw [show b2i (0 ≤ nI a ∧ nI a ≤ nI (kn (I 125) 52) - 1) = nI 1 from b2i_t g2] at mw
    rcases rg_n v (m := kn (I 125) 52) (by omega) with ⟨b, hb, rfl⟩ | ⟨n1, n2⟩
    · obtain ⟨g3, g4⟩ := rg_t hb (by omega)
      rw [show b2i (0 ≤ nI b ∧ nI b < nI (kn (I 125) 52)) = nI 1 from b2i_t g3] at sv
      rw [show b2i (0 ≤ nI b ∧ nI b ≤ nI (kn (I 125) 52) - 1) = nI 1 from b2i_t g4] at mv
      obtain ⟨J1, f1, s1⟩ := lp_105 (d := d + 55) (L := L) hx ha hb 0 (Nat.zero_le _) I frJ_rf
      have hx1 := Cx_J hx f1
      have e1 : J1 125 = I 125 := f1 125 (by omega) (by omega)
      by_cases hab : a = b
      · subst hab
        have hn := apF_none (f := unl (I 125) a a) (y := fun q => yv c (I 125) q (pc (kn (I 125) 0))) (fun q => by unfold unl; exact decide_eq_false (fun h => h rfl)) (kn (I 125) 53)
        rw [hn] at s1
        have cl : P_m (d + 60) 105 [.ref 32, .int (nI a), .int (nI a)] (p_mk Ls I L R X) (fun v h' => v = some (.int (mI 1)) ∧ h' = p_mk Ls J1 L R X) := by
          simp -implicitDefEqProofs (disch := first | omega | decide) only [P_m, ↓P_run_eq _ 105 _ (p_bk 105 0), bk_105_0, pb_105_0, ↓P_run_eq _ 105 _ (p_bk 105 1), bk_105_1, pb_105_1, ↓P_run_eq _ 105 _ (p_bk 105 2), bk_105_2, pb_105_2, pw_aload_n0, pw_aloadN_n0, pw_getR, pw_iload_n1, pw_iv2, pw_zeq, pw_iload_n2, pw_zne, pw_nop, pw_iconst, il_m1, pw_ret0, pw_istore_n3, ps_3, pe_3, po_i3, po_r3, po_n3, po_u3, il_0, pw_istore, ps_4, pe_4, po_i4, po_r4, po_n4, po_u4, ps_5, pe_5, po_i5, po_r5, po_n5, po_u5, kd_32, rf_32_0, rf_32_1, rf_32_2, rf_32_3, rf_32_4, rf_32_5, rf_32_6, rf_32_7, rf_32_8, rf_32_9, rf_32_11, rf_32_12, rf_32_13, kd_71, rf_71_1, rf_71_3, rf_71_4, rf_71_5, rf_71_6, rf_71_11, rf_71_12, rf_71_14, n_0, n_1, nn_lt, nn_nlt, nn_le, nn_nle, nn_ne, nn_sub, nn_mul, nI_add, nn_neg, nm_eq, mn_eq, mm_eq, mn_lt, nm_lt, mn_le, nm_le, nn_sub0, nn_of, implies_true, nn_c, nn_in, nn_div, nat_rem, Nat.reduceMul, Nat.reduceSub, Nat.reduceDiv, Nat.reduceMod, pf_at, pf_ne, mk_s, mk_1, Classical.not_not, b2i_T, b2i_F, false_imp_iff, true_imp_iff, false_and, and_false, p_sw, Int.reduceAdd, Int.zero_add, Option.some.injEq, Value.int.injEq, Value.long.injEq, Value.ref.injEq, exists_eq_left', mk_I, mk_L, mk_wI, mk_wL, rf_s, rf_n, true_and, and_true, and_self, or_true, true_or, or_false, false_or, not_true_eq_false, not_false_eq_true, Option.toList_some, Option.toList_none, List.cons_append, List.nil_append, List.map_nil, List.map_cons, List.sum_nil, List.sum_cons, cat_i, cat_l, cat_r, cat_n, Nat.reduceLeDiff, Nat.reduceAdd, Nat.reduceEqDiff, Nat.zero_le, p_ent, p_u_ne, p_u_at, reduceIte, if_true, if_false, P_ce sw, P_ce sv]
          exact s1
        unfold Same
        refine p_run_Q cl ?_
        rintro _ _ ⟨rfl, rfl⟩
        refine ⟨_, rfl, ?_⟩
        simp -implicitDefEqProofs (disch := first | omega | decide) only [P_m, ↓P_run_eq _ 239 _ (p_bk 239 0), bk_239_0, pb_239_0, ↓P_run_eq _ 239 _ (p_bk 239 1), bk_239_1, pb_239_1, pw_iload_n1, pw_iload_n2, pw_ceq, pw_aload_n0, pw_aloadN_n0, pw_iv2, pw_zeq, pw_zne, pw_nop, pw_iconst, il_m1, pw_ret0, kd_123, rf_123_1, rf_123_2, rf_123_3, rf_123_4, rf_123_5, rf_123_7, rf_123_11, rf_123_12, rf_123_15, rf_123_16, rf_123_17, rf_123_26, rf_123_29, rf_123_30, rf_123_32, rf_123_34, rf_123_35, rf_123_45, n_0, n_1, nn_lt, nn_nlt, nn_le, nn_nle, nn_ne, nn_sub, nn_mul, nI_add, nn_neg, nm_eq, mn_eq, mm_eq, mn_lt, nm_lt, mn_le, nm_le, nn_sub0, nn_of, implies_true, nn_c, nn_in, nn_div, nat_rem, Nat.reduceMul, Nat.reduceSub, Nat.reduceDiv, Nat.reduceMod, pf_at, pf_ne, mk_s, mk_1, Classical.not_not, b2i_T, b2i_F, false_imp_iff, true_imp_iff, false_and, and_false, p_sw, Int.reduceAdd, Int.zero_add, Option.some.injEq, Value.int.injEq, Value.long.injEq, Value.ref.injEq, exists_eq_left', mk_I, mk_L, mk_wI, mk_wL, rf_s, rf_n, true_and, and_true, and_self, or_true, true_or, or_false, false_or, not_true_eq_false, not_false_eq_true, Option.toList_some, Option.toList_none, List.cons_append, List.nil_append, List.map_nil, List.map_cons, List.sum_nil, List.sum_cons, cat_i, cat_l, cat_r, cat_n, Nat.reduceLeDiff, Nat.reduceAdd, Nat.reduceEqDiff, Nat.zero_le, p_ent, p_u_ne, p_u_at, reduceIte, if_true, if_false]
        exact ⟨_, _, _, _, rfl, Inv_J H f1⟩
      · have cl : P_m (d + 60) 105 [.ref 32, .int (nI a), .int (nI b)] (p_mk Ls I L R X) (fun v h' => v = some (.int (apB (apF (unl (I 125) a b) (fun q => yv c (I 125) q (pc (kn (I 125) 0))) (kn (I 125) 53)))) ∧ h' = p_mk Ls J1 L R X) := by
          simp -implicitDefEqProofs (disch := first | omega | decide) only [P_m, ↓P_run_eq _ 105 _ (p_bk 105 0), bk_105_0, pb_105_0, ↓P_run_eq _ 105 _ (p_bk 105 1), bk_105_1, pb_105_1, ↓P_run_eq _ 105 _ (p_bk 105 2), bk_105_2, pb_105_2, pw_aload_n0, pw_aloadN_n0, pw_getR, pw_iload_n1, pw_iv2, pw_zeq, pw_iload_n2, pw_zne, pw_nop, pw_iconst, il_m1, pw_ret0, pw_istore_n3, ps_3, pe_3, po_i3, po_r3, po_n3, po_u3, il_0, pw_istore, ps_4, pe_4, po_i4, po_r4, po_n4, po_u4, ps_5, pe_5, po_i5, po_r5, po_n5, po_u5, kd_32, rf_32_0, rf_32_1, rf_32_2, rf_32_3, rf_32_4, rf_32_5, rf_32_6, rf_32_7, rf_32_8, rf_32_9, rf_32_11, rf_32_12, rf_32_13, kd_71, rf_71_1, rf_71_3, rf_71_4, rf_71_5, rf_71_6, rf_71_11, rf_71_12, rf_71_14, n_0, n_1, nn_lt, nn_nlt, nn_le, nn_nle, nn_ne, nn_sub, nn_mul, nI_add, nn_neg, nm_eq, mn_eq, mm_eq, mn_lt, nm_lt, mn_le, nm_le, nn_sub0, nn_of, implies_true, nn_c, nn_in, nn_div, nat_rem, Nat.reduceMul, Nat.reduceSub, Nat.reduceDiv, Nat.reduceMod, pf_at, pf_ne, mk_s, mk_1, Classical.not_not, b2i_T, b2i_F, false_imp_iff, true_imp_iff, false_and, and_false, p_sw, Int.reduceAdd, Int.zero_add, Option.some.injEq, Value.int.injEq, Value.long.injEq, Value.ref.injEq, exists_eq_left', mk_I, mk_L, mk_wI, mk_wL, rf_s, rf_n, true_and, and_true, and_self, or_true, true_or, or_false, false_or, not_true_eq_false, not_false_eq_true, Option.toList_some, Option.toList_none, List.cons_append, List.nil_append, List.map_nil, List.map_cons, List.sum_nil, List.sum_cons, cat_i, cat_l, cat_r, cat_n, Nat.reduceLeDiff, Nat.reduceAdd, Nat.reduceEqDiff, Nat.zero_le, p_ent, p_u_ne, p_u_at, reduceIte, if_true, if_false, P_ce sw, P_ce sv]
          exact s1
        unfold Same
        refine p_run_Q cl ?_
        rintro _ _ ⟨rfl, rfl⟩
        refine ⟨_, rfl, ?_⟩
        obtain ⟨J2, f2, s2⟩ := lp_239 (d := d) (L := L) hx1 (a := a) (b := b) (by rw [e1]; exact ha) (by rw [e1]; exact hb) 0 (Nat.zero_le _) J1 frE_rf
        rw [e1] at s2
        have mw' := mw J1 (by rw [e1]; exact t1)
        have mv' := mv J1 (by rw [e1]; exact t1)
        have fin := p_run_Q (Q2 := fun v2 h2 => v2 = some (.int (apB (apF (unl (I 125) a b) (fun q => yv c (I 125) q (pc (kn (I 125) 0))) (kn (I 125) 53)))) ∧ InvH Ls h2) s2 (by
          rintro _ _ ⟨rfl, rfl⟩
          exact ⟨rfl, _, _, _, _, rfl, Inv_E (Inv_J H f1) f2⟩)
        simp -implicitDefEqProofs (disch := first | omega | decide) only [P_m, ↓P_run_eq _ 239 _ (p_bk 239 0), bk_239_0, pb_239_0, ↓P_run_eq _ 239 _ (p_bk 239 1), bk_239_1, pb_239_1, ↓P_run_eq _ 239 _ (p_bk 239 2), bk_239_2, pb_239_2, pw_iload_n1, pw_iload_n2, pw_ceq, pw_aload_n0, pw_aloadN_n0, pw_iv2, pw_zeq, pw_zne, pw_nop, pw_iconst, il_m1, pw_ret0, pw_istore_n3, ps_3, pe_3, po_i3, po_r3, po_n3, po_u3, pw_ldc, cn_6, pw_istore, ps_4, pe_4, po_i4, po_r4, po_n4, po_u4, il_0, ps_5, pe_5, po_i5, po_r5, po_n5, po_u5, kd_123, rf_123_1, rf_123_2, rf_123_3, rf_123_4, rf_123_5, rf_123_7, rf_123_11, rf_123_12, rf_123_15, rf_123_16, rf_123_17, rf_123_26, rf_123_29, rf_123_30, rf_123_32, rf_123_34, rf_123_35, rf_123_45, n_0, n_1, nn_lt, nn_nlt, nn_le, nn_nle, nn_ne, nn_sub, nn_mul, nI_add, nn_neg, nm_eq, mn_eq, mm_eq, mn_lt, nm_lt, mn_le, nm_le, nn_sub0, nn_of, implies_true, nn_c, nn_in, nn_div, nat_rem, Nat.reduceMul, Nat.reduceSub, Nat.reduceDiv, Nat.reduceMod, pf_at, pf_ne, mk_s, mk_1, Classical.not_not, b2i_T, b2i_F, false_imp_iff, true_imp_iff, false_and, and_false, p_sw, Int.reduceAdd, Int.zero_add, Option.some.injEq, Value.int.injEq, Value.long.injEq, Value.ref.injEq, exists_eq_left', mk_I, mk_L, mk_wI, mk_wL, rf_s, rf_n, true_and, and_true, and_self, or_true, true_or, or_false, false_or, not_true_eq_false, not_false_eq_true, Option.toList_some, Option.toList_none, List.cons_append, List.nil_append, List.map_nil, List.map_cons, List.sum_nil, List.sum_cons, cat_i, cat_l, cat_r, cat_n, Nat.reduceLeDiff, Nat.reduceAdd, Nat.reduceEqDiff, Nat.zero_le, p_ent, p_u_ne, p_u_at, reduceIte, if_true, if_false, P_ce mw', P_ce mv']
        exact fin
    · rw [show b2i (0 ≤ v ∧ v < nI (kn (I 125) 52)) = nI 0 from b2i_f n1] at sv
      rw [show b2i (0 ≤ v ∧ v ≤ nI (kn (I 125) 52) - 1) = nI 0 from b2i_f n2] at mv
      have mw' := mw I t1
      have mv' := mv I t1
      by_cases hab : nI a = v
      · simp -implicitDefEqProofs (disch := first | omega | decide) only [P_m, ↓P_run_eq _ 105 _ (p_bk 105 0), bk_105_0, pb_105_0, ↓P_run_eq _ 105 _ (p_bk 105 1), bk_105_1, pb_105_1, ↓P_run_eq _ 239 _ (p_bk 239 0), bk_239_0, pb_239_0, ↓P_run_eq _ 239 _ (p_bk 239 1), bk_239_1, pb_239_1, pw_aload_n0, pw_aloadN_n0, pw_getR, pw_iload_n1, pw_iv2, pw_zeq, pw_iload_n2, pw_zne, pw_nop, pw_iconst, il_m1, pw_ret0, pw_ceq, kd_32, rf_32_0, rf_32_1, rf_32_2, rf_32_3, rf_32_4, rf_32_5, rf_32_6, rf_32_7, rf_32_8, rf_32_9, rf_32_11, rf_32_12, rf_32_13, kd_71, rf_71_1, rf_71_3, rf_71_4, rf_71_5, rf_71_6, rf_71_11, rf_71_12, rf_71_14, kd_123, rf_123_1, rf_123_2, rf_123_3, rf_123_4, rf_123_5, rf_123_7, rf_123_11, rf_123_12, rf_123_15, rf_123_16, rf_123_17, rf_123_26, rf_123_29, rf_123_30, rf_123_32, rf_123_34, rf_123_35, rf_123_45, n_0, n_1, nn_lt, nn_nlt, nn_le, nn_nle, nn_ne, nn_sub, nn_mul, nI_add, nn_neg, nm_eq, mn_eq, mm_eq, mn_lt, nm_lt, mn_le, nm_le, nn_sub0, nn_of, implies_true, nn_c, nn_in, nn_div, nat_rem, Nat.reduceMul, Nat.reduceSub, Nat.reduceDiv, Nat.reduceMod, pf_at, pf_ne, mk_s, mk_1, Classical.not_not, b2i_T, b2i_F, false_imp_iff, true_imp_iff, false_and, and_false, p_sw, Int.reduceAdd, Int.zero_add, Option.some.injEq, Value.int.injEq, Value.long.injEq, Value.ref.injEq, exists_eq_left', mk_I, mk_L, mk_wI, mk_wL, rf_s, rf_n, true_and, and_true, and_self, or_true, true_or, or_false, false_or, not_true_eq_false, not_false_eq_true, Option.toList_some, Option.toList_none, List.cons_append, List.nil_append, List.map_nil, List.map_cons, List.sum_nil, List.sum_cons, cat_i, cat_l, cat_r, cat_n, Nat.reduceLeDiff, Nat.reduceAdd, Nat.reduceEqDiff, Nat.zero_le, p_ent, p_u_ne, p_u_at, reduceIte, if_true, if_false, Same, P_ce sw, P_ce sv, hab, P_ce mw', P_ce mv']
        subst hab
        exact absurd g1 n1
      · simp -implicitDefEqProofs (disch := first | omega | decide) only [P_m, ↓P_run_eq _ 105 _ (p_bk 105 0), bk_105_0, pb_105_0, ↓P_run_eq _ 105 _ (p_bk 105 1), bk_105_1, pb_105_1, ↓P_run_eq _ 239 _ (p_bk 239 0), bk_239_0, pb_239_0, ↓P_run_eq _ 239 _ (p_bk 239 1), bk_239_1, pb_239_1, pw_aload_n0, pw_aloadN_n0, pw_getR, pw_iload_n1, pw_iv2, pw_zeq, pw_iload_n2, pw_zne, pw_nop, pw_iconst, il_m1, pw_ret0, pw_ceq, kd_32, rf_32_0, rf_32_1, rf_32_2, rf_32_3, rf_32_4, rf_32_5, rf_32_6, rf_32_7, rf_32_8, rf_32_9, rf_32_11, rf_32_12, rf_32_13, kd_71, rf_71_1, rf_71_3, rf_71_4, rf_71_5, rf_71_6, rf_71_11, rf_71_12, rf_71_14, kd_123, rf_123_1, rf_123_2, rf_123_3, rf_123_4, rf_123_5, rf_123_7, rf_123_11, rf_123_12, rf_123_15, rf_123_16, rf_123_17, rf_123_26, rf_123_29, rf_123_30, rf_123_32, rf_123_34, rf_123_35, rf_123_45, n_0, n_1, nn_lt, nn_nlt, nn_le, nn_nle, nn_ne, nn_sub, nn_mul, nI_add, nn_neg, nm_eq, mn_eq, mm_eq, mn_lt, nm_lt, mn_le, nm_le, nn_sub0, nn_of, implies_true, nn_c, nn_in, nn_div, nat_rem, Nat.reduceMul, Nat.reduceSub, Nat.reduceDiv, Nat.reduceMod, pf_at, pf_ne, mk_s, mk_1, Classical.not_not, b2i_T, b2i_F, false_imp_iff, true_imp_iff, false_and, and_false, p_sw, Int.reduceAdd, Int.zero_add, Option.some.injEq, Value.int.injEq, Value.long.injEq, Value.ref.injEq, exists_eq_left', mk_I, mk_L, mk_wI, mk_wL, rf_s, rf_n, true_and, and_true, and_self, or_true, true_or, or_false, false_or, not_true_eq_false, not_false_eq_true, Option.toList_some, Option.toList_none, List.cons_append, List.nil_append, List.map_nil, List.map_cons, List.sum_nil, List.sum_cons, cat_i, cat_l, cat_r, cat_n, Nat.reduceLeDiff, Nat.reduceAdd, Nat.reduceEqDiff, Nat.zero_le, p_ent, p_u_ne, p_u_at, reduceIte, if_true, if_false, Same, P_ce sw, P_ce sv, hab, P_ce mw', P_ce mv']
        exact ⟨_, _, _, _, rfl, H⟩
  · rw [show b2i (0 ≤ w ∧ w < nI (kn (I 125) 52)) = nI 0 from b2i_f n1] at sw
    rw [show b2i (0 ≤ w ∧ w ≤ nI (kn (I 125) 52) - 1) = nI 0 from b2i_f n2] at mw
    have mw' := mw I t1
    by_cases hab : w = v
    · subst hab
      simp -implicitDefEqProofs (disch := first | omega | decide) only [P_m, ↓P_run_eq _ 105 _ (p_bk 105 0), bk_105_0, pb_105_0, ↓P_run_eq _ 105 _ (p_bk 105 1), bk_105_1, pb_105_1, ↓P_run_eq _ 239 _ (p_bk 239 0), bk_239_0, pb_239_0, ↓P_run_eq _ 239 _ (p_bk 239 1), bk_239_1, pb_239_1, pw_aload_n0, pw_aloadN_n0, pw_getR, pw_iload_n1, pw_iv2, pw_zeq, pw_iload_n2, pw_zne, pw_nop, pw_iconst, il_m1, pw_ret0, pw_ceq, kd_32, rf_32_0, rf_32_1, rf_32_2, rf_32_3, rf_32_4, rf_32_5, rf_32_6, rf_32_7, rf_32_8, rf_32_9, rf_32_11, rf_32_12, rf_32_13, kd_71, rf_71_1, rf_71_3, rf_71_4, rf_71_5, rf_71_6, rf_71_11, rf_71_12, rf_71_14, kd_123, rf_123_1, rf_123_2, rf_123_3, rf_123_4, rf_123_5, rf_123_7, rf_123_11, rf_123_12, rf_123_15, rf_123_16, rf_123_17, rf_123_26, rf_123_29, rf_123_30, rf_123_32, rf_123_34, rf_123_35, rf_123_45, n_0, n_1, nn_lt, nn_nlt, nn_le, nn_nle, nn_ne, nn_sub, nn_mul, nI_add, nn_neg, nm_eq, mn_eq, mm_eq, mn_lt, nm_lt, mn_le, nm_le, nn_sub0, nn_of, implies_true, nn_c, nn_in, nn_div, nat_rem, Nat.reduceMul, Nat.reduceSub, Nat.reduceDiv, Nat.reduceMod, pf_at, pf_ne, mk_s, mk_1, Classical.not_not, b2i_T, b2i_F, false_imp_iff, true_imp_iff, false_and, and_false, p_sw, Int.reduceAdd, Int.zero_add, Option.some.injEq, Value.int.injEq, Value.long.injEq, Value.ref.injEq, exists_eq_left', mk_I, mk_L, mk_wI, mk_wL, rf_s, rf_n, true_and, and_true, and_self, or_true, true_or, or_false, false_or, not_true_eq_false, not_false_eq_true, Option.toList_some, Option.toList_none, List.cons_append, List.nil_append, List.map_nil, List.map_cons, List.sum_nil, List.sum_cons, cat_i, cat_l, cat_r, cat_n, Nat.reduceLeDiff, Nat.reduceAdd, Nat.reduceEqDiff, Nat.zero_le, p_ent, p_u_ne, p_u_at, reduceIte, if_true, if_false, Same, P_ce sw]
      exact ⟨_, _, _, _, rfl, H⟩
    · simp -implicitDefEqProofs (disch := first | omega | decide) only [P_m, ↓P_run_eq _ 105 _ (p_bk 105 0), bk_105_0, pb_105_0, ↓P_run_eq _ 105 _ (p_bk 105 1), bk_105_1, pb_105_1, ↓P_run_eq _ 239 _ (p_bk 239 0), bk_239_0, pb_239_0, ↓P_run_eq _ 239 _ (p_bk 239 1), bk_239_1, pb_239_1, pw_aload_n0, pw_aloadN_n0, pw_getR, pw_iload_n1, pw_iv2, pw_zeq, pw_iload_n2, pw_zne, pw_nop, pw_iconst, il_m1, pw_ret0, pw_ceq, kd_32, rf_32_0, rf_32_1, rf_32_2, rf_32_3, rf_32_4, rf_32_5, rf_32_6, rf_32_7, rf_32_8, rf_32_9, rf_32_11, rf_32_12, rf_32_13, kd_71, rf_71_1, rf_71_3, rf_71_4, rf_71_5, rf_71_6, rf_71_11, rf_71_12, rf_71_14, kd_123, rf_123_1, rf_123_2, rf_123_3, rf_123_4, rf_123_5, rf_123_7, rf_123_11, rf_123_12, rf_123_15, rf_123_16, rf_123_17, rf_123_26, rf_123_29, rf_123_30, rf_123_32, rf_123_34, rf_123_35, rf_123_45, n_0, n_1, nn_lt, nn_nlt, nn_le, nn_nle, nn_ne, nn_sub, nn_mul, nI_add, nn_neg, nm_eq, mn_eq, mm_eq, mn_lt, nm_lt, mn_le, nm_le, nn_sub0, nn_of, implies_true, nn_c, nn_in, nn_div, nat_rem, Nat.reduceMul, Nat.reduceSub, Nat.reduceDiv, Nat.reduceMod, pf_at, pf_ne, mk_s, mk_1, Classical.not_not, b2i_T, b2i_F, false_imp_iff, true_imp_iff, false_and, and_false, p_sw, Int.reduceAdd, Int.zero_add, Option.some.injEq, Value.int.injEq, Value.long.injEq, Value.ref.injEq, exists_eq_left', mk_I, mk_L, mk_wI, mk_wL, rf_s, rf_n, true_and, and_true, and_self, or_true, true_or, or_false, false_or, not_true_eq_false, not_false_eq_true, Option.toList_some, Option.toList_none, List.cons_append, List.nil_append, List.map_nil, List.map_cons, List.sum_nil, List.sum_cons, cat_i, cat_l, cat_r, cat_n, Nat.reduceLeDiff, Nat.reduceAdd, Nat.reduceEqDiff, Nat.zero_le, p_ent, p_u_ne, p_u_at, reduceIte, if_true, if_false, Same, P_ce sw, hab, P_ce mw']
      exact ⟨_, _, _, _, rfl, H⟩
end AP
