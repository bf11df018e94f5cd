/-! ORDERS RUN BY THE CLASS -/
section OX
variable {d Ls : Nat} {I : Nat → Nat → Int32} {L : Nat → Nat → Int64} {R : Nat → Nat → Option Nat} {X : List pKd} {CL : List tCl} {cl : tCl}
theorem tx36 : txV Ls R X 36 42 43 400 := fun I L => ⟨rfl, rfl, rfl, rfl, rfl⟩
theorem at_lt {α : Type} {l : List α} {j : Nat} {x : α} (h : l[j]? = some x) : j < l.length := by
  rcases Nat.lt_or_ge j l.length with h' | h'
  · exact h'
  · rw [List.getElem?_eq_none h'] at h; cases h
theorem sp_29 {j : Nat} (hx : txC I CL) (hW : bW (nw true) (I 46)) (hok : clOk true (clB CL j) cl) (h12 : CL.length ≤ 12) (h400 : (clCode CL).length ≤ 400) (hcl : CL[j]? = some cl) : ∃ S, P_m (d + 2) 29 [.ref 45, .ref 36, .int (nI j)] (p_mk Ls I L R X) (fun v h' => v = some (.int (bI (decide (cl_g cl (I 46) = some true)))) ∧ h' = p_mk Ls (p_fn I 47 S) L R X) := by
  have hj := at_lt hcl
  obtain ⟨r1, r2, r3, r4, r5⟩ := hx.2.2.1 j hj cl hcl
  obtain ⟨s1, s2, s3⟩ := cl_hold hx.2.2 hcl
  have all : P_m (d + 2) 29 [.ref 45, .ref 36, .int (nI j)] (p_mk Ls I L R X) (fun v h' => v = some (.int (bI (decide (cl_g cl (I 46) = some true)))) ∧ ∃ S, h' = p_mk Ls (p_fn I 47 S) L R X) := by
    have s31 := sp_31b (d := d) (Ls := Ls) (L := L) (t := 36) (a7 := 42) (a8 := 43) (m2 := 400) (I := I) (S := I 47) (o := true) (b := clB CL j) (cl := cl) (R := R) (X := X) ⟨tx36, by omega, by omega, by omega, by omega, hW⟩ hok rfl s3 rfl
    rw [pf_self] at s31
    clear s1 s2 s3 hok
    generalize clB CL j + (cl_s cl).length + (cl_b cl).length = e2 at *
    generalize clB CL j + (cl_s cl).length = e1 at *
    by_cases cg : cl_g cl (I 46) = some true
    · rw [decide_eq_true cg, bI_t]
      simp -implicitDefEqProofs (disch := first | omega | decide) only [P_m, ↓P_run_eq _ 29 _ (p_bk 29 0), bk_29_0, pb_29_0, pw_aload_n0, pw_aloadN_n0, pw_aload_n1, pw_aloadN_n1, pw_getR, pw_iload_n2, pw_iald, pw_iv4, pw_iconst, il_1, pw_cne, pw_goto, kd_36, rf_36_1, rf_36_2, rf_36_3, rf_36_4, rf_36_5, rf_36_7, rf_36_8, kd_40, kd_41, kd_45, rf_45_0, rf_45_1, n_0, n_1, nn_lt, nn_nlt, nn_le, nn_nle, nn_ne, nn_sub, nn_mul, nI_add, nn_neg, nm_eq, mn_eq, mm_eq, mn_lt, nm_lt, mn_le, nm_le, nn_sub0, nn_of, implies_true, nn_c, nn_in, nn_div, nat_rem, Nat.reduceMul, Nat.reduceSub, Nat.reduceDiv, Nat.reduceMod, pf_at, pf_ne, mk_s, mk_1, Classical.not_not, b2i_T, b2i_F, false_imp_iff, true_imp_iff, false_and, and_false, p_sw, Int.reduceAdd, Int.zero_add, Option.some.injEq, Value.int.injEq, Value.long.injEq, Value.ref.injEq, exists_eq_left', mk_I, mk_L, mk_wI, mk_wL, rf_s, rf_n, true_and, and_true, and_self, or_true, true_or, or_false, false_or, not_true_eq_false, not_false_eq_true, Option.toList_some, Option.toList_none, List.cons_append, List.nil_append, List.map_nil, List.map_cons, List.sum_nil, List.sum_cons, cat_i, cat_l, cat_r, cat_n, Nat.reduceLeDiff, Nat.reduceAdd, Nat.reduceEqDiff, Nat.zero_le, p_ent, p_u_ne, p_u_at, reduceIte, if_true, if_false, r4, r5]
      refine P_c s31 ?_
      rintro _ _ ⟨⟨w, rfl, hw⟩, S1, rfl⟩
      have w1 : w = nI 1 := hw.mpr cg
      subst w1
      simp -implicitDefEqProofs (disch := first | omega | decide) only [P_m, ↓P_run_eq _ 29 _ (p_bk 29 2), bk_29_2, pb_29_2, pw_aload_n0, pw_aloadN_n0, pw_aload_n1, pw_aloadN_n1, pw_getR, pw_iload_n2, pw_iald, pw_iv4, pw_iconst, il_1, pw_cne, pw_goto, pw_ret1, kd_45, rf_45_0, rf_45_1, n_0, n_1, nn_lt, nn_nlt, nn_le, nn_nle, nn_ne, nn_sub, nn_mul, nI_add, nn_neg, nm_eq, mn_eq, mm_eq, mn_lt, nm_lt, mn_le, nm_le, nn_sub0, nn_of, implies_true, nn_c, nn_in, nn_div, nat_rem, Nat.reduceMul, Nat.reduceSub, Nat.reduceDiv, Nat.reduceMod, pf_at, pf_ne, mk_s, mk_1, Classical.not_not, b2i_T, b2i_F, false_imp_iff, true_imp_iff, false_and, and_false, p_sw, Int.reduceAdd, Int.zero_add, Option.some.injEq, Value.int.injEq, Value.long.injEq, Value.ref.injEq, exists_eq_left', mk_I, mk_L, mk_wI, mk_wL, rf_s, rf_n, true_and, and_true, and_self, or_true, true_or, or_false, false_or, not_true_eq_false, not_false_eq_true, Option.toList_some, Option.toList_none, List.cons_append, List.nil_append, List.map_nil, List.map_cons, List.sum_nil, List.sum_cons, cat_i, cat_l, cat_r, cat_n, Nat.reduceLeDiff, Nat.reduceAdd, Nat.reduceEqDiff, Nat.zero_le, p_ent, p_u_ne, p_u_at, reduceIte, if_true, if_false]
      exact ⟨S1, rfl⟩
    · rw [decide_eq_false cg, bI_f]
      simp -implicitDefEqProofs (disch := first | omega | decide) only [P_m, ↓P_run_eq _ 29 _ (p_bk 29 0), bk_29_0, pb_29_0, pw_aload_n0, pw_aloadN_n0, pw_aload_n1, pw_aloadN_n1, pw_getR, pw_iload_n2, pw_iald, pw_iv4, pw_iconst, il_1, pw_cne, pw_goto, kd_36, rf_36_1, rf_36_2, rf_36_3, rf_36_4, rf_36_5, rf_36_7, rf_36_8, kd_40, kd_41, kd_45, rf_45_0, rf_45_1, n_0, n_1, nn_lt, nn_nlt, nn_le, nn_nle, nn_ne, nn_sub, nn_mul, nI_add, nn_neg, nm_eq, mn_eq, mm_eq, mn_lt, nm_lt, mn_le, nm_le, nn_sub0, nn_of, implies_true, nn_c, nn_in, nn_div, nat_rem, Nat.reduceMul, Nat.reduceSub, Nat.reduceDiv, Nat.reduceMod, pf_at, pf_ne, mk_s, mk_1, Classical.not_not, b2i_T, b2i_F, false_imp_iff, true_imp_iff, false_and, and_false, p_sw, Int.reduceAdd, Int.zero_add, Option.some.injEq, Value.int.injEq, Value.long.injEq, Value.ref.injEq, exists_eq_left', mk_I, mk_L, mk_wI, mk_wL, rf_s, rf_n, true_and, and_true, and_self, or_true, true_or, or_false, false_or, not_true_eq_false, not_false_eq_true, Option.toList_some, Option.toList_none, List.cons_append, List.nil_append, List.map_nil, List.map_cons, List.sum_nil, List.sum_cons, cat_i, cat_l, cat_r, cat_n, Nat.reduceLeDiff, Nat.reduceAdd, Nat.reduceEqDiff, Nat.zero_le, p_ent, p_u_ne, p_u_at, reduceIte, if_true, if_false, r4, r5]
      refine P_c s31 ?_
      rintro _ _ ⟨⟨w, rfl, hw⟩, S1, rfl⟩
      have w1 : ¬ w = nI 1 := fun e => cg (hw.mp e)
      simp -implicitDefEqProofs (disch := first | omega | decide) only [P_m, ↓P_run_eq _ 29 _ (p_bk 29 1), bk_29_1, pb_29_1, ↓P_run_eq _ 29 _ (p_bk 29 2), bk_29_2, pb_29_2, pw_aload_n0, pw_aloadN_n0, pw_aload_n1, pw_aloadN_n1, pw_getR, pw_iload_n2, pw_iald, pw_iv4, pw_iconst, il_1, pw_cne, pw_goto, il_0, pw_nop, pw_ret1, n_0, n_1, nn_lt, nn_nlt, nn_le, nn_nle, nn_ne, nn_sub, nn_mul, nI_add, nn_neg, nm_eq, mn_eq, mm_eq, mn_lt, nm_lt, mn_le, nm_le, nn_sub0, nn_of, implies_true, nn_c, nn_in, nn_div, nat_rem, Nat.reduceMul, Nat.reduceSub, Nat.reduceDiv, Nat.reduceMod, pf_at, pf_ne, mk_s, mk_1, Classical.not_not, b2i_T, b2i_F, false_imp_iff, true_imp_iff, false_and, and_false, p_sw, Int.reduceAdd, Int.zero_add, Option.some.injEq, Value.int.injEq, Value.long.injEq, Value.ref.injEq, exists_eq_left', mk_I, mk_L, mk_wI, mk_wL, rf_s, rf_n, true_and, and_true, and_self, or_true, true_or, or_false, false_or, not_true_eq_false, not_false_eq_true, Option.toList_some, Option.toList_none, List.cons_append, List.nil_append, List.map_nil, List.map_cons, List.sum_nil, List.sum_cons, cat_i, cat_l, cat_r, cat_n, Nat.reduceLeDiff, Nat.reduceAdd, Nat.reduceEqDiff, Nat.zero_le, p_ent, p_u_ne, p_u_at, reduceIte, if_true, if_false, w1]
      exact ⟨S1, rfl⟩
  obtain ⟨v, g', ⟨rfl, S, rfl⟩, s⟩ := P_mex all
  exact ⟨S, s⟩
theorem sp_30 {j : Nat} (hx : txC I CL) (hW : bW (nw true) (I 46)) (hok : clOk true (clB CL j) cl) (h12 : CL.length ≤ 12) (h400 : (clCode CL).length ≤ 400) (hcl : CL[j]? = some cl) : ∃ S, P_m (d + 2) 30 [.ref 45, .ref 36, .int (nI j)] (p_mk Ls I L R X) (fun v h' => v = some (.int (oI (cl_f cl (I 46)))) ∧ h' = p_mk Ls (p_fn I 47 S) L R X) := by
  have hj := at_lt hcl
  obtain ⟨r1, r2, r3, r4, r5⟩ := hx.2.2.1 j hj cl hcl
  obtain ⟨s1, s2, s3⟩ := cl_hold hx.2.2 hcl
  have all : P_m (d + 2) 30 [.ref 45, .ref 36, .int (nI j)] (p_mk Ls I L R X) (fun v h' => v = some (.int (oI (cl_f cl (I 46)))) ∧ ∃ S, h' = p_mk Ls (p_fn I 47 S) L R X) := by
    have s31 : P_m (d + 1) 31 [.ref 45, .ref 36, .int (nI (clB CL j)), .int (nI (clB CL j + (cl_s cl).length))] (p_mk Ls I L R X) (fun v h' => v = some (.int (oI (cl_f cl (I 46)))) ∧ ∃ S', h' = p_mk Ls (p_fn I 47 S') L R X) := by
      rcases hok.1 with ⟨-, nd, hnd, gs⟩ | ⟨-, e1, e2⟩
      · have := sp_31s (d := d) (Ls := Ls) (L := L) (t := 36) (a7 := 42) (a8 := 43) (m2 := 400) (I := I) (S := I 47) (f := cl_f cl) (cs := cl_s cl) (R := R) (X := X) (to := clB CL j + (cl_s cl).length) ⟨tx36, by omega, by omega, by omega, by omega, hW⟩ ((fun (g : gS _ _ _ _) => g.2.2.1) gs) (by omega) s2 rfl
        rw [pf_self] at this
        exact this
      · rw [e1, e2, List.length_nil]
        have hh : vr Ls d 36 (clB CL j) (clB CL j + 0) I L R X (fun v h' => v = some (.int (oI ((fun _ => some 1 : tDS) (I 46)))) ∧ ∃ S', h' = p_mk Ls (p_fn I 47 S') L R X) 0 (clB CL j) (I 47) := vs_end (by omega) (by omega) (by omega) ⟨rfl, I 47, rfl⟩
        unfold vr at hh
        rw [pf_self] at hh
        simp -implicitDefEqProofs (disch := first | omega | decide) only [P_m, ↓P_run_eq _ 31 _ (p_bk 31 0), bk_31_0, pb_31_0, pw_iconst, il_0, pw_istore, ps_4, pe_4, po_i4, po_r4, po_n4, po_u4, pw_iload_n2, ps_5, pe_5, po_i5, po_r5, po_n5, po_u5, pw_nop, kd_45, rf_45_0, rf_45_1, n_0, n_1, nn_lt, nn_nlt, nn_le, nn_nle, nn_ne, nn_sub, nn_mul, nI_add, nn_neg, nm_eq, mn_eq, mm_eq, mn_lt, nm_lt, mn_le, nm_le, nn_sub0, nn_of, implies_true, nn_c, nn_in, nn_div, nat_rem, Nat.reduceMul, Nat.reduceSub, Nat.reduceDiv, Nat.reduceMod, pf_at, pf_ne, mk_s, mk_1, Classical.not_not, b2i_T, b2i_F, false_imp_iff, true_imp_iff, false_and, and_false, p_sw, Int.reduceAdd, Int.zero_add, Option.some.injEq, Value.int.injEq, Value.long.injEq, Value.ref.injEq, exists_eq_left', mk_I, mk_L, mk_wI, mk_wL, rf_s, rf_n, true_and, and_true, and_self, or_true, true_or, or_false, false_or, not_true_eq_false, not_false_eq_true, Option.toList_some, Option.toList_none, List.cons_append, List.nil_append, List.map_nil, List.map_cons, List.sum_nil, List.sum_cons, cat_i, cat_l, cat_r, cat_n, Nat.reduceLeDiff, Nat.reduceAdd, Nat.reduceEqDiff, Nat.zero_le, p_ent, p_u_ne, p_u_at, reduceIte, if_true, if_false]
        exact hh
    clear s1 s2 s3 hok
    generalize clB CL j + (cl_s cl).length = e1 at *
    generalize clB CL j = e0 at *
    simp -implicitDefEqProofs (disch := first | omega | decide) only [P_m, ↓P_run_eq _ 30 _ (p_bk 30 0), bk_30_0, pb_30_0, pw_aload_n0, pw_aloadN_n0, pw_aload_n1, pw_aloadN_n1, pw_getR, pw_iload_n2, pw_iald, pw_iv4, pw_ret0, kd_36, rf_36_1, rf_36_2, rf_36_3, rf_36_4, rf_36_5, rf_36_7, rf_36_8, kd_39, kd_40, kd_45, rf_45_0, rf_45_1, n_0, n_1, nn_lt, nn_nlt, nn_le, nn_nle, nn_ne, nn_sub, nn_mul, nI_add, nn_neg, nm_eq, mn_eq, mm_eq, mn_lt, nm_lt, mn_le, nm_le, nn_sub0, nn_of, implies_true, nn_c, nn_in, nn_div, nat_rem, Nat.reduceMul, Nat.reduceSub, Nat.reduceDiv, Nat.reduceMod, pf_at, pf_ne, mk_s, mk_1, Classical.not_not, b2i_T, b2i_F, false_imp_iff, true_imp_iff, false_and, and_false, p_sw, Int.reduceAdd, Int.zero_add, Option.some.injEq, Value.int.injEq, Value.long.injEq, Value.ref.injEq, exists_eq_left', mk_I, mk_L, mk_wI, mk_wL, rf_s, rf_n, true_and, and_true, and_self, or_true, true_or, or_false, false_or, not_true_eq_false, not_false_eq_true, Option.toList_some, Option.toList_none, List.cons_append, List.nil_append, List.map_nil, List.map_cons, List.sum_nil, List.sum_cons, cat_i, cat_l, cat_r, cat_n, Nat.reduceLeDiff, Nat.reduceAdd, Nat.reduceEqDiff, Nat.zero_le, p_ent, p_u_ne, p_u_at, reduceIte, if_true, if_false, r3, r4]
    refine P_c s31 ?_
    rintro _ _ ⟨rfl, S1, rfl⟩
    generalize oI (cl_f cl (I 46)) = w at *
    simp -implicitDefEqProofs (disch := first | omega | decide) only [P_m, pw_aload_n0, pw_aloadN_n0, pw_aload_n1, pw_aloadN_n1, pw_getR, pw_iload_n2, pw_iald, pw_iv4, pw_ret0, kd_45, rf_45_0, rf_45_1, n_0, n_1, nn_lt, nn_nlt, nn_le, nn_nle, nn_ne, nn_sub, nn_mul, nI_add, nn_neg, nm_eq, mn_eq, mm_eq, mn_lt, nm_lt, mn_le, nm_le, nn_sub0, nn_of, implies_true, nn_c, nn_in, nn_div, nat_rem, Nat.reduceMul, Nat.reduceSub, Nat.reduceDiv, Nat.reduceMod, pf_at, pf_ne, mk_s, mk_1, Classical.not_not, b2i_T, b2i_F, false_imp_iff, true_imp_iff, false_and, and_false, p_sw, Int.reduceAdd, Int.zero_add, Option.some.injEq, Value.int.injEq, Value.long.injEq, Value.ref.injEq, exists_eq_left', mk_I, mk_L, mk_wI, mk_wL, rf_s, rf_n, true_and, and_true, and_self, or_true, true_or, or_false, false_or, not_true_eq_false, not_false_eq_true, Option.toList_some, Option.toList_none, List.cons_append, List.nil_append, List.map_nil, List.map_cons, List.sum_nil, List.sum_cons, cat_i, cat_l, cat_r, cat_n, Nat.reduceLeDiff, Nat.reduceAdd, Nat.reduceEqDiff, Nat.zero_le, p_ent, p_u_ne, p_u_at, reduceIte, if_true, if_false]
    exact ⟨S1, rfl⟩
  obtain ⟨v, g', ⟨rfl, S, rfl⟩, s⟩ := P_mex all
  exact ⟨S, s⟩
end OX
