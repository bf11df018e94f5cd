section VI
variable {Ls : Nat} {I : Nat → Nat → Int32} {L : Nat → Nat → Int64} {R : Nat → Nat → Option Nat} {X : List pKd} {c : Option (List tCl)} {K K0 : Nat → Int32}
/-- all but what draws write on the class's side -/
def frD (I J : Nat → Nat → Int32) : Prop := ∀ a, (a < 93 ∨ 100 < a) → ¬ a = 46 → ¬ a = 47 → ¬ a = 70 → J a = I a
theorem frD_tr {I J K : Nat → Nat → Int32} (h1 : frD I J) (h2 : frD J K) : frD I K := fun a a1 a2 a3 a4 => (h2 a a1 a2 a3 a4).trans (h1 a a1 a2 a3 a4)
theorem frD_h {J : Nat → Nat → Int32} (h : frh I J) : frD I J := fun a a1 a2 a3 _ => h a a1 a2 a3
theorem Ca_nx {J : Nat → Nat → Int32} {kd : Nat} {v : Int32} (h : Cah Ls I R X K c) (f : frh I J) (hJ : hutR J 93 (nxK c K kd v)) : Cah Ls J R X (nxK c K kd v) c := by
  obtain ⟨h1, h2, h3, h4, h5⟩ := h
  refine ⟨hJ, h2, (nx_vld h3).1, nx_law h3 h4, ?_⟩
  rw [nx_fr h3]
  exact clw_fr h5 (fun a ha => f a (by omega) (by omega) (by omega))
theorem Ca_70 {x : Int32} (h : Cah Ls I R X K c) : Cah Ls (p_u I 70 0 x) R X K c := by
  obtain ⟨h1, h2, h3, h4, h5⟩ := h
  exact ⟨hutR_f h1 (fun b b1 b2 => p_u_ne (by omega)), h2, h3, h4, clw_fr h5 (fun a ha => p_u_ne (by omega))⟩
theorem sp_12h {d : Nat} (h : Cah Ls I R X K c) : P_m (d + 1) 12 [.ref 93] (p_mk Ls I L R X) (fun v h' => v = some (.int (nI (pc (kn K 0)))) ∧ h' = p_mk Ls I L R X) := by
  obtain ⟨k1, k2, k3⟩ := kn_0 h.2.2.1
  exact sp_12l k3 ((hutR_at h.1).1.2.2.2.1.trans k1)
theorem lp_124 {D : Nat} (hD : 9 ≤ D) (hm0 : 0 < kn K0 53) : ∀ n, n ≤ 8 → ∀ (I : Nat → Nat → Int32) (K : Nat → Int32) (s : Nat), Cah Ls I R X K c → dOk K0 c K → s < 1000003 → I 70 0 = nI s → I 1 0 = 999 → I 1 2 = nI 9999 → kn (vlp c (kn K0 53) n (K, s)).1 3 < 999 → ∃ J, frD I J ∧ Cah Ls J R X (nxK c (vlp c (kn K0 53) n (K, s)).1 2 (nI 0)) c ∧ J 70 0 = nI (vlp c (kn K0 53) n (K, s)).2 ∧ P_run D 124 (p_bk 124 1) 0 0 [.ref 32, .ref 93, .int (nI (8 - n))] [] (p_mk Ls I L R X) (fun v h' => v = some (.int (nI (pc (kn (vlp c (kn K0 53) n (K, s)).1 0)))) ∧ h' = p_mk Ls J L R X) := by
  obtain ⟨D', rfl⟩ : ∃ D', D = D' + 1 := ⟨D - 1, by omega⟩
  have tail : ∀ (i : Nat) (I : Nat → Nat → Int32) (K : Nat → Int32) (s : Nat), i ≤ 8 → (i = 8 ∨ pc (kn K 0) ≤ 1) → Cah Ls I R X K c → I 70 0 = nI s → I 1 0 = 999 → I 1 2 = nI 9999 → kn K 3 < 999 → ∃ J, frD I J ∧ Cah Ls J R X (nxK c K 2 (nI 0)) c ∧ J 70 0 = nI s ∧ P_run (D' + 1) 124 (p_bk 124 1) 0 0 [.ref 32, .ref 93, .int (nI i)] [] (p_mk Ls I L R X) (fun v h' => v = some (.int (nI (pc (kn K 0)))) ∧ h' = p_mk Ls J L R X) := by
    intro i I K s hi hor h e70 e0 e9 h3
    obtain ⟨D2, rfl⟩ : ∃ D2, D' = D2 + 1 := ⟨D' - 1, by omega⟩
    have s1 := sp_12h (L := L) (d := D2) h
    obtain ⟨J, f, hJ, s2⟩ := acth (L := L) (D := D2 + 1) (kd := 2) (nI 0) h (by omega) e0 e9 (by omega)
    refine ⟨J, frD_h f, Ca_nx h f hJ, by rw [f 70 (by omega) (by omega) (by omega)]; exact e70, ?_⟩
    have aw : (actW c K 2 (nI 0)).1 = nI (kn K 3 + 1) := by unfold actW; rw [if_neg (by omega), if_neg (by omega), if_pos rfl, if_pos h3]
    rw [aw] at s2
    have pl := pc_le (kn K 0)
    rcases hor with h8 | h8
    · subst h8
      rw [P_run_eq, bk_124_1, pb_124_1]; simp -implicitDefEqProofs (disch := first | omega | decide) only [P_m, ↓P_run_eq _ 124 _ (p_bk 124 2), bk_124_2, pb_124_2, pw_iload_n2, pw_bipush, bl_8, pw_cge, pw_aload_n1, pw_aloadN_n1, pw_iv1, pw_iconst, il_1, pw_cle, pw_aload_n0, pw_aloadN_n0, pw_getR, il_0, pw_getI, pw_iv2, pw_iv4, pw_popi, pw_popr, pw_iinc_2, po_i2, po_r2, po_n2, po_u2, pw_goto, pw_istore_n2, ps_2, pe_2, il_2, pw_ret0, kd_32, rf_32_0, rf_32_1, rf_32_2, rf_32_3, rf_32_4, rf_32_5, rf_32_6, rf_32_7, rf_32_8, rf_32_9, rf_32_11, rf_32_12, rf_32_13, kd_45, rf_45_0, rf_45_1, kd_93, rf_93_1, rf_93_3, rf_93_4, rf_93_5, rf_93_6, rf_93_11, rf_93_12, rf_93_14, n_0, n_1, n_2, n_8, nn_lt, nn_nlt, nn_le, nn_nle, nn_ne, nn_sub, nn_mul, nI_add, nn_neg, nm_eq, mn_eq, mm_eq, mn_lt, nm_lt, mn_le, nm_le, nn_sub0, nn_of, implies_true, nn_c, nn_in, nn_div, nat_rem, Nat.reduceMul, Nat.reduceSub, Nat.reduceDiv, Nat.reduceMod, pf_at, pf_ne, mk_s, mk_1, Classical.not_not, b2i_T, b2i_F, false_imp_iff, true_imp_iff, false_and, and_false, p_sw, Int.reduceAdd, Int.zero_add, Option.some.injEq, Value.int.injEq, Value.long.injEq, Value.ref.injEq, exists_eq_left', mk_I, mk_L, mk_wI, mk_wL, rf_s, rf_n, true_and, and_true, and_self, or_true, true_or, or_false, false_or, not_true_eq_false, not_false_eq_true, Option.toList_some, Option.toList_none, List.cons_append, List.nil_append, List.map_nil, List.map_cons, List.sum_nil, List.sum_cons, cat_i, cat_l, cat_r, cat_n, Nat.reduceLeDiff, Nat.reduceAdd, Nat.reduceEqDiff, Nat.zero_le, p_ent, p_u_ne, p_u_at, reduceIte, if_true, if_false, P_ce s1, P_ce s2]
    · rcases Nat.lt_or_ge i 8 with hi8 | hi8
      · rw [P_run_eq, bk_124_1, pb_124_1]; simp -implicitDefEqProofs (disch := first | omega | decide) only [P_m, ↓P_run_eq _ 124 _ (p_bk 124 2), bk_124_2, pb_124_2, pw_iload_n2, pw_bipush, bl_8, pw_cge, pw_aload_n1, pw_aloadN_n1, pw_iv1, pw_iconst, il_1, pw_cle, pw_aload_n0, pw_aloadN_n0, pw_getR, il_0, pw_getI, pw_iv2, pw_iv4, pw_popi, pw_popr, pw_iinc_2, po_i2, po_r2, po_n2, po_u2, pw_goto, pw_istore_n2, ps_2, pe_2, il_2, pw_ret0, kd_32, rf_32_0, rf_32_1, rf_32_2, rf_32_3, rf_32_4, rf_32_5, rf_32_6, rf_32_7, rf_32_8, rf_32_9, rf_32_11, rf_32_12, rf_32_13, kd_45, rf_45_0, rf_45_1, kd_93, rf_93_1, rf_93_3, rf_93_4, rf_93_5, rf_93_6, rf_93_11, rf_93_12, rf_93_14, n_0, n_1, n_2, n_8, nn_lt, nn_nlt, nn_le, nn_nle, nn_ne, nn_sub, nn_mul, nI_add, nn_neg, nm_eq, mn_eq, mm_eq, mn_lt, nm_lt, mn_le, nm_le, nn_sub0, nn_of, implies_true, nn_c, nn_in, nn_div, nat_rem, Nat.reduceMul, Nat.reduceSub, Nat.reduceDiv, Nat.reduceMod, pf_at, pf_ne, mk_s, mk_1, Classical.not_not, b2i_T, b2i_F, false_imp_iff, true_imp_iff, false_and, and_false, p_sw, Int.reduceAdd, Int.zero_add, Option.some.injEq, Value.int.injEq, Value.long.injEq, Value.ref.injEq, exists_eq_left', mk_I, mk_L, mk_wI, mk_wL, rf_s, rf_n, true_and, and_true, and_self, or_true, true_or, or_false, false_or, not_true_eq_false, not_false_eq_true, Option.toList_some, Option.toList_none, List.cons_append, List.nil_append, List.map_nil, List.map_cons, List.sum_nil, List.sum_cons, cat_i, cat_l, cat_r, cat_n, Nat.reduceLeDiff, Nat.reduceAdd, Nat.reduceEqDiff, Nat.zero_le, p_ent, p_u_ne, p_u_at, reduceIte, if_true, if_false, P_ce s1, P_ce s2]
      · have : i = 8 := by omega
        subst this
        rw [P_run_eq, bk_124_1, pb_124_1]; simp -implicitDefEqProofs (disch := first | omega | decide) only [P_m, ↓P_run_eq _ 124 _ (p_bk 124 2), bk_124_2, pb_124_2, pw_iload_n2, pw_bipush, bl_8, pw_cge, pw_aload_n1, pw_aloadN_n1, pw_iv1, pw_iconst, il_1, pw_cle, pw_aload_n0, pw_aloadN_n0, pw_getR, il_0, pw_getI, pw_iv2, pw_iv4, pw_popi, pw_popr, pw_iinc_2, po_i2, po_r2, po_n2, po_u2, pw_goto, pw_istore_n2, ps_2, pe_2, il_2, pw_ret0, kd_32, rf_32_0, rf_32_1, rf_32_2, rf_32_3, rf_32_4, rf_32_5, rf_32_6, rf_32_7, rf_32_8, rf_32_9, rf_32_11, rf_32_12, rf_32_13, kd_45, rf_45_0, rf_45_1, kd_93, rf_93_1, rf_93_3, rf_93_4, rf_93_5, rf_93_6, rf_93_11, rf_93_12, rf_93_14, n_0, n_1, n_2, n_8, nn_lt, nn_nlt, nn_le, nn_nle, nn_ne, nn_sub, nn_mul, nI_add, nn_neg, nm_eq, mn_eq, mm_eq, mn_lt, nm_lt, mn_le, nm_le, nn_sub0, nn_of, implies_true, nn_c, nn_in, nn_div, nat_rem, Nat.reduceMul, Nat.reduceSub, Nat.reduceDiv, Nat.reduceMod, pf_at, pf_ne, mk_s, mk_1, Classical.not_not, b2i_T, b2i_F, false_imp_iff, true_imp_iff, false_and, and_false, p_sw, Int.reduceAdd, Int.zero_add, Option.some.injEq, Value.int.injEq, Value.long.injEq, Value.ref.injEq, exists_eq_left', mk_I, mk_L, mk_wI, mk_wL, rf_s, rf_n, true_and, and_true, and_self, or_true, true_or, or_false, false_or, not_true_eq_false, not_false_eq_true, Option.toList_some, Option.toList_none, List.cons_append, List.nil_append, List.map_nil, List.map_cons, List.sum_nil, List.sum_cons, cat_i, cat_l, cat_r, cat_n, Nat.reduceLeDiff, Nat.reduceAdd, Nat.reduceEqDiff, Nat.zero_le, p_ent, p_u_ne, p_u_at, reduceIte, if_true, if_false, P_ce s1, P_ce s2]
  intro n
  induction n with
  | zero =>
    intro _ I K s h hd hs e70 e0 e9 h3
    exact tail 8 I K s (by omega) (Or.inl rfl) h e70 e0 e9 h3
  | succ n ih =>
    intro hn I K s h hd hs e70 e0 e9 h3
    by_cases hp : pc (kn K 0) ≤ 1
    · have ev : vlp c (kn K0 53) (n + 1) (K, s) = (K, s) := by
        show (if pc (kn K 0) ≤ 1 then _ else _) = _
        rw [if_pos hp]
      rw [ev] at h3 ⊢
      exact tail (8 - (n + 1)) I K s (by omega) (Or.inr hp) h e70 e0 e9 h3
    · obtain ⟨D2, rfl⟩ : ∃ D2, D' = D2 + 1 := ⟨D' - 1, by omega⟩
      have hz := drw_lt s
      have ev : vlp c (kn K0 53) (n + 1) (K, s) = vlp c (kn K0 53) n (nxK c K 0 (nI (drw s % kn K0 53)), drw s) := by
        show (if pc (kn K 0) ≤ 1 then _ else _) = _
        rw [if_neg hp]
      rw [ev] at h3 ⊢
      have hV := h.2.2.1
      obtain ⟨m1, m2⟩ := kn_53 hV
      have em : kn K0 53 = kn K 53 := by unfold kn; rw [hd.2.2.2.1]
      have s1 := sp_12h (L := L) (d := D2) h
      have s0 := sp_1 (d := D2 + 1) (Ls := Ls) (I := I) (L := L) (R := R) (X := X) (m := kn K0 53) hs hm0 (by omega) e70
      generalize drw s = z at *
      have e2 : I 93 2 = nI (kn K0 53) := by rw [em]; exact ((hutR_at h.1).1.2.1).trans m1
      obtain ⟨J1, f1, hJ1, s2⟩ := acth (L := L) (D := D2 + 1) (kd := 0) (nI (z % kn K0 53)) (Ca_70 (x := nI z) h) (by omega) (by rw [p_u_ne (by omega)]; exact e0) (by rw [p_u_ne (by omega)]; exact e9) (by omega)
      have h1 := Ca_nx (Ca_70 (x := nI z) h) f1 hJ1
      obtain ⟨J2, f2, c2, j2, s3⟩ := ih (by omega) J1 _ z h1 (dOk_nx hd) hz (by rw [f1 70 (by omega) (by omega) (by omega), p_u_at, if_pos rfl]) (by rw [f1 1 (by omega) (by omega) (by omega), p_u_ne (by omega)]; exact e0) (by rw [f1 1 (by omega) (by omega) (by omega), p_u_ne (by omega)]; exact e9) h3
      refine ⟨J2, fun a a1 a2 a3 a4 => ?_, c2, j2, ?_⟩
      · rw [f2 a a1 a2 a3 a4, f1 a a1 a2 a3, p_u_ne a4]
      · have pl := pc_le (kn K 0)
        have e8 : 8 - (n + 1) + 1 = 8 - n := by omega
        generalize (actW c K 0 (nI (z % kn K0 53))).1 = w at s2
        rw [P_run_eq, bk_124_1, pb_124_1]; simp -implicitDefEqProofs (disch := first | omega | decide) only [P_m, pw_iload_n2, pw_bipush, bl_8, pw_cge, pw_aload_n1, pw_aloadN_n1, pw_iv1, pw_iconst, il_1, pw_cle, pw_aload_n0, pw_aloadN_n0, pw_getR, il_0, pw_getI, pw_iv2, pw_iv4, pw_popi, pw_popr, pw_iinc_2, po_i2, po_r2, po_n2, po_u2, pw_goto, kd_32, rf_32_0, rf_32_1, rf_32_2, rf_32_3, rf_32_4, rf_32_5, rf_32_6, rf_32_7, rf_32_8, rf_32_9, rf_32_11, rf_32_12, rf_32_13, kd_45, rf_45_0, rf_45_1, kd_70, kd_93, rf_93_1, rf_93_3, rf_93_4, rf_93_5, rf_93_6, rf_93_11, rf_93_12, rf_93_14, n_0, n_1, n_8, nn_lt, nn_nlt, nn_le, nn_nle, nn_ne, nn_sub, nn_mul, nI_add, nn_neg, nm_eq, mn_eq, mm_eq, mn_lt, nm_lt, mn_le, nm_le, nn_sub0, nn_of, implies_true, nn_c, nn_in, nn_div, nat_rem, Nat.reduceMul, Nat.reduceSub, Nat.reduceDiv, Nat.reduceMod, pf_at, pf_ne, mk_s, mk_1, Classical.not_not, b2i_T, b2i_F, false_imp_iff, true_imp_iff, false_and, and_false, p_sw, Int.reduceAdd, Int.zero_add, Option.some.injEq, Value.int.injEq, Value.long.injEq, Value.ref.injEq, exists_eq_left', mk_I, mk_L, mk_wI, mk_wL, rf_s, rf_n, true_and, and_true, and_self, or_true, true_or, or_false, false_or, not_true_eq_false, not_false_eq_true, Option.toList_some, Option.toList_none, List.cons_append, List.nil_append, List.map_nil, List.map_cons, List.sum_nil, List.sum_cons, cat_i, cat_l, cat_r, cat_n, Nat.reduceLeDiff, Nat.reduceAdd, Nat.reduceEqDiff, Nat.zero_le, p_ent, p_u_ne, p_u_at, reduceIte, if_true, if_false, P_ce s1, e2, P_ce s0, P_ce s2, e8]
        exact s3
theorem vis_c {D s : Nat} (hD : 9 ≤ D) (hm0 : 0 < kn K0 53) (hn0 : 0 < kn K0 52) (h : Cah Ls I R X K c) (hd : dOk K0 c K) (hs : s < 1000003) (e70 : I 70 0 = nI s) (e0 : I 1 0 = 999) (e9 : I 1 2 = nI 9999) (h3 : kn (vis c (kn K0 52) (kn K0 53) (K, s)).1 3 < 999) : ∃ J, frD I J ∧ Cah Ls J R X (nxK c (vis c (kn K0 52) (kn K0 53) (K, s)).1 2 (nI 0)) c ∧ J 70 0 = nI (vis c (kn K0 52) (kn K0 53) (K, s)).2 ∧ P_m D 124 [.ref 32, .ref 93] (p_mk Ls I L R X) (fun v h' => v = some (.int (nI (pc (kn (vis c (kn K0 52) (kn K0 53) (K, s)).1 0)))) ∧ h' = p_mk Ls J L R X) := by
  obtain ⟨D', rfl⟩ : ∃ D', D = D' + 1 := ⟨D - 1, by omega⟩
  have hV := h.2.2.1
  obtain ⟨t1, t2⟩ := kn_52 hV
  have em : kn K0 52 = kn K 52 := by unfold kn; rw [hd.2.2.1]
  have hz := drw_lt s
  have s0 := sp_1 (d := D') (Ls := Ls) (I := I) (L := L) (R := R) (X := X) (m := kn K0 52) hs hn0 (by omega) e70
  unfold vis at *
  dsimp only at *
  generalize drw s = z at *
  have e2 : I 93 0 = nI (kn K0 52) := by rw [em]; exact ((hutR_at h.1).1.1).trans t1
  obtain ⟨J1, f1, hJ1, s2⟩ := acth (L := L) (D := D') (kd := 3) (nI (z % kn K0 52)) (Ca_70 (x := nI z) h) (by omega) (by rw [p_u_ne (by omega)]; exact e0) (by rw [p_u_ne (by omega)]; exact e9) (by omega)
  have h1 := Ca_nx (Ca_70 (x := nI z) h) f1 hJ1
  obtain ⟨J2, f2, c2, j2, s3⟩ := lp_124 (L := L) (D := D' + 1) (by omega) hm0 8 (by omega) J1 _ z h1 (dOk_nx hd) hz (by rw [f1 70 (by omega) (by omega) (by omega), p_u_at, if_pos rfl]) (by rw [f1 1 (by omega) (by omega) (by omega), p_u_ne (by omega)]; exact e0) (by rw [f1 1 (by omega) (by omega) (by omega), p_u_ne (by omega)]; exact e9) h3
  refine ⟨J2, fun a a1 a2 a3 a4 => ?_, c2, j2, ?_⟩
  · rw [f2 a a1 a2 a3 a4, f1 a a1 a2 a3, p_u_ne a4]
  · generalize (actW c K 3 (nI (z % kn K0 52))).1 = w at s2
    simp -implicitDefEqProofs (disch := first | omega | decide) only [P_m, ↓P_run_eq _ 124 _ (p_bk 124 0), bk_124_0, pb_124_0, pw_aload_n1, pw_aloadN_n1, pw_aload_n0, pw_aloadN_n0, pw_getR, pw_iconst, il_3, pw_getI, pw_iv2, pw_iv4, pw_popi, pw_popr, il_0, pw_istore_n2, ps_2, pe_2, po_i2, po_r2, po_n2, po_u2, pw_nop, kd_32, rf_32_0, rf_32_1, rf_32_2, rf_32_3, rf_32_4, rf_32_5, rf_32_6, rf_32_7, rf_32_8, rf_32_9, rf_32_11, rf_32_12, rf_32_13, kd_45, rf_45_0, rf_45_1, kd_70, kd_93, rf_93_1, rf_93_3, rf_93_4, rf_93_5, rf_93_6, rf_93_11, rf_93_12, rf_93_14, n_0, n_1, n_3, nn_lt, nn_nlt, nn_le, nn_nle, nn_ne, nn_sub, nn_mul, nI_add, nn_neg, nm_eq, mn_eq, mm_eq, mn_lt, nm_lt, mn_le, nm_le, nn_sub0, nn_of, implies_true, nn_c, nn_in, nn_div, nat_rem, Nat.reduceMul, Nat.reduceSub, Nat.reduceDiv, Nat.reduceMod, pf_at, pf_ne, mk_s, mk_1, Classical.not_not, b2i_T, b2i_F, false_imp_iff, true_imp_iff, false_and, and_false, p_sw, Int.reduceAdd, Int.zero_add, Option.some.injEq, Value.int.injEq, Value.long.injEq, Value.ref.injEq, exists_eq_left', mk_I, mk_L, mk_wI, mk_wL, rf_s, rf_n, true_and, and_true, and_self, or_true, true_or, or_false, false_or, not_true_eq_false, not_false_eq_true, Option.toList_some, Option.toList_none, List.cons_append, List.nil_append, List.map_nil, List.map_cons, List.sum_nil, List.sum_cons, cat_i, cat_l, cat_r, cat_n, Nat.reduceLeDiff, Nat.reduceAdd, Nat.reduceEqDiff, Nat.zero_le, p_ent, p_u_ne, p_u_at, reduceIte, if_true, if_false, e2, P_ce s0, P_ce s2]
    exact s3
end VI
