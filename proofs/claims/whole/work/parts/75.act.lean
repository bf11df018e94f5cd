section ATn
variable {Ls : Nat} {I : Nat → Nat → Int32} {L : Nat → Nat → Int64} {R : Nat → Nat → Option Nat} {X : List pKd} {c : Option (List tCl)} {K : Nat → Int32}
theorem actn {D kd : Nat} (v : Int32) (h : Can Ls I R X K c) (hk : kd ≤ 3) (e0 : I 1 0 = 999) (e9 : I 1 2 = nI 9999) (hD : 7 ≤ D) : ∃ J, frn I J ∧ hutR J 71 (nxK c K kd v) ∧ P_m D 18 [.ref 71, .ref 45, .int (nI kd), .int v] (p_mk Ls I L R X) (fun w h' => w = some (.int (actW c K kd v).1) ∧ h' = p_mk Ls J L R X) := by
  obtain ⟨D', rfl⟩ : ∃ D', D = D' + 7 := ⟨D - 7, by omega⟩
  have hV := h.2.2.1
  obtain ⟨t1, t2⟩ := kn_52 hV
  have g1 : K 1 = nI (kn K 1) ∧ kn K 1 ≤ 99 := kn_e hV (by omega) (by omega) (by omega)
  have g3 : K 3 = nI (kn K 3) ∧ kn K 3 ≤ 999 := kn_e hV (by omega) (by omega) (by omega)
  obtain ⟨⟨r1, r2, r3, r4, r5, r6, r7, r8⟩, ⟨u0, u1, u2⟩, ra, -⟩ := hutR_at h.1
  have r1' := r1.trans t1
  have r5' := r5.trans g1.1
  have u0' := u0.trans g3.1
  have : kd = 0 ∨ kd = 1 ∨ kd = 2 ∨ kd = 3 := by omega
  rcases this with rfl | rfl | rfl | rfl
  · obtain ⟨J, f, hR, s⟩ := sp_19n (L := L) (D := D' + 6) v h e9 (by omega)
    refine ⟨J, f, hR, ?_⟩
    generalize actW c K 0 v = w at *
    simp -implicitDefEqProofs (disch := first | omega | decide) only [P_m, ↓P_run_eq _ 18 _ (p_bk 18 0), bk_18_0, pb_18_0, ↓P_run_eq _ 18 _ (p_bk 18 1), bk_18_1, pb_18_1, pw_iload_n2, pw_sw, pw_aload_n0, pw_aloadN_n0, pw_aload_n1, pw_aloadN_n1, pw_iload_n3, pw_iv3, pw_ret0, kd_71, rf_71_1, rf_71_3, rf_71_4, rf_71_5, rf_71_6, rf_71_11, rf_71_12, rf_71_14, n_0, n_1, nn_lt, nn_nlt, nn_le, nn_nle, nn_ne, nn_sub, nn_mul, nI_add, nn_neg, nm_eq, mn_eq, mm_eq, mn_lt, nm_lt, mn_le, nm_le, nn_sub0, nn_of, implies_true, nn_c, nn_in, nn_div, nat_rem, Nat.reduceMul, Nat.reduceSub, Nat.reduceDiv, Nat.reduceMod, pf_at, pf_ne, mk_s, mk_1, Classical.not_not, b2i_T, b2i_F, false_imp_iff, true_imp_iff, false_and, and_false, p_sw, Int.reduceAdd, Int.zero_add, Option.some.injEq, Value.int.injEq, Value.long.injEq, Value.ref.injEq, exists_eq_left', mk_I, mk_L, mk_wI, mk_wL, rf_s, rf_n, true_and, and_true, and_self, or_true, true_or, or_false, false_or, not_true_eq_false, not_false_eq_true, Option.toList_some, Option.toList_none, List.cons_append, List.nil_append, List.map_nil, List.map_cons, List.sum_nil, List.sum_cons, cat_i, cat_l, cat_r, cat_n, Nat.reduceLeDiff, Nat.reduceAdd, Nat.reduceEqDiff, Nat.zero_le, p_ent, p_u_ne, p_u_at, reduceIte, if_true, if_false, P_ce s, nI_toInt, Int.reduceEq, Int.reduceLT, Int.cast_ofNat_Int]
  · unfold nxK actW
    rw [if_neg (by omega), if_pos rfl]
    by_cases hc : 1 ≤ v ∧ v ≤ 9
    · rw [if_pos hc]
      obtain ⟨x, hx, rfl⟩ := nI_of2 (x := v) (M := 9) (n := 9) rfl (fun c9 => absurd hc.1 (Int32.not_le.mpr (Int32.lt_trans c9 (by decide)))) hc.2
      rw [nI_clamp (by omega)]
      have s := sp_20 (d := D' + 6) (Ls := Ls) (I := I) (L := L) (R := R) (X := X) (nI x) hc
      have e : (if 99 < I 71 9 + nI x then 99 else I 71 9 + nI x) = nI (min (kn K 1 + x) 99) := by
        rw [r5', nI_add, n_99]
        rcases Nat.lt_or_ge 99 (kn K 1 + x) with h | h
        · rw [if_pos (nI_lt (a := 99) h (by omega)), show min (kn K 1 + x) 99 = 99 by omega]
        · rw [if_neg (nI_nlt (a := 99) h (by omega)), show min (kn K 1 + x) 99 = kn K 1 + x by omega]
      rw [e] at s
      refine ⟨p_u I 71 9 (nI (min (kn K 1 + x) 99)), fun a a1 a2 a3 => p_u_ne (by omega), updL_hR [(1, nI (min (kn K 1 + x) 99))] ⟨⟨by omega, by omega, Or.inr (Or.inr (Or.inr ⟨_, by show min _ 99 ≤ 99; omega, rfl⟩))⟩, trivial⟩ h.1, ?_⟩
      simp -implicitDefEqProofs (disch := first | omega | decide) only [P_m, ↓P_run_eq _ 18 _ (p_bk 18 0), bk_18_0, pb_18_0, ↓P_run_eq _ 18 _ (p_bk 18 2), bk_18_2, pb_18_2, pw_iload_n2, pw_sw, pw_aload_n0, pw_aloadN_n0, pw_iload_n3, pw_iv2, pw_ret0, kd_71, rf_71_1, rf_71_3, rf_71_4, rf_71_5, rf_71_6, rf_71_11, rf_71_12, rf_71_14, n_0, n_1, nn_lt, nn_nlt, nn_le, nn_nle, nn_ne, nn_sub, nn_mul, nI_add, nn_neg, nm_eq, mn_eq, mm_eq, mn_lt, nm_lt, mn_le, nm_le, nn_sub0, nn_of, implies_true, nn_c, nn_in, nn_div, nat_rem, Nat.reduceMul, Nat.reduceSub, Nat.reduceDiv, Nat.reduceMod, pf_at, pf_ne, mk_s, mk_1, Classical.not_not, b2i_T, b2i_F, false_imp_iff, true_imp_iff, false_and, and_false, p_sw, Int.reduceAdd, Int.zero_add, Option.some.injEq, Value.int.injEq, Value.long.injEq, Value.ref.injEq, exists_eq_left', mk_I, mk_L, mk_wI, mk_wL, rf_s, rf_n, true_and, and_true, and_self, or_true, true_or, or_false, false_or, not_true_eq_false, not_false_eq_true, Option.toList_some, Option.toList_none, List.cons_append, List.nil_append, List.map_nil, List.map_cons, List.sum_nil, List.sum_cons, cat_i, cat_l, cat_r, cat_n, Nat.reduceLeDiff, Nat.reduceAdd, Nat.reduceEqDiff, Nat.zero_le, p_ent, p_u_ne, p_u_at, reduceIte, if_true, if_false, P_ce s, nI_toInt, Int.reduceEq, Int.reduceLT, Int.cast_ofNat_Int]
    · rw [if_neg hc]
      have s := sp_20n (d := D' + 6) (Ls := Ls) (I := I) (L := L) (R := R) (X := X) v hc
      refine ⟨I, fun a _ _ _ => rfl, h.1, ?_⟩
      simp -implicitDefEqProofs (disch := first | omega | decide) only [P_m, ↓P_run_eq _ 18 _ (p_bk 18 0), bk_18_0, pb_18_0, ↓P_run_eq _ 18 _ (p_bk 18 2), bk_18_2, pb_18_2, pw_iload_n2, pw_sw, pw_aload_n0, pw_aloadN_n0, pw_iload_n3, pw_iv2, pw_ret0, kd_71, rf_71_1, rf_71_3, rf_71_4, rf_71_5, rf_71_6, rf_71_11, rf_71_12, rf_71_14, n_0, n_1, nn_lt, nn_nlt, nn_le, nn_nle, nn_ne, nn_sub, nn_mul, nI_add, nn_neg, nm_eq, mn_eq, mm_eq, mn_lt, nm_lt, mn_le, nm_le, nn_sub0, nn_of, implies_true, nn_c, nn_in, nn_div, nat_rem, Nat.reduceMul, Nat.reduceSub, Nat.reduceDiv, Nat.reduceMod, pf_at, pf_ne, mk_s, mk_1, Classical.not_not, b2i_T, b2i_F, false_imp_iff, true_imp_iff, false_and, and_false, p_sw, Int.reduceAdd, Int.zero_add, Option.some.injEq, Value.int.injEq, Value.long.injEq, Value.ref.injEq, exists_eq_left', mk_I, mk_L, mk_wI, mk_wL, rf_s, rf_n, true_and, and_true, and_self, or_true, true_or, or_false, false_or, not_true_eq_false, not_false_eq_true, Option.toList_some, Option.toList_none, List.cons_append, List.nil_append, List.map_nil, List.map_cons, List.sum_nil, List.sum_cons, cat_i, cat_l, cat_r, cat_n, Nat.reduceLeDiff, Nat.reduceAdd, Nat.reduceEqDiff, Nat.zero_le, p_ent, p_u_ne, p_u_at, reduceIte, if_true, if_false, P_ce s, nI_toInt, Int.reduceEq, Int.reduceLT, Int.cast_ofNat_Int]
  · unfold nxK actW
    rw [if_neg (by omega), if_neg (by omega), if_pos rfl]
    by_cases hc : kn K 3 < 999
    · rw [if_pos hc]
      have s := sp_21 (d := D' + 6) (Ls := Ls) (I := I) (L := L) (R := R) (X := X) hc g1.2 e0 u0' r5'
      refine ⟨_, fun a a1 a2 a3 => ?_, updL_hR [(3, nI (kn K 3 + 1)), (1, nI (kn K 1 - 1))] ⟨⟨by omega, by omega, Or.inr (Or.inr (Or.inr ⟨_, by show kn K 3 + 1 ≤ 999; omega, rfl⟩))⟩, ⟨by omega, by omega, Or.inr (Or.inr (Or.inr ⟨_, by show kn K 1 - 1 ≤ 99; omega, rfl⟩))⟩, trivial⟩ h.1, ?_⟩
      · show p_u (p_u I 78 0 _) 71 9 _ a = I a
        rw [p_u_ne (by omega), p_u_ne (by omega)]
      · show P_m _ _ _ _ (fun w h' => w = some (.int (nI (kn K 3 + 1))) ∧ h' = p_mk Ls (p_u (p_u I 78 0 (nI (kn K 3 + 1))) 71 9 (nI (kn K 1 - 1))) L R X)
        simp -implicitDefEqProofs (disch := first | omega | decide) only [P_m, ↓P_run_eq _ 18 _ (p_bk 18 0), bk_18_0, pb_18_0, ↓P_run_eq _ 18 _ (p_bk 18 3), bk_18_3, pb_18_3, pw_iload_n2, pw_sw, pw_aload_n0, pw_aloadN_n0, pw_iv1, pw_ret0, kd_71, rf_71_1, rf_71_3, rf_71_4, rf_71_5, rf_71_6, rf_71_11, rf_71_12, rf_71_14, n_0, n_1, nn_lt, nn_nlt, nn_le, nn_nle, nn_ne, nn_sub, nn_mul, nI_add, nn_neg, nm_eq, mn_eq, mm_eq, mn_lt, nm_lt, mn_le, nm_le, nn_sub0, nn_of, implies_true, nn_c, nn_in, nn_div, nat_rem, Nat.reduceMul, Nat.reduceSub, Nat.reduceDiv, Nat.reduceMod, pf_at, pf_ne, mk_s, mk_1, Classical.not_not, b2i_T, b2i_F, false_imp_iff, true_imp_iff, false_and, and_false, p_sw, Int.reduceAdd, Int.zero_add, Option.some.injEq, Value.int.injEq, Value.long.injEq, Value.ref.injEq, exists_eq_left', mk_I, mk_L, mk_wI, mk_wL, rf_s, rf_n, true_and, and_true, and_self, or_true, true_or, or_false, false_or, not_true_eq_false, not_false_eq_true, Option.toList_some, Option.toList_none, List.cons_append, List.nil_append, List.map_nil, List.map_cons, List.sum_nil, List.sum_cons, cat_i, cat_l, cat_r, cat_n, Nat.reduceLeDiff, Nat.reduceAdd, Nat.reduceEqDiff, Nat.zero_le, p_ent, p_u_ne, p_u_at, reduceIte, if_true, if_false, P_ce s, nI_toInt, Int.reduceEq, Int.reduceLT, Int.cast_ofNat_Int]
    · rw [if_neg hc]
      have : kn K 3 = 999 := by omega
      rw [this] at u0'
      have s := sp_21n (d := D' + 6) (Ls := Ls) (I := I) (L := L) (R := R) (X := X) e0 u0'
      refine ⟨I, fun a _ _ _ => rfl, h.1, ?_⟩
      simp -implicitDefEqProofs (disch := first | omega | decide) only [P_m, ↓P_run_eq _ 18 _ (p_bk 18 0), bk_18_0, pb_18_0, ↓P_run_eq _ 18 _ (p_bk 18 3), bk_18_3, pb_18_3, pw_iload_n2, pw_sw, pw_aload_n0, pw_aloadN_n0, pw_iv1, pw_ret0, kd_71, rf_71_1, rf_71_3, rf_71_4, rf_71_5, rf_71_6, rf_71_11, rf_71_12, rf_71_14, n_0, n_1, nn_lt, nn_nlt, nn_le, nn_nle, nn_ne, nn_sub, nn_mul, nI_add, nn_neg, nm_eq, mn_eq, mm_eq, mn_lt, nm_lt, mn_le, nm_le, nn_sub0, nn_of, implies_true, nn_c, nn_in, nn_div, nat_rem, Nat.reduceMul, Nat.reduceSub, Nat.reduceDiv, Nat.reduceMod, pf_at, pf_ne, mk_s, mk_1, Classical.not_not, b2i_T, b2i_F, false_imp_iff, true_imp_iff, false_and, and_false, p_sw, Int.reduceAdd, Int.zero_add, Option.some.injEq, Value.int.injEq, Value.long.injEq, Value.ref.injEq, exists_eq_left', mk_I, mk_L, mk_wI, mk_wL, rf_s, rf_n, true_and, and_true, and_self, or_true, true_or, or_false, false_or, not_true_eq_false, not_false_eq_true, Option.toList_some, Option.toList_none, List.cons_append, List.nil_append, List.map_nil, List.map_cons, List.sum_nil, List.sum_cons, cat_i, cat_l, cat_r, cat_n, Nat.reduceLeDiff, Nat.reduceAdd, Nat.reduceEqDiff, Nat.zero_le, p_ent, p_u_ne, p_u_at, reduceIte, if_true, if_false, P_ce s, nI_toInt, Int.reduceEq, Int.reduceLT, Int.cast_ofNat_Int]
  · unfold nxK actW
    rw [if_neg (by omega), if_neg (by omega), if_neg (by omega)]
    unfold isT
    rw [t1]
    by_cases hc : v = -1 ∨ (0 ≤ v ∧ v < nI (kn K 52))
    · rw [if_pos (by
        simp only [Bool.or_eq_true, Bool.and_eq_true, decide_eq_true_eq]; exact hc)]
      have s := sp_22 (d := D' + 4) (Ls := Ls) (I := I) (L := L) (R := R) (X := X) v t2 r1' hc
      have bz : bn 0 999 := ⟨0, by omega, rfl⟩
      have wo : wsOk (hidW K v) := ⟨⟨by omega, by omega, Or.inr (Or.inl rfl)⟩, ⟨by omega, by omega, Or.inl rfl⟩, ⟨by omega, by omega, Or.inr (Or.inr (Or.inr bz))⟩, ⟨by omega, by omega, Or.inr (Or.inr (Or.inr bz))⟩, ⟨by omega, by omega, Or.inr (Or.inr (Or.inr bz))⟩, ⟨by omega, by omega, Or.inr (Or.inr (Or.inr bz))⟩, ⟨by omega, by omega, Or.inr (Or.inr (Or.inr bz))⟩, ⟨by omega, by omega, Or.inr (Or.inr (Or.inr bz))⟩, ⟨by omega, by omega, Or.inr (Or.inr (Or.inr bz))⟩, ⟨by omega, by omega, Or.inr (Or.inr (Or.inr bz))⟩, trivial⟩
      refine ⟨wC 71 I (hidW K v), fun a a1 a2 a3 => wC_fr _ _ wo (by omega), updL_hR _ wo h.1, ?_⟩
      show P_m _ _ _ _ (fun w h' => w = some (.int (nI (kn K 52))) ∧ h' = p_mk Ls (p_u (p_u (p_u (p_u (p_u (p_u (p_u (p_u (p_u (p_u I 71 7 v) 71 8 (nI (2 ^ kn K 52 - 1))) 76 0 0) 76 1 0) 76 2 0) 76 3 0) 76 4 0) 76 5 0) 76 6 0) 76 7 0) L R X)
      have t3 : (nI 3).toInt = 3 := by decide
      simp -implicitDefEqProofs only [P_m, ↓P_run_eq _ 18 _ (p_bk 18 0), bk_18_0, pb_18_0, ↓P_run_eq _ 18 _ (p_bk 18 4), bk_18_4, pb_18_4, pw_iload_n2, pw_sw, pw_aload_n0, pw_aloadN_n0, pw_iload_n3, pw_iv2, pw_ret0, kd_71, rf_71_1, rf_71_3, rf_71_4, rf_71_5, rf_71_6, rf_71_11, rf_71_12, rf_71_14, Classical.not_not, implies_true, mk_s, mk_1, pf_at, pf_ne, b2i_T, b2i_F, false_imp_iff, true_imp_iff, ne_10, ne_01, ne_m10, ne_0m1, ne_m11, ne_1m1, false_and, and_false, p_sw, Int.reduceAdd, Int.zero_add, Option.some.injEq, Value.int.injEq, Value.long.injEq, Value.ref.injEq, exists_eq_left',  mk_I, mk_L, mk_wI, mk_wL, rf_s, rf_n, true_and, and_true, and_self, or_true, true_or, or_false, false_or, not_true_eq_false, not_false_eq_true, Option.toList_some, Option.toList_none, List.cons_append, List.nil_append, List.map_nil, List.map_cons, List.sum_nil, List.sum_cons, cat_i, cat_l, cat_r, cat_n, Nat.reduceLeDiff, Nat.reduceAdd, Nat.reduceEqDiff, Nat.zero_le, p_ent, Int32.reduceToNatClampNeg, Int32.reduceLT, Int32.reduceLE, vin_l, p_u_ne, p_u_at, reduceIte, if_true, if_false, Int32.reduceToInt, Int.zero_le_ofNat, Int.cast_ofNat_Int, Int.reduceLT, Int.reduceLE, not_false_eq_true, P_ce s, t3, Int.reduceEq, Int.reduceLT, Int.cast_ofNat_Int]
    · rw [if_neg (by
        simp only [Bool.or_eq_true, Bool.and_eq_true, decide_eq_true_eq]; exact hc)]
      have s := sp_22n (d := D' + 4) (Ls := Ls) (I := I) (L := L) (R := R) (X := X) v r1' hc
      refine ⟨I, fun a _ _ _ => rfl, h.1, ?_⟩
      simp -implicitDefEqProofs (disch := first | omega | decide) only [P_m, ↓P_run_eq _ 18 _ (p_bk 18 0), bk_18_0, pb_18_0, ↓P_run_eq _ 18 _ (p_bk 18 4), bk_18_4, pb_18_4, pw_iload_n2, pw_sw, pw_aload_n0, pw_aloadN_n0, pw_iload_n3, pw_iv2, pw_ret0, kd_71, rf_71_1, rf_71_3, rf_71_4, rf_71_5, rf_71_6, rf_71_11, rf_71_12, rf_71_14, n_0, n_1, nn_lt, nn_nlt, nn_le, nn_nle, nn_ne, nn_sub, nn_mul, nI_add, nn_neg, nm_eq, mn_eq, mm_eq, mn_lt, nm_lt, mn_le, nm_le, nn_sub0, nn_of, implies_true, nn_c, nn_in, nn_div, nat_rem, Nat.reduceMul, Nat.reduceSub, Nat.reduceDiv, Nat.reduceMod, pf_at, pf_ne, mk_s, mk_1, Classical.not_not, b2i_T, b2i_F, false_imp_iff, true_imp_iff, false_and, and_false, p_sw, Int.reduceAdd, Int.zero_add, Option.some.injEq, Value.int.injEq, Value.long.injEq, Value.ref.injEq, exists_eq_left', mk_I, mk_L, mk_wI, mk_wL, rf_s, rf_n, true_and, and_true, and_self, or_true, true_or, or_false, false_or, not_true_eq_false, not_false_eq_true, Option.toList_some, Option.toList_none, List.cons_append, List.nil_append, List.map_nil, List.map_cons, List.sum_nil, List.sum_cons, cat_i, cat_l, cat_r, cat_n, Nat.reduceLeDiff, Nat.reduceAdd, Nat.reduceEqDiff, Nat.zero_le, p_ent, p_u_ne, p_u_at, reduceIte, if_true, if_false, P_ce s, nI_toInt, Int.reduceEq, Int.reduceLT, Int.cast_ofNat_Int]
end ATn
section ATh
variable {Ls : Nat} {I : Nat → Nat → Int32} {L : Nat → Nat → Int64} {R : Nat → Nat → Option Nat} {X : List pKd} {c : Option (List tCl)} {K : Nat → Int32}
theorem acth {D kd : Nat} (v : Int32) (h : Cah Ls I R X K c) (hk : kd ≤ 3) (e0 : I 1 0 = 999) (e9 : I 1 2 = nI 9999) (hD : 7 ≤ D) : ∃ J, frh I J ∧ hutR J 93 (nxK c K kd v) ∧ P_m D 18 [.ref 93, .ref 45, .int (nI kd), .int v] (p_mk Ls I L R X) (fun w h' => w = some (.int (actW c K kd v).1) ∧ h' = p_mk Ls J L R X) := by
  obtain ⟨D', rfl⟩ : ∃ D', D = D' + 7 := ⟨D - 7, by omega⟩
  have hV := h.2.2.1
  obtain ⟨t1, t2⟩ := kn_52 hV
  have g1 : K 1 = nI (kn K 1) ∧ kn K 1 ≤ 99 := kn_e hV (by omega) (by omega) (by omega)
  have g3 : K 3 = nI (kn K 3) ∧ kn K 3 ≤ 999 := kn_e hV (by omega) (by omega) (by omega)
  obtain ⟨⟨r1, r2, r3, r4, r5, r6, r7, r8⟩, ⟨u0, u1, u2⟩, ra, -⟩ := hutR_at h.1
  have r1' := r1.trans t1
  have r5' := r5.trans g1.1
  have u0' := u0.trans g3.1
  have : kd = 0 ∨ kd = 1 ∨ kd = 2 ∨ kd = 3 := by omega
  rcases this with rfl | rfl | rfl | rfl
  · obtain ⟨J, f, hR, s⟩ := sp_19h (L := L) (D := D' + 6) v h e9 (by omega)
    refine ⟨J, f, hR, ?_⟩
    generalize actW c K 0 v = w at *
    simp -implicitDefEqProofs (disch := first | omega | decide) only [P_m, ↓P_run_eq _ 18 _ (p_bk 18 0), bk_18_0, pb_18_0, ↓P_run_eq _ 18 _ (p_bk 18 1), bk_18_1, pb_18_1, pw_iload_n2, pw_sw, pw_aload_n0, pw_aloadN_n0, pw_aload_n1, pw_aloadN_n1, pw_iload_n3, pw_iv3, pw_ret0, kd_93, rf_93_1, rf_93_3, rf_93_4, rf_93_5, rf_93_6, rf_93_11, rf_93_12, rf_93_14, n_0, n_1, nn_lt, nn_nlt, nn_le, nn_nle, nn_ne, nn_sub, nn_mul, nI_add, nn_neg, nm_eq, mn_eq, mm_eq, mn_lt, nm_lt, mn_le, nm_le, nn_sub0, nn_of, implies_true, nn_c, nn_in, nn_div, nat_rem, Nat.reduceMul, Nat.reduceSub, Nat.reduceDiv, Nat.reduceMod, pf_at, pf_ne, mk_s, mk_1, Classical.not_not, b2i_T, b2i_F, false_imp_iff, true_imp_iff, false_and, and_false, p_sw, Int.reduceAdd, Int.zero_add, Option.some.injEq, Value.int.injEq, Value.long.injEq, Value.ref.injEq, exists_eq_left', mk_I, mk_L, mk_wI, mk_wL, rf_s, rf_n, true_and, and_true, and_self, or_true, true_or, or_false, false_or, not_true_eq_false, not_false_eq_true, Option.toList_some, Option.toList_none, List.cons_append, List.nil_append, List.map_nil, List.map_cons, List.sum_nil, List.sum_cons, cat_i, cat_l, cat_r, cat_n, Nat.reduceLeDiff, Nat.reduceAdd, Nat.reduceEqDiff, Nat.zero_le, p_ent, p_u_ne, p_u_at, reduceIte, if_true, if_false, P_ce s, nI_toInt, Int.reduceEq, Int.reduceLT, Int.cast_ofNat_Int]
  · unfold nxK actW
    rw [if_neg (by omega), if_pos rfl]
    by_cases hc : 1 ≤ v ∧ v ≤ 9
    · rw [if_pos hc]
      obtain ⟨x, hx, rfl⟩ := nI_of2 (x := v) (M := 9) (n := 9) rfl (fun c9 => absurd hc.1 (Int32.not_le.mpr (Int32.lt_trans c9 (by decide)))) hc.2
      rw [nI_clamp (by omega)]
      have s := sp_20l (d := D' + 6) (Ls := Ls) (I := I) (L := L) (R := R) (X := X) (nI x) hc
      have e : (if 99 < I 93 9 + nI x then 99 else I 93 9 + nI x) = nI (min (kn K 1 + x) 99) := by
        rw [r5', nI_add, n_99]
        rcases Nat.lt_or_ge 99 (kn K 1 + x) with h | h
        · rw [if_pos (nI_lt (a := 99) h (by omega)), show min (kn K 1 + x) 99 = 99 by omega]
        · rw [if_neg (nI_nlt (a := 99) h (by omega)), show min (kn K 1 + x) 99 = kn K 1 + x by omega]
      rw [e] at s
      refine ⟨p_u I 93 9 (nI (min (kn K 1 + x) 99)), fun a a1 a2 a3 => p_u_ne (by omega), updL_hR [(1, nI (min (kn K 1 + x) 99))] ⟨⟨by omega, by omega, Or.inr (Or.inr (Or.inr ⟨_, by show min _ 99 ≤ 99; omega, rfl⟩))⟩, trivial⟩ h.1, ?_⟩
      simp -implicitDefEqProofs (disch := first | omega | decide) only [P_m, ↓P_run_eq _ 18 _ (p_bk 18 0), bk_18_0, pb_18_0, ↓P_run_eq _ 18 _ (p_bk 18 2), bk_18_2, pb_18_2, pw_iload_n2, pw_sw, pw_aload_n0, pw_aloadN_n0, pw_iload_n3, pw_iv2, pw_ret0, kd_93, rf_93_1, rf_93_3, rf_93_4, rf_93_5, rf_93_6, rf_93_11, rf_93_12, rf_93_14, n_0, n_1, nn_lt, nn_nlt, nn_le, nn_nle, nn_ne, nn_sub, nn_mul, nI_add, nn_neg, nm_eq, mn_eq, mm_eq, mn_lt, nm_lt, mn_le, nm_le, nn_sub0, nn_of, implies_true, nn_c, nn_in, nn_div, nat_rem, Nat.reduceMul, Nat.reduceSub, Nat.reduceDiv, Nat.reduceMod, pf_at, pf_ne, mk_s, mk_1, Classical.not_not, b2i_T, b2i_F, false_imp_iff, true_imp_iff, false_and, and_false, p_sw, Int.reduceAdd, Int.zero_add, Option.some.injEq, Value.int.injEq, Value.long.injEq, Value.ref.injEq, exists_eq_left', mk_I, mk_L, mk_wI, mk_wL, rf_s, rf_n, true_and, and_true, and_self, or_true, true_or, or_false, false_or, not_true_eq_false, not_false_eq_true, Option.toList_some, Option.toList_none, List.cons_append, List.nil_append, List.map_nil, List.map_cons, List.sum_nil, List.sum_cons, cat_i, cat_l, cat_r, cat_n, Nat.reduceLeDiff, Nat.reduceAdd, Nat.reduceEqDiff, Nat.zero_le, p_ent, p_u_ne, p_u_at, reduceIte, if_true, if_false, P_ce s, nI_toInt, Int.reduceEq, Int.reduceLT, Int.cast_ofNat_Int]
    · rw [if_neg hc]
      have s := sp_20ln (d := D' + 6) (Ls := Ls) (I := I) (L := L) (R := R) (X := X) v hc
      refine ⟨I, fun a _ _ _ => rfl, h.1, ?_⟩
      simp -implicitDefEqProofs (disch := first | omega | decide) only [P_m, ↓P_run_eq _ 18 _ (p_bk 18 0), bk_18_0, pb_18_0, ↓P_run_eq _ 18 _ (p_bk 18 2), bk_18_2, pb_18_2, pw_iload_n2, pw_sw, pw_aload_n0, pw_aloadN_n0, pw_iload_n3, pw_iv2, pw_ret0, kd_93, rf_93_1, rf_93_3, rf_93_4, rf_93_5, rf_93_6, rf_93_11, rf_93_12, rf_93_14, n_0, n_1, nn_lt, nn_nlt, nn_le, nn_nle, nn_ne, nn_sub, nn_mul, nI_add, nn_neg, nm_eq, mn_eq, mm_eq, mn_lt, nm_lt, mn_le, nm_le, nn_sub0, nn_of, implies_true, nn_c, nn_in, nn_div, nat_rem, Nat.reduceMul, Nat.reduceSub, Nat.reduceDiv, Nat.reduceMod, pf_at, pf_ne, mk_s, mk_1, Classical.not_not, b2i_T, b2i_F, false_imp_iff, true_imp_iff, false_and, and_false, p_sw, Int.reduceAdd, Int.zero_add, Option.some.injEq, Value.int.injEq, Value.long.injEq, Value.ref.injEq, exists_eq_left', mk_I, mk_L, mk_wI, mk_wL, rf_s, rf_n, true_and, and_true, and_self, or_true, true_or, or_false, false_or, not_true_eq_false, not_false_eq_true, Option.toList_some, Option.toList_none, List.cons_append, List.nil_append, List.map_nil, List.map_cons, List.sum_nil, List.sum_cons, cat_i, cat_l, cat_r, cat_n, Nat.reduceLeDiff, Nat.reduceAdd, Nat.reduceEqDiff, Nat.zero_le, p_ent, p_u_ne, p_u_at, reduceIte, if_true, if_false, P_ce s, nI_toInt, Int.reduceEq, Int.reduceLT, Int.cast_ofNat_Int]
  · unfold nxK actW
    rw [if_neg (by omega), if_neg (by omega), if_pos rfl]
    by_cases hc : kn K 3 < 999
    · rw [if_pos hc]
      have s := sp_21l (d := D' + 6) (Ls := Ls) (I := I) (L := L) (R := R) (X := X) hc g1.2 e0 u0' r5'
      refine ⟨_, fun a a1 a2 a3 => ?_, updL_hR [(3, nI (kn K 3 + 1)), (1, nI (kn K 1 - 1))] ⟨⟨by omega, by omega, Or.inr (Or.inr (Or.inr ⟨_, by show kn K 3 + 1 ≤ 999; omega, rfl⟩))⟩, ⟨by omega, by omega, Or.inr (Or.inr (Or.inr ⟨_, by show kn K 1 - 1 ≤ 99; omega, rfl⟩))⟩, trivial⟩ h.1, ?_⟩
      · show p_u (p_u I 100 0 _) 93 9 _ a = I a
        rw [p_u_ne (by omega), p_u_ne (by omega)]
      · show P_m _ _ _ _ (fun w h' => w = some (.int (nI (kn K 3 + 1))) ∧ h' = p_mk Ls (p_u (p_u I 100 0 (nI (kn K 3 + 1))) 93 9 (nI (kn K 1 - 1))) L R X)
        simp -implicitDefEqProofs (disch := first | omega | decide) only [P_m, ↓P_run_eq _ 18 _ (p_bk 18 0), bk_18_0, pb_18_0, ↓P_run_eq _ 18 _ (p_bk 18 3), bk_18_3, pb_18_3, pw_iload_n2, pw_sw, pw_aload_n0, pw_aloadN_n0, pw_iv1, pw_ret0, kd_93, rf_93_1, rf_93_3, rf_93_4, rf_93_5, rf_93_6, rf_93_11, rf_93_12, rf_93_14, n_0, n_1, nn_lt, nn_nlt, nn_le, nn_nle, nn_ne, nn_sub, nn_mul, nI_add, nn_neg, nm_eq, mn_eq, mm_eq, mn_lt, nm_lt, mn_le, nm_le, nn_sub0, nn_of, implies_true, nn_c, nn_in, nn_div, nat_rem, Nat.reduceMul, Nat.reduceSub, Nat.reduceDiv, Nat.reduceMod, pf_at, pf_ne, mk_s, mk_1, Classical.not_not, b2i_T, b2i_F, false_imp_iff, true_imp_iff, false_and, and_false, p_sw, Int.reduceAdd, Int.zero_add, Option.some.injEq, Value.int.injEq, Value.long.injEq, Value.ref.injEq, exists_eq_left', mk_I, mk_L, mk_wI, mk_wL, rf_s, rf_n, true_and, and_true, and_self, or_true, true_or, or_false, false_or, not_true_eq_false, not_false_eq_true, Option.toList_some, Option.toList_none, List.cons_append, List.nil_append, List.map_nil, List.map_cons, List.sum_nil, List.sum_cons, cat_i, cat_l, cat_r, cat_n, Nat.reduceLeDiff, Nat.reduceAdd, Nat.reduceEqDiff, Nat.zero_le, p_ent, p_u_ne, p_u_at, reduceIte, if_true, if_false, P_ce s, nI_toInt, Int.reduceEq, Int.reduceLT, Int.cast_ofNat_Int]
    · rw [if_neg hc]
      have : kn K 3 = 999 := by omega
      rw [this] at u0'
      have s := sp_21ln (d := D' + 6) (Ls := Ls) (I := I) (L := L) (R := R) (X := X) e0 u0'
      refine ⟨I, fun a _ _ _ => rfl, h.1, ?_⟩
      simp -implicitDefEqProofs (disch := first | omega | decide) only [P_m, ↓P_run_eq _ 18 _ (p_bk 18 0), bk_18_0, pb_18_0, ↓P_run_eq _ 18 _ (p_bk 18 3), bk_18_3, pb_18_3, pw_iload_n2, pw_sw, pw_aload_n0, pw_aloadN_n0, pw_iv1, pw_ret0, kd_93, rf_93_1, rf_93_3, rf_93_4, rf_93_5, rf_93_6, rf_93_11, rf_93_12, rf_93_14, n_0, n_1, nn_lt, nn_nlt, nn_le, nn_nle, nn_ne, nn_sub, nn_mul, nI_add, nn_neg, nm_eq, mn_eq, mm_eq, mn_lt, nm_lt, mn_le, nm_le, nn_sub0, nn_of, implies_true, nn_c, nn_in, nn_div, nat_rem, Nat.reduceMul, Nat.reduceSub, Nat.reduceDiv, Nat.reduceMod, pf_at, pf_ne, mk_s, mk_1, Classical.not_not, b2i_T, b2i_F, false_imp_iff, true_imp_iff, false_and, and_false, p_sw, Int.reduceAdd, Int.zero_add, Option.some.injEq, Value.int.injEq, Value.long.injEq, Value.ref.injEq, exists_eq_left', mk_I, mk_L, mk_wI, mk_wL, rf_s, rf_n, true_and, and_true, and_self, or_true, true_or, or_false, false_or, not_true_eq_false, not_false_eq_true, Option.toList_some, Option.toList_none, List.cons_append, List.nil_append, List.map_nil, List.map_cons, List.sum_nil, List.sum_cons, cat_i, cat_l, cat_r, cat_n, Nat.reduceLeDiff, Nat.reduceAdd, Nat.reduceEqDiff, Nat.zero_le, p_ent, p_u_ne, p_u_at, reduceIte, if_true, if_false, P_ce s, nI_toInt, Int.reduceEq, Int.reduceLT, Int.cast_ofNat_Int]
  · unfold nxK actW
    rw [if_neg (by omega), if_neg (by omega), if_neg (by omega)]
    unfold isT
    rw [t1]
    by_cases hc : v = -1 ∨ (0 ≤ v ∧ v < nI (kn K 52))
    · rw [if_pos (by
        simp only [Bool.or_eq_true, Bool.and_eq_true, decide_eq_true_eq]; exact hc)]
      have s := sp_22l (d := D' + 4) (Ls := Ls) (I := I) (L := L) (R := R) (X := X) v t2 r1' hc
      have bz : bn 0 999 := ⟨0, by omega, rfl⟩
      have wo : wsOk (hidW K v) := ⟨⟨by omega, by omega, Or.inr (Or.inl rfl)⟩, ⟨by omega, by omega, Or.inl rfl⟩, ⟨by omega, by omega, Or.inr (Or.inr (Or.inr bz))⟩, ⟨by omega, by omega, Or.inr (Or.inr (Or.inr bz))⟩, ⟨by omega, by omega, Or.inr (Or.inr (Or.inr bz))⟩, ⟨by omega, by omega, Or.inr (Or.inr (Or.inr bz))⟩, ⟨by omega, by omega, Or.inr (Or.inr (Or.inr bz))⟩, ⟨by omega, by omega, Or.inr (Or.inr (Or.inr bz))⟩, ⟨by omega, by omega, Or.inr (Or.inr (Or.inr bz))⟩, ⟨by omega, by omega, Or.inr (Or.inr (Or.inr bz))⟩, trivial⟩
      refine ⟨wC 93 I (hidW K v), fun a a1 a2 a3 => wC_fr _ _ wo (by omega), updL_hR _ wo h.1, ?_⟩
      show P_m _ _ _ _ (fun w h' => w = some (.int (nI (kn K 52))) ∧ h' = p_mk Ls (p_u (p_u (p_u (p_u (p_u (p_u (p_u (p_u (p_u (p_u I 93 7 v) 93 8 (nI (2 ^ kn K 52 - 1))) 98 0 0) 98 1 0) 98 2 0) 98 3 0) 98 4 0) 98 5 0) 98 6 0) 98 7 0) L R X)
      have t3 : (nI 3).toInt = 3 := by decide
      simp -implicitDefEqProofs only [P_m, ↓P_run_eq _ 18 _ (p_bk 18 0), bk_18_0, pb_18_0, ↓P_run_eq _ 18 _ (p_bk 18 4), bk_18_4, pb_18_4, pw_iload_n2, pw_sw, pw_aload_n0, pw_aloadN_n0, pw_iload_n3, pw_iv2, pw_ret0, kd_93, rf_93_1, rf_93_3, rf_93_4, rf_93_5, rf_93_6, rf_93_11, rf_93_12, rf_93_14, Classical.not_not, implies_true, mk_s, mk_1, pf_at, pf_ne, b2i_T, b2i_F, false_imp_iff, true_imp_iff, ne_10, ne_01, ne_m10, ne_0m1, ne_m11, ne_1m1, false_and, and_false, p_sw, Int.reduceAdd, Int.zero_add, Option.some.injEq, Value.int.injEq, Value.long.injEq, Value.ref.injEq, exists_eq_left',  mk_I, mk_L, mk_wI, mk_wL, rf_s, rf_n, true_and, and_true, and_self, or_true, true_or, or_false, false_or, not_true_eq_false, not_false_eq_true, Option.toList_some, Option.toList_none, List.cons_append, List.nil_append, List.map_nil, List.map_cons, List.sum_nil, List.sum_cons, cat_i, cat_l, cat_r, cat_n, Nat.reduceLeDiff, Nat.reduceAdd, Nat.reduceEqDiff, Nat.zero_le, p_ent, Int32.reduceToNatClampNeg, Int32.reduceLT, Int32.reduceLE, vin_l, p_u_ne, p_u_at, reduceIte, if_true, if_false, Int32.reduceToInt, Int.zero_le_ofNat, Int.cast_ofNat_Int, Int.reduceLT, Int.reduceLE, not_false_eq_true, P_ce s, t3, Int.reduceEq, Int.reduceLT, Int.cast_ofNat_Int]
    · rw [if_neg (by
        simp only [Bool.or_eq_true, Bool.and_eq_true, decide_eq_true_eq]; exact hc)]
      have s := sp_22ln (d := D' + 4) (Ls := Ls) (I := I) (L := L) (R := R) (X := X) v r1' hc
      refine ⟨I, fun a _ _ _ => rfl, h.1, ?_⟩
      simp -implicitDefEqProofs (disch := first | omega | decide) only [P_m, ↓P_run_eq _ 18 _ (p_bk 18 0), bk_18_0, pb_18_0, ↓P_run_eq _ 18 _ (p_bk 18 4), bk_18_4, pb_18_4, pw_iload_n2, pw_sw, pw_aload_n0, pw_aloadN_n0, pw_iload_n3, pw_iv2, pw_ret0, kd_93, rf_93_1, rf_93_3, rf_93_4, rf_93_5, rf_93_6, rf_93_11, rf_93_12, rf_93_14, n_0, n_1, nn_lt, nn_nlt, nn_le, nn_nle, nn_ne, nn_sub, nn_mul, nI_add, nn_neg, nm_eq, mn_eq, mm_eq, mn_lt, nm_lt, mn_le, nm_le, nn_sub0, nn_of, implies_true, nn_c, nn_in, nn_div, nat_rem, Nat.reduceMul, Nat.reduceSub, Nat.reduceDiv, Nat.reduceMod, pf_at, pf_ne, mk_s, mk_1, Classical.not_not, b2i_T, b2i_F, false_imp_iff, true_imp_iff, false_and, and_false, p_sw, Int.reduceAdd, Int.zero_add, Option.some.injEq, Value.int.injEq, Value.long.injEq, Value.ref.injEq, exists_eq_left', mk_I, mk_L, mk_wI, mk_wL, rf_s, rf_n, true_and, and_true, and_self, or_true, true_or, or_false, false_or, not_true_eq_false, not_false_eq_true, Option.toList_some, Option.toList_none, List.cons_append, List.nil_append, List.map_nil, List.map_cons, List.sum_nil, List.sum_cons, cat_i, cat_l, cat_r, cat_n, Nat.reduceLeDiff, Nat.reduceAdd, Nat.reduceEqDiff, Nat.zero_le, p_ent, p_u_ne, p_u_at, reduceIte, if_true, if_false, P_ce s, nI_toInt, Int.reduceEq, Int.reduceLT, Int.cast_ofNat_Int]
end ATh
