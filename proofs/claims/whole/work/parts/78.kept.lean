/-! ACTS KEPT, on the reference's side -/
theorem kpM_c {K M M' : Nat → Int32} {k : Nat} {kd : Int32} (hk : k ≤ 16) (h : ∀ i, i < 14 * k → M i = M' i) : ∀ i, i < 14 * min (k + 1) 16 → kpM K M k kd i = kpM K M' k kd i := by
  intro i hi
  unfold kpM
  rcases Nat.lt_or_ge k 16 with h16 | h16
  · rw [if_pos h16, if_pos h16]
    unfold upd
    split
    · rfl
    · unfold va_cpy
      split
      · rfl
      · exact h i (by omega)
  · have : k = 16 := by omega
    subst this
    rw [if_neg (by omega), if_neg (by omega)]
    unfold upd
    split
    · rfl
    · unfold va_cpy
      split
      · rfl
      · split
        · exact h _ (by omega)
        · exact h i (by omega)
section KE
variable {Ls : Nat} {I : Nat → Nat → Int32} {L : Nat → Nat → Int64} {R : Nat → Nat → Option Nat} {X : List pKd} {c : Option (List tCl)} {K M : Nat → Int32} {k : Nat}
/-- what the reference keeps of an act, then does -/
theorem keep_m {d kd : Nat} (hp : rfS I K k M) : ∃ J, frM I J ∧ J 125 = I 125 ∧ J 135 = I 135 ∧ (∀ q, ¬ q = 31 → J 123 q = I 123 q) ∧ J 123 31 = nI (min (k + 1) 16) ∧ (∀ i, i < 14 * min (k + 1) 16 → J 136 i = kpM K M k (nI kd) i) ∧ P_m (d + 1) 210 [.ref 123, .int (nI kd)] (p_mk Ls I L R X) (fun v h' => v = none ∧ h' = p_mk Ls J L R X) := by
  obtain ⟨p1, p2, p3, p4⟩ := hp
  refine ⟨_, ⟨fun a a1 a2 a3 a4 => ?_, fun q q1 q2 => ?_⟩, ?_, ?_, fun q hq => ?_, ?_, fun i hi => ?_, sp_210x (nI kd) p3 p2⟩
  · rw [p_u_ne a1, pf_ne a4]
  · rw [p_u_at, if_neg q2, pf_ne (by omega)]
  · rw [p_u_ne (by omega), pf_ne (by omega)]
  · rw [p_u_ne (by omega), pf_ne (by omega)]
  · rw [p_u_at, if_neg hq, pf_ne (by omega)]
  · rw [p_u_at, if_pos rfl]
  · rw [p_u_ne (by omega), pf_at, p1]
    exact kpM_c p3 p4 i hi
theorem rfS_0 {J : Nat → Nat → Int32} {kd : Nat} {v : Int32} (hp : rfS I K k M) (f : frE I J) (hw : (actW c K kd v).2 = []) : rfS J (nxK c K kd v) (nxN c K kd v k) (nxM c K kd v k M) := by
  obtain ⟨p1, p2, p3, p4⟩ := hp
  unfold nxK nxN nxM
  rw [hw, if_pos rfl, if_pos rfl]
  exact ⟨(f.1 125 (by omega) (by omega)).trans p1, (f.2 31 (by omega) (by omega) (by omega) (by omega)).trans p2, p3, fun i hi => by rw [f.1 136 (by omega) (by omega)]; exact p4 i hi⟩
theorem rfS_1 {J : Nat → Nat → Int32} {kd : Nat} {v : Int32} (hk : k ≤ 16) (hw : ¬ (actW c K kd v).2 = []) (j1 : J 125 = nxK c K kd v) (j2 : J 123 31 = nI (min (k + 1) 16)) (j3 : ∀ i, i < 14 * min (k + 1) 16 → J 136 i = kpM K M k (nI kd) i) : rfS J (nxK c K kd v) (nxN c K kd v k) (nxM c K kd v k M) := by
  unfold nxN nxM
  rw [if_neg hw, if_neg hw]
  exact ⟨j1, j2, by omega, j3⟩
theorem kept_0 {D : Nat} (v : Int32) (h : Cm I K c) (hp : rfS I K k M) (hD : 50 ≤ D) : ∃ J, frM I J ∧ rfS J (nxK c K 0 v) (nxN c K 0 v k) (nxM c K 0 v k M) ∧ P_m D 213 [.ref 123, .int v] (p_mk Ls I L R X) (fun w h' => w = some (.int (actW c K 0 v).1) ∧ h' = p_mk Ls J L R X) := by
  obtain ⟨D', rfl⟩ : ∃ D', D = D' + 2 := ⟨D - 2, by omega⟩
  have hV := h.2.1
  obtain ⟨m1, m2⟩ := kn_53 hV
  have s0 := sp_139 (d := D') (Ls := Ls) (I := I) (L := L) (R := R) (X := X) v
  rw [h.1, m1] at s0
  have aw : actW c K 0 v = (if isQ K v = true then (if canA c K v.toNatClampNeg = true then (askA c K v.toNatClampNeg, askW c K v.toNatClampNeg) else (-3, [])) else (-2, [])) := rfl
  rcases rg_n v (m := kn K 53) (by omega) with ⟨q, hq, rfl⟩ | ⟨n1, n2⟩
  · have hq8 : q < 8 := by omega
    obtain ⟨g1, g2⟩ := rg_t hq (by omega)
    rw [show b2i (0 ≤ nI q ∧ nI q ≤ nI (kn K 53) - 1) = nI 1 from b2i_t g2] at s0
    unfold isQ at aw
    rw [m1, if_pos (by rw [decide_eq_true g1.1, decide_eq_true g1.2]; rfl), nI_clamp (by omega)] at aw
    obtain ⟨J1, f1, s1⟩ := can_m (Ls := Ls) (L := L) (R := R) (X := X) (D := D' + 1) h hq8 (by omega)
    by_cases hc : canA c K q = true
    · rw [if_pos hc] at aw
      have hne : ¬ (actW c K 0 (nI q)).2 = [] := by rw [aw]; intro h; cases h
      rw [hc, bI_t] at s1
      have hp1 : rfS J1 K k M := ⟨(f1.1 125 (by omega) (by omega)).trans hp.1, (f1.2 31 (by omega) (by omega) (by omega) (by omega)).trans hp.2.1, hp.2.2.1, fun i hi => by rw [f1.1 136 (by omega) (by omega)]; exact hp.2.2.2 i hi⟩
      obtain ⟨J2, f2, j125, j135, j123, j31, j136, s2⟩ := keep_m (Ls := Ls) (L := L) (R := R) (X := X) (d := D') (kd := 0) hp1
      have h2 : Cm J2 K c := ⟨j125.trans hp1.1, h.2⟩
      have hc' := hc
      unfold canA at hc'
      simp only [Bool.and_eq_true, decide_eq_true_eq] at hc'
      obtain ⟨J3, f3, s3⟩ := asks_m (Ls := Ls) (L := L) (R := R) (X := X) (D := D' + 1) h2 hq8 hc'.1 hc'.2.2 (by omega)
      refine ⟨J3, ⟨fun a a1 a2 a3 a4 => ?_, fun q q1 q2 => ?_⟩, rfS_1 hp.2.2.1 hne ?_ ?_ (fun i hi => ?_), ?_⟩
      · rw [f3.1 a a1 a3, pf_ne a2, f2.1 a a1 a2 a3 a4, f1.1 a a1 a3]
      · rw [f3.2 q (by omega) (by omega) (by omega) (by omega), pf_ne (by omega), j123 q q2, f1.2 q (by omega) (by omega) (by omega) (by omega)]
      · rw [f3.1 125 (by omega) (by omega), pf_at]; unfold nxK; rw [aw]
      · rw [f3.2 31 (by omega) (by omega) (by omega) (by omega), pf_ne (by omega), j31]
      · rw [f3.1 136 (by omega) (by omega), pf_ne (by omega), j136 i hi]
      · rw [aw]
        simp -implicitDefEqProofs (disch := first | omega | decide) only [P_m, ↓P_run_eq _ 213 _ (p_bk 213 0), bk_213_0, pb_213_0, ↓P_run_eq _ 213 _ (p_bk 213 1), bk_213_1, pb_213_1, ↓P_run_eq _ 213 _ (p_bk 213 2), bk_213_2, pb_213_2, pw_aload_n0, pw_aloadN_n0, pw_iload_n1, pw_iv2, pw_zne, pw_bipush, bl_m2, pw_ret0, bl_m3, pw_iconst, il_0, kd_123, rf_123_1, rf_123_2, rf_123_3, rf_123_4, rf_123_5, rf_123_7, rf_123_11, rf_123_12, rf_123_15, rf_123_16, rf_123_17, rf_123_26, rf_123_29, rf_123_30, rf_123_32, rf_123_34, rf_123_35, rf_123_45, n_0, n_1, nn_lt, nn_nlt, nn_le, nn_nle, nn_ne, nn_sub, nn_mul, nI_add, nn_neg, nm_eq, mn_eq, mm_eq, mn_lt, nm_lt, mn_le, nm_le, nn_sub0, nn_of, implies_true, nn_c, nn_in, nn_div, nat_rem, Nat.reduceMul, Nat.reduceSub, Nat.reduceDiv, Nat.reduceMod, pf_at, pf_ne, mk_s, mk_1, Classical.not_not, b2i_T, b2i_F, false_imp_iff, true_imp_iff, false_and, and_false, p_sw, Int.reduceAdd, Int.zero_add, Option.some.injEq, Value.int.injEq, Value.long.injEq, Value.ref.injEq, exists_eq_left', mk_I, mk_L, mk_wI, mk_wL, rf_s, rf_n, true_and, and_true, and_self, or_true, true_or, or_false, false_or, not_true_eq_false, not_false_eq_true, Option.toList_some, Option.toList_none, List.cons_append, List.nil_append, List.map_nil, List.map_cons, List.sum_nil, List.sum_cons, cat_i, cat_l, cat_r, cat_n, Nat.reduceLeDiff, Nat.reduceAdd, Nat.reduceEqDiff, Nat.zero_le, p_ent, p_u_ne, p_u_at, reduceIte, if_true, if_false, P_ce s0, P_ce s1, P_ce s2, P_ce s3]
    · rw [if_neg hc] at aw
      have hc' : canA c K q = false := by cases hh : canA c K q with
        | true => exact absurd hh hc
        | false => rfl
      rw [hc', bI_f] at s1
      refine ⟨J1, frM_E f1, rfS_0 hp f1 (by rw [aw]), ?_⟩
      rw [aw]
      simp -implicitDefEqProofs (disch := first | omega | decide) only [P_m, ↓P_run_eq _ 213 _ (p_bk 213 0), bk_213_0, pb_213_0, ↓P_run_eq _ 213 _ (p_bk 213 1), bk_213_1, pb_213_1, pw_aload_n0, pw_aloadN_n0, pw_iload_n1, pw_iv2, pw_zne, pw_bipush, bl_m2, pw_ret0, bl_m3, kd_123, rf_123_1, rf_123_2, rf_123_3, rf_123_4, rf_123_5, rf_123_7, rf_123_11, rf_123_12, rf_123_15, rf_123_16, rf_123_17, rf_123_26, rf_123_29, rf_123_30, rf_123_32, rf_123_34, rf_123_35, rf_123_45, n_0, n_1, nn_lt, nn_nlt, nn_le, nn_nle, nn_ne, nn_sub, nn_mul, nI_add, nn_neg, nm_eq, mn_eq, mm_eq, mn_lt, nm_lt, mn_le, nm_le, nn_sub0, nn_of, implies_true, nn_c, nn_in, nn_div, nat_rem, Nat.reduceMul, Nat.reduceSub, Nat.reduceDiv, Nat.reduceMod, pf_at, pf_ne, mk_s, mk_1, Classical.not_not, b2i_T, b2i_F, false_imp_iff, true_imp_iff, false_and, and_false, p_sw, Int.reduceAdd, Int.zero_add, Option.some.injEq, Value.int.injEq, Value.long.injEq, Value.ref.injEq, exists_eq_left', mk_I, mk_L, mk_wI, mk_wL, rf_s, rf_n, true_and, and_true, and_self, or_true, true_or, or_false, false_or, not_true_eq_false, not_false_eq_true, Option.toList_some, Option.toList_none, List.cons_append, List.nil_append, List.map_nil, List.map_cons, List.sum_nil, List.sum_cons, cat_i, cat_l, cat_r, cat_n, Nat.reduceLeDiff, Nat.reduceAdd, Nat.reduceEqDiff, Nat.zero_le, p_ent, p_u_ne, p_u_at, reduceIte, if_true, if_false, P_ce s0, P_ce s1, n_3]
  · unfold isQ at aw
    rw [m1, if_neg (by
      intro hh
      simp only [Bool.and_eq_true, decide_eq_true_eq] at hh
      exact n1 hh)] at aw
    rw [show b2i (0 ≤ v ∧ v ≤ nI (kn K 53) - 1) = nI 0 from b2i_f n2] at s0
    refine ⟨I, frM_rf, rfS_0 hp frE_rf (by rw [aw]), ?_⟩
    rw [aw]
    simp -implicitDefEqProofs (disch := first | omega | decide) only [P_m, ↓P_run_eq _ 213 _ (p_bk 213 0), bk_213_0, pb_213_0, pw_aload_n0, pw_aloadN_n0, pw_iload_n1, pw_iv2, pw_zne, pw_bipush, bl_m2, pw_ret0, kd_123, rf_123_1, rf_123_2, rf_123_3, rf_123_4, rf_123_5, rf_123_7, rf_123_11, rf_123_12, rf_123_15, rf_123_16, rf_123_17, rf_123_26, rf_123_29, rf_123_30, rf_123_32, rf_123_34, rf_123_35, rf_123_45, n_0, n_1, nn_lt, nn_nlt, nn_le, nn_nle, nn_ne, nn_sub, nn_mul, nI_add, nn_neg, nm_eq, mn_eq, mm_eq, mn_lt, nm_lt, mn_le, nm_le, nn_sub0, nn_of, implies_true, nn_c, nn_in, nn_div, nat_rem, Nat.reduceMul, Nat.reduceSub, Nat.reduceDiv, Nat.reduceMod, pf_at, pf_ne, mk_s, mk_1, Classical.not_not, b2i_T, b2i_F, false_imp_iff, true_imp_iff, false_and, and_false, p_sw, Int.reduceAdd, Int.zero_add, Option.some.injEq, Value.int.injEq, Value.long.injEq, Value.ref.injEq, exists_eq_left', mk_I, mk_L, mk_wI, mk_wL, rf_s, rf_n, true_and, and_true, and_self, or_true, true_or, or_false, false_or, not_true_eq_false, not_false_eq_true, Option.toList_some, Option.toList_none, List.cons_append, List.nil_append, List.map_nil, List.map_cons, List.sum_nil, List.sum_cons, cat_i, cat_l, cat_r, cat_n, Nat.reduceLeDiff, Nat.reduceAdd, Nat.reduceEqDiff, Nat.zero_le, p_ent, p_u_ne, p_u_at, reduceIte, if_true, if_false, P_ce s0, n_2]
theorem kept_1 {d : Nat} (v : Int32) (h : Cm I K c) (hp : rfS I K k M) : ∃ J, frM I J ∧ rfS J (nxK c K 1 v) (nxN c K 1 v k) (nxM c K 1 v k M) ∧ P_m (d + 2) 214 [.ref 123, .int v] (p_mk Ls I L R X) (fun w h' => w = some (.int (actW c K 1 v).1) ∧ h' = p_mk Ls J L R X) := by
  have hV := h.2.1
  have g1 : K 1 = nI (kn K 1) ∧ kn K 1 ≤ 99 := kn_e hV (by omega) (by omega) (by omega)
  have aw : actW c K 1 v = (if 1 ≤ v ∧ v ≤ 9 then (nI (min (kn K 1 + v.toNatClampNeg) 99), [(1, nI (min (kn K 1 + v.toNatClampNeg) 99))]) else (-1, [])) := rfl
  by_cases hc : 1 ≤ v ∧ v ≤ 9
  · obtain ⟨x, hx, rfl⟩ := nI_of2 (x := v) (M := 9) (n := 9) rfl (fun c9 => absurd hc.1 (Int32.not_le.mpr (Int32.lt_trans c9 (by decide)))) hc.2
    rw [if_pos hc, nI_clamp (by omega)] at aw
    have hne : ¬ (actW c K 1 (nI x)).2 = [] := by rw [aw]; intro h; cases h
    obtain ⟨J, f, j125, j135, j123, j31, j136, s⟩ := keep_m (Ls := Ls) (L := L) (R := R) (X := X) (d := d) (kd := 1) hp
    have b1 : b2i (nI 1 ≤ nI x ∧ nI x ≤ nI 9) = nI 1 := b2i_t hc
    have a1 : J 125 1 = nI (kn K 1) := by rw [j125, hp.1]; exact g1.1
    have mn : (if nI 99 < nI (kn K 1 + x) then nI 99 else nI (kn K 1 + x)) = nI (min (kn K 1 + x) 99) := by
      rcases Nat.lt_or_ge 99 (kn K 1 + x) with h | h
      · rw [if_pos (nI_lt h (by omega)), show min (kn K 1 + x) 99 = 99 by omega]
      · rw [if_neg (nI_nlt h (by omega)), show min (kn K 1 + x) 99 = kn K 1 + x by omega]
    refine ⟨p_u J 125 1 (nI (min (kn K 1 + x) 99)), ⟨fun a a1 a2 a3 a4 => ?_, fun q q1 q2 => ?_⟩, rfS_1 hp.2.2.1 hne ?_ ?_ (fun i hi => ?_), ?_⟩
    · rw [p_u_ne a2, f.1 a a1 a2 a3 a4]
    · rw [p_u_ne (by omega), j123 q q2]
    · rw [p_u_self, j125, hp.1]; unfold nxK; rw [aw]; rfl
    · rw [p_u_ne (by omega), j31]
    · rw [p_u_ne (by omega), j136 i hi]
    · rw [aw]
      have b1' : b2i (nI 1 ≤ nI x) = nI 1 := b2i_t hc.1
      simp -implicitDefEqProofs (disch := first | omega | decide) only [P_m, ↓P_run_eq _ 214 _ (p_bk 214 0), bk_214_0, pb_214_0, ↓P_run_eq _ 214 _ (p_bk 214 1), bk_214_1, pb_214_1, pw_iload_n1, pw_iconst, il_1, pw_bipush, bl_9, pw_is3, pw_zne, il_m1, pw_ret0, pw_aload_n0, pw_aloadN_n0, pw_iv2, pw_getR, bl_99, pw_iald, pw_iadd, pw_is2, pw_iast, kd_123, rf_123_1, rf_123_2, rf_123_3, rf_123_4, rf_123_5, rf_123_7, rf_123_11, rf_123_12, rf_123_15, rf_123_16, rf_123_17, rf_123_26, rf_123_29, rf_123_30, rf_123_32, rf_123_34, rf_123_35, rf_123_45, kd_125, n_0, n_1, n_9, n_99, nn_lt, nn_nlt, nn_le, nn_nle, nn_ne, nn_sub, nn_mul, nI_add, nn_neg, nm_eq, mn_eq, mm_eq, mn_lt, nm_lt, mn_le, nm_le, nn_sub0, nn_of, implies_true, nn_c, nn_in, nn_div, nat_rem, Nat.reduceMul, Nat.reduceSub, Nat.reduceDiv, Nat.reduceMod, pf_at, pf_ne, mk_s, mk_1, Classical.not_not, b2i_T, b2i_F, false_imp_iff, true_imp_iff, false_and, and_false, p_sw, Int.reduceAdd, Int.zero_add, Option.some.injEq, Value.int.injEq, Value.long.injEq, Value.ref.injEq, exists_eq_left', mk_I, mk_L, mk_wI, mk_wL, rf_s, rf_n, true_and, and_true, and_self, or_true, true_or, or_false, false_or, not_true_eq_false, not_false_eq_true, Option.toList_some, Option.toList_none, List.cons_append, List.nil_append, List.map_nil, List.map_cons, List.sum_nil, List.sum_cons, cat_i, cat_l, cat_r, cat_n, Nat.reduceLeDiff, Nat.reduceAdd, Nat.reduceEqDiff, Nat.zero_le, p_ent, p_u_ne, p_u_at, reduceIte, if_true, if_false, P_ce (sp_125 _ _ _), b1, b1', P_ce s, a1, P_ce (sp_126 _ _), mn]
  · rw [if_neg hc] at aw
    have b1 : b2i (nI 1 ≤ v ∧ v ≤ nI 9) = nI 0 := b2i_f hc
    refine ⟨I, frM_rf, rfS_0 hp frE_rf (by rw [aw]), ?_⟩
    rw [aw]
    simp -implicitDefEqProofs (disch := first | omega | decide) only [P_m, ↓P_run_eq _ 214 _ (p_bk 214 0), bk_214_0, pb_214_0, pw_iload_n1, pw_iconst, il_1, pw_bipush, bl_9, pw_is3, pw_zne, il_m1, pw_ret0, kd_123, rf_123_1, rf_123_2, rf_123_3, rf_123_4, rf_123_5, rf_123_7, rf_123_11, rf_123_12, rf_123_15, rf_123_16, rf_123_17, rf_123_26, rf_123_29, rf_123_30, rf_123_32, rf_123_34, rf_123_35, rf_123_45, n_0, n_1, n_9, nn_lt, nn_nlt, nn_le, nn_nle, nn_ne, nn_sub, nn_mul, nI_add, nn_neg, nm_eq, mn_eq, mm_eq, mn_lt, nm_lt, mn_le, nm_le, nn_sub0, nn_of, implies_true, nn_c, nn_in, nn_div, nat_rem, Nat.reduceMul, Nat.reduceSub, Nat.reduceDiv, Nat.reduceMod, pf_at, pf_ne, mk_s, mk_1, Classical.not_not, b2i_T, b2i_F, false_imp_iff, true_imp_iff, false_and, and_false, p_sw, Int.reduceAdd, Int.zero_add, Option.some.injEq, Value.int.injEq, Value.long.injEq, Value.ref.injEq, exists_eq_left', mk_I, mk_L, mk_wI, mk_wL, rf_s, rf_n, true_and, and_true, and_self, or_true, true_or, or_false, false_or, not_true_eq_false, not_false_eq_true, Option.toList_some, Option.toList_none, List.cons_append, List.nil_append, List.map_nil, List.map_cons, List.sum_nil, List.sum_cons, cat_i, cat_l, cat_r, cat_n, Nat.reduceLeDiff, Nat.reduceAdd, Nat.reduceEqDiff, Nat.zero_le, p_ent, p_u_ne, p_u_at, reduceIte, if_true, if_false, P_ce (sp_125 _ _ _), b1]
theorem day_m {d : Nat} (h : Cm I K c) : P_m (d + 1) 207 [.ref 123] (p_mk Ls I L R X) (fun w h' => w = none ∧ h' = p_mk Ls (p_fn I 125 (updL K [(3, nI (kn K 3 + 1)), (1, nI (kn K 1 - 1))])) L R X) := by
  have hV := h.2.1
  have g1 : K 1 = nI (kn K 1) ∧ kn K 1 ≤ 99 := kn_e hV (by omega) (by omega) (by omega)
  have g3 : K 3 = nI (kn K 3) ∧ kn K 3 ≤ 999 := kn_e hV (by omega) (by omega) (by omega)
  have a1 : I 125 1 = nI (kn K 1) := by rw [h.1]; exact g1.1
  have a3 : I 125 3 = nI (kn K 3) := by rw [h.1]; exact g3.1
  have e : ∀ w, p_u (p_u I 125 3 (nI (kn K 3 + 1))) 125 1 w = p_fn I 125 (upd (upd K 3 (nI (kn K 3 + 1))) 1 w) := fun w => by
    simp only [pu_fn, pf_pf, pf_at, h.1]
  show P_m _ _ _ _ (fun w h' => w = none ∧ h' = p_mk Ls (p_fn I 125 (upd (upd K 3 (nI (kn K 3 + 1))) 1 (nI (kn K 1 - 1)))) L R X)
  rcases Nat.eq_zero_or_pos (kn K 1) with h0 | h0
  · rw [h0] at a1 ⊢
    have m0 : (if mI 1 < nI 0 then nI 0 else mI 1) = nI 0 := by decide
    simp -implicitDefEqProofs (disch := first | omega | decide) only [P_m, ↓P_run_eq _ 207 _ (p_bk 207 0), bk_207_0, pb_207_0, pw_aload_n0, pw_aloadN_n0, pw_getR, pw_iconst, il_3, pw_dup2r, pw_iald, il_1, pw_iadd, pw_iast, il_0, pw_isub, pw_is2, pw_vret, kd_123, rf_123_1, rf_123_2, rf_123_3, rf_123_4, rf_123_5, rf_123_7, rf_123_11, rf_123_12, rf_123_15, rf_123_16, rf_123_17, rf_123_26, rf_123_29, rf_123_30, rf_123_32, rf_123_34, rf_123_35, rf_123_45, kd_125, n_0, n_1, n_3, nn_lt, nn_nlt, nn_le, nn_nle, nn_ne, nn_sub, nn_mul, nI_add, nn_neg, nm_eq, mn_eq, mm_eq, mn_lt, nm_lt, mn_le, nm_le, nn_sub0, nn_of, implies_true, nn_c, nn_in, nn_div, nat_rem, Nat.reduceMul, Nat.reduceSub, Nat.reduceDiv, Nat.reduceMod, pf_at, pf_ne, mk_s, mk_1, Classical.not_not, b2i_T, b2i_F, false_imp_iff, true_imp_iff, false_and, and_false, p_sw, Int.reduceAdd, Int.zero_add, Option.some.injEq, Value.int.injEq, Value.long.injEq, Value.ref.injEq, exists_eq_left', mk_I, mk_L, mk_wI, mk_wL, rf_s, rf_n, true_and, and_true, and_self, or_true, true_or, or_false, false_or, not_true_eq_false, not_false_eq_true, Option.toList_some, Option.toList_none, List.cons_append, List.nil_append, List.map_nil, List.map_cons, List.sum_nil, List.sum_cons, cat_i, cat_l, cat_r, cat_n, Nat.reduceLeDiff, Nat.reduceAdd, Nat.reduceEqDiff, Nat.zero_le, p_ent, p_u_ne, p_u_at, reduceIte, if_true, if_false, a1, a3, P_ce (sp_127 _ _), m0, e]
  · simp -implicitDefEqProofs (disch := first | omega | decide) only [P_m, ↓P_run_eq _ 207 _ (p_bk 207 0), bk_207_0, pb_207_0, pw_aload_n0, pw_aloadN_n0, pw_getR, pw_iconst, il_3, pw_dup2r, pw_iald, il_1, pw_iadd, pw_iast, il_0, pw_isub, pw_is2, pw_vret, kd_123, rf_123_1, rf_123_2, rf_123_3, rf_123_4, rf_123_5, rf_123_7, rf_123_11, rf_123_12, rf_123_15, rf_123_16, rf_123_17, rf_123_26, rf_123_29, rf_123_30, rf_123_32, rf_123_34, rf_123_35, rf_123_45, kd_125, n_0, n_1, n_3, nn_lt, nn_nlt, nn_le, nn_nle, nn_ne, nn_sub, nn_mul, nI_add, nn_neg, nm_eq, mn_eq, mm_eq, mn_lt, nm_lt, mn_le, nm_le, nn_sub0, nn_of, implies_true, nn_c, nn_in, nn_div, nat_rem, Nat.reduceMul, Nat.reduceSub, Nat.reduceDiv, Nat.reduceMod, pf_at, pf_ne, mk_s, mk_1, Classical.not_not, b2i_T, b2i_F, false_imp_iff, true_imp_iff, false_and, and_false, p_sw, Int.reduceAdd, Int.zero_add, Option.some.injEq, Value.int.injEq, Value.long.injEq, Value.ref.injEq, exists_eq_left', mk_I, mk_L, mk_wI, mk_wL, rf_s, rf_n, true_and, and_true, and_self, or_true, true_or, or_false, false_or, not_true_eq_false, not_false_eq_true, Option.toList_some, Option.toList_none, List.cons_append, List.nil_append, List.map_nil, List.map_cons, List.sum_nil, List.sum_cons, cat_i, cat_l, cat_r, cat_n, Nat.reduceLeDiff, Nat.reduceAdd, Nat.reduceEqDiff, Nat.zero_le, p_ent, p_u_ne, p_u_at, reduceIte, if_true, if_false, a1, a3, P_ce (sp_127 _ _), e]
theorem kept_2 {d : Nat} (v : Int32) (h : Cm I K c) (hp : rfS I K k M) : ∃ J, frM I J ∧ rfS J (nxK c K 2 v) (nxN c K 2 v k) (nxM c K 2 v k M) ∧ P_m (d + 2) 215 [.ref 123] (p_mk Ls I L R X) (fun w h' => w = some (.int (actW c K 2 v).1) ∧ h' = p_mk Ls J L R X) := by
  have hV := h.2.1
  have g3 : K 3 = nI (kn K 3) ∧ kn K 3 ≤ 999 := kn_e hV (by omega) (by omega) (by omega)
  have aw : actW c K 2 v = (if kn K 3 < 999 then (nI (kn K 3 + 1), [(3, nI (kn K 3 + 1)), (1, nI (kn K 1 - 1))]) else (-3, [])) := rfl
  have a3 : I 125 3 = nI (kn K 3) := by rw [h.1]; exact g3.1
  by_cases hc : kn K 3 < 999
  · rw [if_pos hc] at aw
    have hne : ¬ (actW c K 2 v).2 = [] := by rw [aw]; intro h; cases h
    obtain ⟨J, f, j125, j135, j123, j31, j136, s⟩ := keep_m (Ls := Ls) (L := L) (R := R) (X := X) (d := d) (kd := 2) hp
    have s2 := day_m (Ls := Ls) (L := L) (R := R) (X := X) (d := d) (I := J) (K := K) (c := c) ⟨j125.trans hp.1, h.2⟩
    have e3 : updL K [(3, nI (kn K 3 + 1)), (1, nI (kn K 1 - 1))] 3 = nI (kn K 3 + 1) := rfl
    refine ⟨p_fn J 125 (updL K [(3, nI (kn K 3 + 1)), (1, nI (kn K 1 - 1))]), ⟨fun a a1 a2 a3 a4 => ?_, fun q q1 q2 => ?_⟩, rfS_1 hp.2.2.1 hne ?_ ?_ (fun i hi => ?_), ?_⟩
    · rw [pf_ne a2, f.1 a a1 a2 a3 a4]
    · rw [pf_ne (by omega), j123 q q2]
    · rw [pf_at]; unfold nxK; rw [aw]
    · rw [pf_ne (by omega), j31]
    · rw [pf_ne (by omega), j136 i hi]
    · rw [aw]
      simp -implicitDefEqProofs (disch := first | omega | decide) only [P_m, ↓P_run_eq _ 215 _ (p_bk 215 0), bk_215_0, pb_215_0, ↓P_run_eq _ 215 _ (p_bk 215 1), bk_215_1, pb_215_1, pw_aload_n0, pw_aloadN_n0, pw_getR, pw_iconst, il_3, pw_iald, pw_sipush, sl_999, pw_cne, pw_bipush, bl_m3, pw_ret0, il_2, pw_iv2, pw_iv1, kd_123, rf_123_1, rf_123_2, rf_123_3, rf_123_4, rf_123_5, rf_123_7, rf_123_11, rf_123_12, rf_123_15, rf_123_16, rf_123_17, rf_123_26, rf_123_29, rf_123_30, rf_123_32, rf_123_34, rf_123_35, rf_123_45, kd_125, n_0, n_1, n_2, n_3, n_999, nn_lt, nn_nlt, nn_le, nn_nle, nn_ne, nn_sub, nn_mul, nI_add, nn_neg, nm_eq, mn_eq, mm_eq, mn_lt, nm_lt, mn_le, nm_le, nn_sub0, nn_of, implies_true, nn_c, nn_in, nn_div, nat_rem, Nat.reduceMul, Nat.reduceSub, Nat.reduceDiv, Nat.reduceMod, pf_at, pf_ne, mk_s, mk_1, Classical.not_not, b2i_T, b2i_F, false_imp_iff, true_imp_iff, false_and, and_false, p_sw, Int.reduceAdd, Int.zero_add, Option.some.injEq, Value.int.injEq, Value.long.injEq, Value.ref.injEq, exists_eq_left', mk_I, mk_L, mk_wI, mk_wL, rf_s, rf_n, true_and, and_true, and_self, or_true, true_or, or_false, false_or, not_true_eq_false, not_false_eq_true, Option.toList_some, Option.toList_none, List.cons_append, List.nil_append, List.map_nil, List.map_cons, List.sum_nil, List.sum_cons, cat_i, cat_l, cat_r, cat_n, Nat.reduceLeDiff, Nat.reduceAdd, Nat.reduceEqDiff, Nat.zero_le, p_ent, p_u_ne, p_u_at, reduceIte, if_true, if_false, a3, P_ce s, P_ce s2, e3]
  · rw [if_neg hc] at aw
    have : kn K 3 = 999 := by omega
    rw [this] at a3
    refine ⟨I, frM_rf, rfS_0 hp frE_rf (by rw [aw]), ?_⟩
    rw [aw]
    simp -implicitDefEqProofs (disch := first | omega | decide) only [P_m, ↓P_run_eq _ 215 _ (p_bk 215 0), bk_215_0, pb_215_0, pw_aload_n0, pw_aloadN_n0, pw_getR, pw_iconst, il_3, pw_iald, pw_sipush, sl_999, pw_cne, pw_bipush, bl_m3, pw_ret0, kd_123, rf_123_1, rf_123_2, rf_123_3, rf_123_4, rf_123_5, rf_123_7, rf_123_11, rf_123_12, rf_123_15, rf_123_16, rf_123_17, rf_123_26, rf_123_29, rf_123_30, rf_123_32, rf_123_34, rf_123_35, rf_123_45, kd_125, n_0, n_1, n_3, n_999, nn_lt, nn_nlt, nn_le, nn_nle, nn_ne, nn_sub, nn_mul, nI_add, nn_neg, nm_eq, mn_eq, mm_eq, mn_lt, nm_lt, mn_le, nm_le, nn_sub0, nn_of, implies_true, nn_c, nn_in, nn_div, nat_rem, Nat.reduceMul, Nat.reduceSub, Nat.reduceDiv, Nat.reduceMod, pf_at, pf_ne, mk_s, mk_1, Classical.not_not, b2i_T, b2i_F, false_imp_iff, true_imp_iff, false_and, and_false, p_sw, Int.reduceAdd, Int.zero_add, Option.some.injEq, Value.int.injEq, Value.long.injEq, Value.ref.injEq, exists_eq_left', mk_I, mk_L, mk_wI, mk_wL, rf_s, rf_n, true_and, and_true, and_self, or_true, true_or, or_false, false_or, not_true_eq_false, not_false_eq_true, Option.toList_some, Option.toList_none, List.cons_append, List.nil_append, List.map_nil, List.map_cons, List.sum_nil, List.sum_cons, cat_i, cat_l, cat_r, cat_n, Nat.reduceLeDiff, Nat.reduceAdd, Nat.reduceEqDiff, Nat.zero_le, p_ent, p_u_ne, p_u_at, reduceIte, if_true, if_false, a3, n_3]
theorem hides_m {d : Nat} (v : Int32) (h : Cm I K c) : P_m (d + 1) 208 [.ref 123, .int v] (p_mk Ls I L R X) (fun w h' => w = some (.int (nI (kn K 52))) ∧ h' = p_mk Ls (p_fn I 125 (updL K (hidW K v))) L R X) := by
  have hV := h.2.1
  obtain ⟨t1, t2⟩ := kn_52 hV
  have s := sp_208 (d := d) (Ls := Ls) (I := I) (L := L) (R := R) (X := X) v t2 (by rw [h.1]; exact t1)
  simp only [pu_fn, pf_pf, pf_at, h.1] at s
  exact s
theorem kept_3 {d : Nat} (v : Int32) (h : Cm I K c) (hp : rfS I K k M) : ∃ J, frM I J ∧ rfS J (nxK c K 3 v) (nxN c K 3 v k) (nxM c K 3 v k M) ∧ P_m (d + 2) 216 [.ref 123, .int v] (p_mk Ls I L R X) (fun w h' => w = some (.int (actW c K 3 v).1) ∧ h' = p_mk Ls J L R X) := by
  have hV := h.2.1
  obtain ⟨t1, t2⟩ := kn_52 hV
  have aw : actW c K 3 v = (if isT K v = true then (nI (kn K 52), hidW K v) else (-2, [])) := rfl
  have s0 := sp_138n (d := d) (Ls := Ls) (I := I) (L := L) (R := R) (X := X) (t := v) (n := kn K 52) (by rw [h.1]; exact t1)
  unfold isT at aw
  rw [t1] at aw
  by_cases hc : v = -1 ∨ (0 ≤ v ∧ v < nI (kn K 52))
  · rw [if_pos (by
      simp only [Bool.or_eq_true, Bool.and_eq_true, decide_eq_true_eq]; exact hc)] at aw
    have hne : ¬ (actW c K 3 v).2 = [] := by rw [aw]; intro h; cases h
    obtain ⟨J, f, j125, j135, j123, j31, j136, s⟩ := keep_m (Ls := Ls) (L := L) (R := R) (X := X) (d := d) (kd := 3) hp
    have s2 := hides_m (Ls := Ls) (L := L) (R := R) (X := X) (d := d) (I := J) (K := K) (c := c) v ⟨j125.trans hp.1, h.2⟩
    refine ⟨p_fn J 125 (updL K (hidW K v)), ⟨fun a a1 a2 a3 a4 => ?_, fun q q1 q2 => ?_⟩, rfS_1 hp.2.2.1 hne ?_ ?_ (fun i hi => ?_), ?_⟩
    · rw [pf_ne a2, f.1 a a1 a2 a3 a4]
    · rw [pf_ne (by omega), j123 q q2]
    · rw [pf_at]; unfold nxK; rw [aw]
    · rw [pf_ne (by omega), j31]
    · rw [pf_ne (by omega), j136 i hi]
    · rw [aw]
      by_cases e1 : v = mI 1
      · subst e1
        simp -implicitDefEqProofs (disch := first | omega | decide) only [P_m, ↓P_run_eq _ 216 _ (p_bk 216 0), bk_216_0, pb_216_0, ↓P_run_eq _ 216 _ (p_bk 216 1), bk_216_1, pb_216_1, pw_iload_n1, pw_iconst, il_m1, pw_ceq, pw_aload_n0, pw_aloadN_n0, pw_iv2, pw_zne, pw_bipush, bl_m2, pw_ret0, il_3, kd_123, rf_123_1, rf_123_2, rf_123_3, rf_123_4, rf_123_5, rf_123_7, rf_123_11, rf_123_12, rf_123_15, rf_123_16, rf_123_17, rf_123_26, rf_123_29, rf_123_30, rf_123_32, rf_123_34, rf_123_35, rf_123_45, n_0, n_1, n_3, nn_lt, nn_nlt, nn_le, nn_nle, nn_ne, nn_sub, nn_mul, nI_add, nn_neg, nm_eq, mn_eq, mm_eq, mn_lt, nm_lt, mn_le, nm_le, nn_sub0, nn_of, implies_true, nn_c, nn_in, nn_div, nat_rem, Nat.reduceMul, Nat.reduceSub, Nat.reduceDiv, Nat.reduceMod, pf_at, pf_ne, mk_s, mk_1, Classical.not_not, b2i_T, b2i_F, false_imp_iff, true_imp_iff, false_and, and_false, p_sw, Int.reduceAdd, Int.zero_add, Option.some.injEq, Value.int.injEq, Value.long.injEq, Value.ref.injEq, exists_eq_left', mk_I, mk_L, mk_wI, mk_wL, rf_s, rf_n, true_and, and_true, and_self, or_true, true_or, or_false, false_or, not_true_eq_false, not_false_eq_true, Option.toList_some, Option.toList_none, List.cons_append, List.nil_append, List.map_nil, List.map_cons, List.sum_nil, List.sum_cons, cat_i, cat_l, cat_r, cat_n, Nat.reduceLeDiff, Nat.reduceAdd, Nat.reduceEqDiff, Nat.zero_le, p_ent, p_u_ne, p_u_at, reduceIte, if_true, if_false, P_ce s, P_ce s2]
      · have hc2 := hc.resolve_left e1
        rw [show b2i (0 ≤ v ∧ v ≤ nI (kn K 52) - 1) = nI 1 from b2i_t ((lt_pred (by omega)).mp hc2)] at s0
        simp -implicitDefEqProofs (disch := first | omega | decide) only [P_m, ↓P_run_eq _ 216 _ (p_bk 216 0), bk_216_0, pb_216_0, ↓P_run_eq _ 216 _ (p_bk 216 1), bk_216_1, pb_216_1, pw_iload_n1, pw_iconst, il_m1, pw_ceq, pw_aload_n0, pw_aloadN_n0, pw_iv2, pw_zne, pw_bipush, bl_m2, pw_ret0, il_3, kd_123, rf_123_1, rf_123_2, rf_123_3, rf_123_4, rf_123_5, rf_123_7, rf_123_11, rf_123_12, rf_123_15, rf_123_16, rf_123_17, rf_123_26, rf_123_29, rf_123_30, rf_123_32, rf_123_34, rf_123_35, rf_123_45, n_0, n_1, n_3, nn_lt, nn_nlt, nn_le, nn_nle, nn_ne, nn_sub, nn_mul, nI_add, nn_neg, nm_eq, mn_eq, mm_eq, mn_lt, nm_lt, mn_le, nm_le, nn_sub0, nn_of, implies_true, nn_c, nn_in, nn_div, nat_rem, Nat.reduceMul, Nat.reduceSub, Nat.reduceDiv, Nat.reduceMod, pf_at, pf_ne, mk_s, mk_1, Classical.not_not, b2i_T, b2i_F, false_imp_iff, true_imp_iff, false_and, and_false, p_sw, Int.reduceAdd, Int.zero_add, Option.some.injEq, Value.int.injEq, Value.long.injEq, Value.ref.injEq, exists_eq_left', mk_I, mk_L, mk_wI, mk_wL, rf_s, rf_n, true_and, and_true, and_self, or_true, true_or, or_false, false_or, not_true_eq_false, not_false_eq_true, Option.toList_some, Option.toList_none, List.cons_append, List.nil_append, List.map_nil, List.map_cons, List.sum_nil, List.sum_cons, cat_i, cat_l, cat_r, cat_n, Nat.reduceLeDiff, Nat.reduceAdd, Nat.reduceEqDiff, Nat.zero_le, p_ent, p_u_ne, p_u_at, reduceIte, if_true, if_false, e1, P_ce s0, P_ce s, P_ce s2]
  · rw [if_neg (by
      simp only [Bool.or_eq_true, Bool.and_eq_true, decide_eq_true_eq]; exact hc)] at aw
    have e1 : ¬ v = mI 1 := fun h => hc (Or.inl h)
    rw [show b2i (0 ≤ v ∧ v ≤ nI (kn K 52) - 1) = nI 0 from b2i_f (fun h => hc (Or.inr ((lt_pred (by omega)).mpr h)))] at s0
    refine ⟨I, frM_rf, rfS_0 hp frE_rf (by rw [aw]), ?_⟩
    rw [aw]
    simp -implicitDefEqProofs (disch := first | omega | decide) only [P_m, ↓P_run_eq _ 216 _ (p_bk 216 0), bk_216_0, pb_216_0, pw_iload_n1, pw_iconst, il_m1, pw_ceq, pw_aload_n0, pw_aloadN_n0, pw_iv2, pw_zne, pw_bipush, bl_m2, pw_ret0, kd_123, rf_123_1, rf_123_2, rf_123_3, rf_123_4, rf_123_5, rf_123_7, rf_123_11, rf_123_12, rf_123_15, rf_123_16, rf_123_17, rf_123_26, rf_123_29, rf_123_30, rf_123_32, rf_123_34, rf_123_35, rf_123_45, n_0, n_1, nn_lt, nn_nlt, nn_le, nn_nle, nn_ne, nn_sub, nn_mul, nI_add, nn_neg, nm_eq, mn_eq, mm_eq, mn_lt, nm_lt, mn_le, nm_le, nn_sub0, nn_of, implies_true, nn_c, nn_in, nn_div, nat_rem, Nat.reduceMul, Nat.reduceSub, Nat.reduceDiv, Nat.reduceMod, pf_at, pf_ne, mk_s, mk_1, Classical.not_not, b2i_T, b2i_F, false_imp_iff, true_imp_iff, false_and, and_false, p_sw, Int.reduceAdd, Int.zero_add, Option.some.injEq, Value.int.injEq, Value.long.injEq, Value.ref.injEq, exists_eq_left', mk_I, mk_L, mk_wI, mk_wL, rf_s, rf_n, true_and, and_true, and_self, or_true, true_or, or_false, false_or, not_true_eq_false, not_false_eq_true, Option.toList_some, Option.toList_none, List.cons_append, List.nil_append, List.map_nil, List.map_cons, List.sum_nil, List.sum_cons, cat_i, cat_l, cat_r, cat_n, Nat.reduceLeDiff, Nat.reduceAdd, Nat.reduceEqDiff, Nat.zero_le, p_ent, p_u_ne, p_u_at, reduceIte, if_true, if_false, e1, P_ce s0, n_2]
end KE
