/-! ACTS ON THE REFERENCE'S SIDE -/
/-- all but what its acts write -/
def frM (I J : Nat → Nat → Int32) : Prop := (∀ a, ¬ a = 123 → ¬ a = 125 → ¬ a = 135 → ¬ a = 136 → J a = I a) ∧ ∀ k, ¬ (22 ≤ k ∧ k ≤ 25) → ¬ k = 31 → J 123 k = I 123 k
theorem frM_rf {I : Nat → Nat → Int32} : frM I I := ⟨fun _ _ _ _ _ => rfl, fun _ _ _ => rfl⟩
theorem frM_tr {I J K : Nat → Nat → Int32} (h1 : frM I J) (h2 : frM J K) : frM I K := ⟨fun a a1 a2 a3 a4 => (h2.1 a a1 a2 a3 a4).trans (h1.1 a a1 a2 a3 a4), fun k k1 k2 => (h2.2 k k1 k2).trans (h1.2 k k1 k2)⟩
theorem frM_E {I J : Nat → Nat → Int32} (h : frE I J) : frM I J := ⟨fun a a1 _ a3 _ => h.1 a a1 a3, fun k k1 _ => h.2 k (by omega) (by omega) (by omega) (by omega)⟩
/-- the reference's kept: what stands, and the law in force -/
def Cm (I : Nat → Nat → Int32) (K : Nat → Int32) (c : Option (List tCl)) : Prop := I 125 = K ∧ vld K ∧ lawOf K c
section RA
variable {Ls : Nat} {I : Nat → Nat → Int32} {L : Nat → Nat → Int64} {R : Nat → Nat → Option Nat} {X : List pKd} {c : Option (List tCl)} {K : Nat → Int32}
theorem ag_m {D q : Nat} (h : Cm I K c) (hq : q < 8) (hD : 47 ≤ D) : ∃ J, frE I J ∧ P_m D 199 [.ref 123, .int (nI q), .int (nI (pc (kn K 0)))] (p_mk Ls I L R X) (fun v h' => v = some (.int (nI (yv c K q (pc (kn K 0))))) ∧ h' = p_mk Ls J L R X) := by
  obtain ⟨rfl, hV, hc⟩ := h
  obtain ⟨J, f, s⟩ := ages_r (Ls := Ls) (L := L) (R := R) (X := X) (D := D) hc (vld_env hV hq) (pc_le (kn (I 125) 0)) hD
  rw [(yv_e (vld_env hV hq) (pc_le _)).1] at s
  exact ⟨J, f, s⟩
theorem br_m {D q : Nat} (h : Cm I K c) (hq : q < 8) (hD : 47 ≤ D) : ∃ J, frE I J ∧ P_m D 201 [.ref 123, .int (nI q), .int (nI (pc (kn K 0)))] (p_mk Ls I L R X) (fun v h' => v = some (.int (bI (bv c K q (pc (kn K 0))))) ∧ h' = p_mk Ls J L R X) := by
  obtain ⟨rfl, hV, hc⟩ := h
  exact bars_r (Ls := Ls) (L := L) (R := R) (X := X) (D := D) hc (vld_env hV hq) (pc_le (kn (I 125) 0)) hD
theorem tn_m {D q : Nat} (h : Cm I K c) (hq : q < 8) (hD : 47 ≤ D) : ∃ J, frE I J ∧ P_m D 200 [.ref 123, .int (nI q)] (p_mk Ls I L R X) (fun v h' => v = some (.int (bI (tv c K q (pc (kn K 0))))) ∧ h' = p_mk Ls J L R X) := by
  obtain ⟨rfl, hV, hc⟩ := h
  obtain ⟨k1, k2, k3⟩ := kn_0 hV
  exact turns_r (Ls := Ls) (L := L) (R := R) (X := X) (D := D) hc (vld_env hV hq) k3 k1 hD
theorem Cm_E {J : Nat → Nat → Int32} (h : Cm I K c) (f : frE I J) : Cm J K c := ⟨(f.1 125 (by omega) (by omega)).trans h.1, h.2⟩
theorem lf_m {d : Nat} (h : Cm I K c) : P_m (d + 1) 196 [.ref 123] (p_mk Ls I L R X) (fun v h' => v = some (.int (nI (pc (kn K 0)))) ∧ h' = p_mk Ls I L R X) := by
  obtain ⟨rfl, hV, hc⟩ := h
  obtain ⟨k1, k2, k3⟩ := kn_0 hV
  exact sp_196 k3 k1
theorem may_m {D q : Nat} (h : Cm I K c) (hq : q < 8) (hD : 48 ≤ D) : ∃ J, frE I J ∧ P_m D 203 [.ref 123, .int (nI q)] (p_mk Ls I L R X) (fun v h' => v = some (.int (bI (!bv c K q (pc (kn K 0)) && decide (kn K 2 + yv c K q (pc (kn K 0)) ≤ 9999)))) ∧ h' = p_mk Ls J L R X) := by
  obtain ⟨D', rfl⟩ : ∃ D', D = D' + 2 := ⟨D - 2, by omega⟩
  have hV := h.2.1
  have g2 : K 2 = nI (kn K 2) ∧ kn K 2 ≤ 9999 := kn_e hV (by omega) (by omega) (by omega)
  have s0 := lf_m (Ls := Ls) (L := L) (R := R) (X := X) (d := D') h
  obtain ⟨J1, f1, s1⟩ := br_m (Ls := Ls) (L := L) (R := R) (X := X) (D := D' + 1) h hq (by omega)
  have h1 := Cm_E h f1
  cases hb : bv c K q (pc (kn K 0)) with
  | true =>
    rw [hb, bI_t] at s1
    rw [Bool.not_true, Bool.false_and, bI_f]
    exact ⟨J1, f1, by simp -implicitDefEqProofs (disch := first | omega | decide) only [P_m, ↓P_run_eq _ 203 _ (p_bk 203 0), bk_203_0, pb_203_0, pw_aload_n0, pw_aloadN_n0, pw_iload_n1, pw_iv1, pw_iv3, pw_zeq, pw_iconst, il_0, pw_ret1, kd_123, rf_123_1, rf_123_2, rf_123_3, rf_123_4, rf_123_5, rf_123_7, rf_123_11, rf_123_12, rf_123_15, rf_123_16, rf_123_17, rf_123_26, rf_123_29, rf_123_30, rf_123_32, rf_123_34, rf_123_35, rf_123_45, n_0, n_1, nn_lt, nn_nlt, nn_le, nn_nle, nn_ne, nn_sub, nn_mul, nI_add, nn_neg, nm_eq, mn_eq, mm_eq, mn_lt, nm_lt, mn_le, nm_le, nn_sub0, nn_of, implies_true, nn_c, nn_in, nn_div, nat_rem, Nat.reduceMul, Nat.reduceSub, Nat.reduceDiv, Nat.reduceMod, pf_at, pf_ne, mk_s, mk_1, Classical.not_not, b2i_T, b2i_F, false_imp_iff, true_imp_iff, false_and, and_false, p_sw, Int.reduceAdd, Int.zero_add, Option.some.injEq, Value.int.injEq, Value.long.injEq, Value.ref.injEq, exists_eq_left', mk_I, mk_L, mk_wI, mk_wL, rf_s, rf_n, true_and, and_true, and_self, or_true, true_or, or_false, false_or, not_true_eq_false, not_false_eq_true, Option.toList_some, Option.toList_none, List.cons_append, List.nil_append, List.map_nil, List.map_cons, List.sum_nil, List.sum_cons, cat_i, cat_l, cat_r, cat_n, Nat.reduceLeDiff, Nat.reduceAdd, Nat.reduceEqDiff, Nat.zero_le, p_ent, p_u_ne, p_u_at, reduceIte, if_true, if_false, P_ce s0, P_ce s1]⟩
  | false =>
    rw [hb, bI_f] at s1
    rw [Bool.not_false, Bool.true_and]
    obtain ⟨J2, f2, s2⟩ := ag_m (Ls := Ls) (L := L) (R := R) (X := X) (D := D' + 1) h1 hq (by omega)
    have s3 := lf_m (Ls := Ls) (L := L) (R := R) (X := X) (d := D') h1
    have yle := (yv_e (c := c) (vld_env hV hq) (pc_le (kn K 0))).2
    have a2 : J1 125 2 = nI (kn K 2) := by rw [h1.1]; exact g2.1
    refine ⟨J2, frE_tr f1 f2, ?_⟩
    generalize yv c K q (pc (kn K 0)) = Y at *
    by_cases hh : kn K 2 + Y ≤ 9999
    · rw [decide_eq_true hh, bI_t]
      simp -implicitDefEqProofs (disch := first | omega | decide) only [P_m, ↓P_run_eq _ 203 _ (p_bk 203 0), bk_203_0, pb_203_0, ↓P_run_eq _ 203 _ (p_bk 203 1), bk_203_1, pb_203_1, ↓P_run_eq _ 203 _ (p_bk 203 2), bk_203_2, pb_203_2, ↓P_run_eq _ 203 _ (p_bk 203 3), bk_203_3, pb_203_3, pw_aload_n0, pw_aloadN_n0, pw_iload_n1, pw_iv1, pw_iv3, pw_zeq, pw_iconst, il_0, pw_ret1, pw_getR, il_2, pw_iald, pw_iadd, pw_sipush, sl_9999, pw_cgt, il_1, pw_goto, pw_nop, kd_123, rf_123_1, rf_123_2, rf_123_3, rf_123_4, rf_123_5, rf_123_7, rf_123_11, rf_123_12, rf_123_15, rf_123_16, rf_123_17, rf_123_26, rf_123_29, rf_123_30, rf_123_32, rf_123_34, rf_123_35, rf_123_45, kd_125, n_0, n_1, n_2, n_9999, nn_lt, nn_nlt, nn_le, nn_nle, nn_ne, nn_sub, nn_mul, nI_add, nn_neg, nm_eq, mn_eq, mm_eq, mn_lt, nm_lt, mn_le, nm_le, nn_sub0, nn_of, implies_true, nn_c, nn_in, nn_div, nat_rem, Nat.reduceMul, Nat.reduceSub, Nat.reduceDiv, Nat.reduceMod, pf_at, pf_ne, mk_s, mk_1, Classical.not_not, b2i_T, b2i_F, false_imp_iff, true_imp_iff, false_and, and_false, p_sw, Int.reduceAdd, Int.zero_add, Option.some.injEq, Value.int.injEq, Value.long.injEq, Value.ref.injEq, exists_eq_left', mk_I, mk_L, mk_wI, mk_wL, rf_s, rf_n, true_and, and_true, and_self, or_true, true_or, or_false, false_or, not_true_eq_false, not_false_eq_true, Option.toList_some, Option.toList_none, List.cons_append, List.nil_append, List.map_nil, List.map_cons, List.sum_nil, List.sum_cons, cat_i, cat_l, cat_r, cat_n, Nat.reduceLeDiff, Nat.reduceAdd, Nat.reduceEqDiff, Nat.zero_le, p_ent, p_u_ne, p_u_at, reduceIte, if_true, if_false, P_ce s0, P_ce s1, P_ce s3, P_ce s2, a2]
    · rw [decide_eq_false hh, bI_f]
      simp -implicitDefEqProofs (disch := first | omega | decide) only [P_m, ↓P_run_eq _ 203 _ (p_bk 203 0), bk_203_0, pb_203_0, ↓P_run_eq _ 203 _ (p_bk 203 1), bk_203_1, pb_203_1, ↓P_run_eq _ 203 _ (p_bk 203 2), bk_203_2, pb_203_2, ↓P_run_eq _ 203 _ (p_bk 203 3), bk_203_3, pb_203_3, pw_aload_n0, pw_aloadN_n0, pw_iload_n1, pw_iv1, pw_iv3, pw_zeq, pw_iconst, il_0, pw_ret1, pw_getR, il_2, pw_iald, pw_iadd, pw_sipush, sl_9999, pw_cgt, il_1, pw_goto, pw_nop, kd_123, rf_123_1, rf_123_2, rf_123_3, rf_123_4, rf_123_5, rf_123_7, rf_123_11, rf_123_12, rf_123_15, rf_123_16, rf_123_17, rf_123_26, rf_123_29, rf_123_30, rf_123_32, rf_123_34, rf_123_35, rf_123_45, kd_125, n_0, n_1, n_2, n_9999, nn_lt, nn_nlt, nn_le, nn_nle, nn_ne, nn_sub, nn_mul, nI_add, nn_neg, nm_eq, mn_eq, mm_eq, mn_lt, nm_lt, mn_le, nm_le, nn_sub0, nn_of, implies_true, nn_c, nn_in, nn_div, nat_rem, Nat.reduceMul, Nat.reduceSub, Nat.reduceDiv, Nat.reduceMod, pf_at, pf_ne, mk_s, mk_1, Classical.not_not, b2i_T, b2i_F, false_imp_iff, true_imp_iff, false_and, and_false, p_sw, Int.reduceAdd, Int.zero_add, Option.some.injEq, Value.int.injEq, Value.long.injEq, Value.ref.injEq, exists_eq_left', mk_I, mk_L, mk_wI, mk_wL, rf_s, rf_n, true_and, and_true, and_self, or_true, true_or, or_false, false_or, not_true_eq_false, not_false_eq_true, Option.toList_some, Option.toList_none, List.cons_append, List.nil_append, List.map_nil, List.map_cons, List.sum_nil, List.sum_cons, cat_i, cat_l, cat_r, cat_n, Nat.reduceLeDiff, Nat.reduceAdd, Nat.reduceEqDiff, Nat.zero_le, p_ent, p_u_ne, p_u_at, reduceIte, if_true, if_false, P_ce s0, P_ce s1, P_ce s3, P_ce s2, a2]
theorem can_m {D q : Nat} (h : Cm I K c) (hq : q < 8) (hD : 49 ≤ D) : ∃ J, frE I J ∧ P_m D 204 [.ref 123, .int (nI q)] (p_mk Ls I L R X) (fun v h' => v = some (.int (bI (canA c K q))) ∧ h' = p_mk Ls J L R X) := by
  obtain ⟨D', rfl⟩ : ∃ D', D = D' + 1 := ⟨D - 1, by omega⟩
  have hV := h.2.1
  unfold canA
  rcases hV.2.2.1 with e4 | ⟨t, ht, e4⟩
  · rw [decide_eq_false (fun hh => hh e4), Bool.false_and, bI_f]
    have e : I 125 4 = mI 1 := by rw [h.1]; exact e4
    exact ⟨I, frE_rf, by simp -implicitDefEqProofs (disch := first | omega | decide) only [P_m, ↓P_run_eq _ 204 _ (p_bk 204 0), bk_204_0, pb_204_0, ↓P_run_eq _ 204 _ (p_bk 204 1), bk_204_1, pb_204_1, ↓P_run_eq _ 204 _ (p_bk 204 2), bk_204_2, pb_204_2, pw_aload_n0, pw_aloadN_n0, pw_getR, pw_iconst, il_4, pw_iald, il_m1, pw_ceq, pw_iload_n1, pw_iv2, pw_zeq, il_1, pw_goto, il_0, pw_nop, pw_ret1, kd_123, rf_123_1, rf_123_2, rf_123_3, rf_123_4, rf_123_5, rf_123_7, rf_123_11, rf_123_12, rf_123_15, rf_123_16, rf_123_17, rf_123_26, rf_123_29, rf_123_30, rf_123_32, rf_123_34, rf_123_35, rf_123_45, kd_125, n_0, n_1, n_4, nn_lt, nn_nlt, nn_le, nn_nle, nn_ne, nn_sub, nn_mul, nI_add, nn_neg, nm_eq, mn_eq, mm_eq, mn_lt, nm_lt, mn_le, nm_le, nn_sub0, nn_of, implies_true, nn_c, nn_in, nn_div, nat_rem, Nat.reduceMul, Nat.reduceSub, Nat.reduceDiv, Nat.reduceMod, pf_at, pf_ne, mk_s, mk_1, Classical.not_not, b2i_T, b2i_F, false_imp_iff, true_imp_iff, false_and, and_false, p_sw, Int.reduceAdd, Int.zero_add, Option.some.injEq, Value.int.injEq, Value.long.injEq, Value.ref.injEq, exists_eq_left', mk_I, mk_L, mk_wI, mk_wL, rf_s, rf_n, true_and, and_true, and_self, or_true, true_or, or_false, false_or, not_true_eq_false, not_false_eq_true, Option.toList_some, Option.toList_none, List.cons_append, List.nil_append, List.map_nil, List.map_cons, List.sum_nil, List.sum_cons, cat_i, cat_l, cat_r, cat_n, Nat.reduceLeDiff, Nat.reduceAdd, Nat.reduceEqDiff, Nat.zero_le, p_ent, p_u_ne, p_u_at, reduceIte, if_true, if_false, e]⟩
  · have ht' : t < kn K 52 := ht
    have t2 := (kn_52 hV).2
    have ne4 : ¬ K 4 = -1 := by
      rw [e4]
      intro h9
      have := congrArg Int32.toInt h9
      rw [nI_toInt (by omega)] at this
      have e2 : (-1 : Int32).toInt = -1 := by decide
      omega
    rw [decide_eq_true ne4, Bool.true_and]
    have e : I 125 4 = nI t := by rw [h.1]; exact e4
    obtain ⟨J, f, s⟩ := may_m (Ls := Ls) (L := L) (R := R) (X := X) (D := D') h hq (by omega)
    refine ⟨J, f, ?_⟩
    generalize (!bv c K q (pc (kn K 0)) && decide (kn K 2 + yv c K q (pc (kn K 0)) ≤ 9999)) = B at *
    cases B <;> (try simp only [bI_t, bI_f] at s ⊢) <;> (simp -implicitDefEqProofs (disch := first | omega | decide) only [P_m, ↓P_run_eq _ 204 _ (p_bk 204 0), bk_204_0, pb_204_0, ↓P_run_eq _ 204 _ (p_bk 204 1), bk_204_1, pb_204_1, ↓P_run_eq _ 204 _ (p_bk 204 2), bk_204_2, pb_204_2, pw_aload_n0, pw_aloadN_n0, pw_getR, pw_iconst, il_4, pw_iald, il_m1, pw_ceq, pw_iload_n1, pw_iv2, pw_zeq, il_1, pw_goto, il_0, pw_nop, pw_ret1, kd_123, rf_123_1, rf_123_2, rf_123_3, rf_123_4, rf_123_5, rf_123_7, rf_123_11, rf_123_12, rf_123_15, rf_123_16, rf_123_17, rf_123_26, rf_123_29, rf_123_30, rf_123_32, rf_123_34, rf_123_35, rf_123_45, kd_125, n_0, n_1, n_4, nn_lt, nn_nlt, nn_le, nn_nle, nn_ne, nn_sub, nn_mul, nI_add, nn_neg, nm_eq, mn_eq, mm_eq, mn_lt, nm_lt, mn_le, nm_le, nn_sub0, nn_of, implies_true, nn_c, nn_in, nn_div, nat_rem, Nat.reduceMul, Nat.reduceSub, Nat.reduceDiv, Nat.reduceMod, pf_at, pf_ne, mk_s, mk_1, Classical.not_not, b2i_T, b2i_F, false_imp_iff, true_imp_iff, false_and, and_false, p_sw, Int.reduceAdd, Int.zero_add, Option.some.injEq, Value.int.injEq, Value.long.injEq, Value.ref.injEq, exists_eq_left', mk_I, mk_L, mk_wI, mk_wL, rf_s, rf_n, true_and, and_true, and_self, or_true, true_or, or_false, false_or, not_true_eq_false, not_false_eq_true, Option.toList_some, Option.toList_none, List.cons_append, List.nil_append, List.map_nil, List.map_cons, List.sum_nil, List.sum_cons, cat_i, cat_l, cat_r, cat_n, Nat.reduceLeDiff, Nat.reduceAdd, Nat.reduceEqDiff, Nat.zero_le, p_ent, p_u_ne, p_u_at, reduceIte, if_true, if_false, e, P_ce s])
/-- she ages by a question -/
theorem ages_m {D q : Nat} (h : Cm I K c) (hq : q < 8) (hD : 48 ≤ D) (h5 : kn K (5 + q) ≤ 1200 ∧ K (5 + q) = nI (kn K (5 + q))) (h2 : kn K 2 ≤ 20000 ∧ K 2 = nI (kn K 2)) : ∃ J, frE (p_fn I 125 (upd (upd K 2 (nI (kn K 2 + yv c K q (pc (kn K 0))))) (5 + q) (nI (min (kn K (5 + q) + 1) 999)))) J ∧ P_m D 205 [.ref 123, .int (nI q)] (p_mk Ls I L R X) (fun v h' => v = none ∧ h' = p_mk Ls J L R X) := by
  obtain ⟨D', rfl⟩ : ∃ D', D = D' + 2 := ⟨D - 2, by omega⟩
  have hV := h.2.1
  have s0 := lf_m (Ls := Ls) (L := L) (R := R) (X := X) (d := D') h
  obtain ⟨J, f, s⟩ := ag_m (Ls := Ls) (L := L) (R := R) (X := X) (D := D' + 1) h hq (by omega)
  have yle := (yv_e (c := c) (vld_env hV hq) (pc_le (kn K 0))).2
  have j125 : J 125 = K := (f.1 125 (by omega) (by omega)).trans h.1
  have a2 : I 125 2 = nI (kn K 2) := by rw [h.1]; exact h2.2
  have a5 : J 125 (5 + q) = nI (kn K (5 + q)) := by rw [j125]; exact h5.2
  have mn : (if nI 999 < nI (kn K (5 + q) + 1) then nI 999 else nI (kn K (5 + q) + 1)) = nI (min (kn K (5 + q) + 1) 999) := by
    rcases Nat.lt_or_ge 999 (kn K (5 + q) + 1) with h | h
    · rw [if_pos (nI_lt h (by omega)), show min (kn K (5 + q) + 1) 999 = 999 by omega]
    · rw [if_neg (nI_nlt h (by omega)), show min (kn K (5 + q) + 1) 999 = kn K (5 + q) + 1 by omega]
  refine ⟨p_fn J 125 (upd (upd K 2 (nI (kn K 2 + yv c K q (pc (kn K 0))))) (5 + q) (nI (min (kn K (5 + q) + 1) 999))), ⟨fun a a1 a2 => ?_, fun k k1 k2 k3 k4 => ?_⟩, ?_⟩
  · by_cases e : a = 125
    · subst e; rw [pf_at, pf_at]
    · rw [pf_ne e, pf_ne e]; exact f.1 a a1 a2
  · rw [pf_ne (by omega), pf_ne (by omega)]; exact f.2 k k1 k2 k3 k4
  · generalize yv c K q (pc (kn K 0)) = Y at *
    have n5 : ¬ 5 + q = 2 := by omega
    simp -implicitDefEqProofs (disch := first | omega | decide) only [P_m, ↓P_run_eq _ 205 _ (p_bk 205 0), bk_205_0, pb_205_0, pw_aload_n0, pw_aloadN_n0, pw_getR, pw_iconst, il_2, pw_dup2r, pw_iald, pw_iload_n1, pw_iv1, pw_iv3, pw_iadd, pw_iast, il_5, pw_sipush, sl_999, il_1, pw_is2, pw_vret, kd_123, rf_123_1, rf_123_2, rf_123_3, rf_123_4, rf_123_5, rf_123_7, rf_123_11, rf_123_12, rf_123_15, rf_123_16, rf_123_17, rf_123_26, rf_123_29, rf_123_30, rf_123_32, rf_123_34, rf_123_35, rf_123_45, kd_125, n_0, n_1, n_2, n_5, n_999, nn_lt, nn_nlt, nn_le, nn_nle, nn_ne, nn_sub, nn_mul, nI_add, nn_neg, nm_eq, mn_eq, mm_eq, mn_lt, nm_lt, mn_le, nm_le, nn_sub0, nn_of, implies_true, nn_c, nn_in, nn_div, nat_rem, Nat.reduceMul, Nat.reduceSub, Nat.reduceDiv, Nat.reduceMod, pf_at, pf_ne, mk_s, mk_1, Classical.not_not, b2i_T, b2i_F, false_imp_iff, true_imp_iff, false_and, and_false, p_sw, Int.reduceAdd, Int.zero_add, Option.some.injEq, Value.int.injEq, Value.long.injEq, Value.ref.injEq, exists_eq_left', mk_I, mk_L, mk_wI, mk_wL, rf_s, rf_n, true_and, and_true, and_self, or_true, true_or, or_false, false_or, not_true_eq_false, not_false_eq_true, Option.toList_some, Option.toList_none, List.cons_append, List.nil_append, List.map_nil, List.map_cons, List.sum_nil, List.sum_cons, cat_i, cat_l, cat_r, cat_n, Nat.reduceLeDiff, Nat.reduceAdd, Nat.reduceEqDiff, Nat.zero_le, p_ent, p_u_ne, p_u_at, reduceIte, if_true, if_false, P_ce s0, P_ce s, a2, a5, P_ce (sp_126 _ _), mn, n5]
    simp only [pu_fn, pf_pf, pf_at, j125]
/-- she answers -/
theorem asks_m {D q : Nat} (h : Cm I K c) (hq : q < 8) (h4 : ¬ K 4 = -1) (hc : kn K 2 + yv c K q (pc (kn K 0)) ≤ 9999) (hD : 49 ≤ D) : ∃ J, frE (p_fn I 125 (updL K (askW c K q))) J ∧ P_m D 206 [.ref 123, .int (nI q)] (p_mk Ls I L R X) (fun v h' => v = some (.int (askA c K q)) ∧ h' = p_mk Ls J L R X) := by
  obtain ⟨D', rfl⟩ : ∃ D', D = D' + 2 := ⟨D - 2, by omega⟩
  have hV := h.2.1
  obtain ⟨t1, t2⟩ := kn_52 hV
  obtain ⟨k1, k2, k3⟩ := kn_0 hV
  have g2 : K 2 = nI (kn K 2) ∧ kn K 2 ≤ 9999 := kn_e hV (by omega) (by omega) (by omega)
  obtain ⟨y1, y2⟩ := kn_37 hV hq
  have h5q : K (5 + q) = nI (kn K (5 + q)) ∧ kn K (5 + q) ≤ 999 := by
    have := kn_e hV (j := 5 + q) (by omega) (by omega) (by omega)
    rw [mx_5 q hq] at this
    exact this
  obtain ⟨t, ht, e4⟩ := hV.2.2.1.resolve_left h4
  have ht' : t < kn K 52 := ht
  have kt : kn K 4 = t := by unfold kn; rw [e4, nI_clamp (by omega)]
  have pl : plA K q = an (kn K (37 + q)) t := by unfold plA; rw [kt]
  have al := an_lt (kn K (37 + q)) t
  have z1 := sp_142 (d := D' + 1) (Ls := Ls) (I := I) (L := L) (R := R) (X := X) (q := q) (t := t) hq (by omega) y2 (by rw [h.1]; exact y1)
  obtain ⟨J1, f1, s1⟩ := tn_m (Ls := Ls) (L := L) (R := R) (X := X) (D := D' + 1) h hq (by omega)
  have h1 := Cm_E h f1
  have z2 := sp_202 (d := D') (Ls := Ls) (I := J1) (L := L) (R := R) (X := X) (q := q) (n := kn K 52) (s := kn K 0) (x := an (kn K (37 + q)) t) hq t2 k3 al y2 (by rw [h1.1]; exact y1) (by rw [h1.1]; exact t1)
  obtain ⟨J2, f2, s2⟩ := ages_m (Ls := Ls) (L := L) (R := R) (X := X) (D := D' + 1) h1 hq (by omega) ⟨by omega, h5q.1⟩ ⟨by omega, g2.1⟩
  have a4 : I 125 4 = nI t := by rw [h.1]; exact e4
  have a0 : J1 125 0 = nI (kn K 0) := by rw [h1.1]; exact k1
  have j2 : J2 125 = upd (upd K 2 (nI (kn K 2 + yv c K q (pc (kn K 0))))) (5 + q) (nI (min (kn K (5 + q) + 1) 999)) := by rw [f2.1 125 (by omega) (by omega), pf_at]
  have ek : upd (J2 125) 0 (nI (alk (kn K (37 + q)) (kn K 52) (kn K 0) (an (kn K (37 + q)) t))) = updL K (askW c K q) := by
    rw [j2]
    unfold askW
    rw [pl]
    funext j
    show upd (upd (upd K 2 _) (5 + q) _) 0 _ j = upd (upd (upd K 0 _) 2 _) (5 + q) _ j
    unfold upd
    by_cases e0 : j = 0
    · subst e0
      rw [if_pos rfl, if_neg (by omega), if_neg (by omega), if_pos rfl]
    · rw [if_neg e0]
      by_cases e5 : j = 5 + q
      · rw [if_pos e5, if_pos e5]
      · rw [if_neg e5, if_neg e5]
        by_cases e2 : j = 2
        · rw [if_pos e2, if_pos e2]
        · rw [if_neg e2, if_neg e2, if_neg e0]
  refine ⟨p_fn J2 125 (updL K (askW c K q)), ⟨fun a a1 a2 => ?_, fun k k1 k2 k3 k4 => ?_⟩, ?_⟩
  · by_cases e : a = 125
    · subst e; rw [pf_at, pf_at]
    · rw [pf_ne e, pf_ne e, f2.1 a a1 a2, pf_ne e]; exact f1.1 a a1 a2
  · rw [pf_ne (by omega), pf_ne (by omega), f2.2 k k1 k2 k3 k4, pf_ne (by omega)]; exact f1.2 k k1 k2 k3 k4
  · unfold askA tv
    rw [pl]
    unfold tv at s1
    have P4 : an (kn K (37 + q)) t = 0 ∨ an (kn K (37 + q)) t = 1 ∨ an (kn K (37 + q)) t = 2 ∨ an (kn K (37 + q)) t = 3 := by omega
    generalize yv c K q (pc (kn K 0)) = Y at *
    generalize hP : an (kn K (37 + q)) t = P at *
    cases hT : hdF c (wEnv K q (nI (pc (kn K 0)))) 1 with
    | true =>
      rw [hT, bI_t] at s1
      rw [if_pos rfl]
      simp -implicitDefEqProofs (disch := first | omega | decide) only [P_m, ↓P_run_eq _ 206 _ (p_bk 206 0), bk_206_0, pb_206_0, pw_aload_n0, pw_aloadN_n0, pw_iload_n1, pw_getR, pw_iconst, il_4, pw_iald, pw_iv3, pw_istore_n2, ps_2, pe_2, po_i2, po_r2, po_n2, po_u2, pw_iload_n2, pw_iv2, pw_iadd, pw_irem, pw_istore_n3, ps_3, pe_3, po_i3, po_r3, po_n3, po_u3, il_0, pw_iv4, pw_istore, ps_4, pe_4, po_i4, po_r4, po_n4, po_u4, pw_iload_4, pw_iast, pw_iload_n3, pw_ret0, kd_123, rf_123_1, rf_123_2, rf_123_3, rf_123_4, rf_123_5, rf_123_7, rf_123_11, rf_123_12, rf_123_15, rf_123_16, rf_123_17, rf_123_26, rf_123_29, rf_123_30, rf_123_32, rf_123_34, rf_123_35, rf_123_45, kd_125, n_0, n_1, n_4, nn_lt, nn_nlt, nn_le, nn_nle, nn_ne, nn_sub, nn_mul, nI_add, nn_neg, nm_eq, mn_eq, mm_eq, mn_lt, nm_lt, mn_le, nm_le, nn_sub0, nn_of, implies_true, nn_c, nn_in, nn_div, nat_rem, Nat.reduceMul, Nat.reduceSub, Nat.reduceDiv, Nat.reduceMod, pf_at, pf_ne, mk_s, mk_1, Classical.not_not, b2i_T, b2i_F, false_imp_iff, true_imp_iff, false_and, and_false, p_sw, Int.reduceAdd, Int.zero_add, Option.some.injEq, Value.int.injEq, Value.long.injEq, Value.ref.injEq, exists_eq_left', mk_I, mk_L, mk_wI, mk_wL, rf_s, rf_n, true_and, and_true, and_self, or_true, true_or, or_false, false_or, not_true_eq_false, not_false_eq_true, Option.toList_some, Option.toList_none, List.cons_append, List.nil_append, List.map_nil, List.map_cons, List.sum_nil, List.sum_cons, cat_i, cat_l, cat_r, cat_n, Nat.reduceLeDiff, Nat.reduceAdd, Nat.reduceEqDiff, Nat.zero_le, p_ent, p_u_ne, p_u_at, reduceIte, if_true, if_false, a4, a0, P_ce z1, P_ce s1, P_ce z2, P_ce s2, pu_fn, ek]
    | false =>
      rw [hT, bI_f] at s1
      rw [if_neg (by decide)]
      simp -implicitDefEqProofs (disch := first | omega | decide) only [P_m, ↓P_run_eq _ 206 _ (p_bk 206 0), bk_206_0, pb_206_0, pw_aload_n0, pw_aloadN_n0, pw_iload_n1, pw_getR, pw_iconst, il_4, pw_iald, pw_iv3, pw_istore_n2, ps_2, pe_2, po_i2, po_r2, po_n2, po_u2, pw_iload_n2, pw_iv2, pw_iadd, pw_irem, pw_istore_n3, ps_3, pe_3, po_i3, po_r3, po_n3, po_u3, il_0, pw_iv4, pw_istore, ps_4, pe_4, po_i4, po_r4, po_n4, po_u4, pw_iload_4, pw_iast, pw_iload_n3, pw_ret0, kd_123, rf_123_1, rf_123_2, rf_123_3, rf_123_4, rf_123_5, rf_123_7, rf_123_11, rf_123_12, rf_123_15, rf_123_16, rf_123_17, rf_123_26, rf_123_29, rf_123_30, rf_123_32, rf_123_34, rf_123_35, rf_123_45, kd_125, n_0, n_1, n_4, nn_lt, nn_nlt, nn_le, nn_nle, nn_ne, nn_sub, nn_mul, nI_add, nn_neg, nm_eq, mn_eq, mm_eq, mn_lt, nm_lt, mn_le, nm_le, nn_sub0, nn_of, implies_true, nn_c, nn_in, nn_div, nat_rem, Nat.reduceMul, Nat.reduceSub, Nat.reduceDiv, Nat.reduceMod, pf_at, pf_ne, mk_s, mk_1, Classical.not_not, b2i_T, b2i_F, false_imp_iff, true_imp_iff, false_and, and_false, p_sw, Int.reduceAdd, Int.zero_add, Option.some.injEq, Value.int.injEq, Value.long.injEq, Value.ref.injEq, exists_eq_left', mk_I, mk_L, mk_wI, mk_wL, rf_s, rf_n, true_and, and_true, and_self, or_true, true_or, or_false, false_or, not_true_eq_false, not_false_eq_true, Option.toList_some, Option.toList_none, List.cons_append, List.nil_append, List.map_nil, List.map_cons, List.sum_nil, List.sum_cons, cat_i, cat_l, cat_r, cat_n, Nat.reduceLeDiff, Nat.reduceAdd, Nat.reduceEqDiff, Nat.zero_le, p_ent, p_u_ne, p_u_at, reduceIte, if_true, if_false, a4, a0, P_ce z1, P_ce s1, P_ce z2, P_ce s2, pu_fn, ek]
end RA
