/-! VISITOR, TERMS, FORCE, DRAWN -/
section S2
variable {d Ls : Nat} {I : Nat → Nat → Int32} {L : Nat → Nat → Int64} {R : Nat → Nat → Option Nat} {X : List pKd} {h : pHp}
theorem inv_visitor {w : Int32} {q : Nat} (hq : q < 6) (eq : I 125 54 = nI q) (c1 : 0 ≤ w) (c2 : w ≤ 255) (H : Inv I R X) : Inv (p_u (p_u (p_u (p_u (p_u (p_u I 77 q w) 71 10 (nI (q + 1))) 32 14 0) 125 (45 + q) w) 125 54 (nI (q + 1))) 123 0 0) R X := by
  have h2 := H.2.1
  refine Inv_ws [(45 + q, w), (54, nI (q + 1))] H ?_ ?_ ?_ ?_ ?_ rfl rfl rfl ⟨h2.1, rfl, h2.2.2.1, h2.2.2.2.1, h2.2.2.2.2⟩ (invU_fr (I := I) rfl rfl rfl ?_ rfl H.2.2.2.1)
  · simp only [wsOk, mx_45 q hq]
    exact ⟨⟨by omega, by omega, Or.inr (Or.inr (Or.inr (bn_le (by omega) c1 c2)))⟩, ⟨by omega, by omega, Or.inr (Or.inr (Or.inr ⟨q + 1, by simp [mxk]; omega, rfl⟩))⟩, trivial⟩
  · simp only [updL]
    have hu : ∀ j, j = 0 ∨ j = 4 ∨ j = 52 ∨ j = 55 ∨ j = 56 → upd (upd (I 125) (45 + q) w) 54 (nI (q + 1)) j = I 125 j := fun j hj => by rw [upd_ne (by omega), upd_ne (by omega)]
    unfold vldH
    rw [hu 0 (by omega), hu 4 (by omega), hu 52 (by omega), hu 55 (by omega), hu 56 (by omega)]
    exact H.2.2.2.2.2.2.2.2.2
  · intro b b1 b2
    simp only [wC, (da_45 q hq).1, (da_45 q hq).2]
    rcases b_78 b1 b2 with rfl | rfl | rfl | rfl | rfl | rfl | rfl | rfl <;> rfl
  · rw [p_u_ne (by omega), p_u_self, p_u_self]
    rfl
  · intro b b1 b2 b3 b4 b5 b6 b7
    repeat rw [p_u_ne (by omega)]
  · rw [p_u_ne (by omega), p_u_self, p_u_self, upd_ne (by omega), upd_ne (by omega)]
    rfl
theorem q_visitor (w : Int32) (H : Inv I R X) : Same (d + 2) 84 149 [.int w] Ls (p_mk Ls I L R X) := by
  obtain ⟨q, hq, eq⟩ := H.2.2.2.2.2.2.2.1.2.2.1
  have eq2 : I 71 10 = nI q := (H.2.2.2.2.2.2.1.1 54 (by decide)).trans eq
  by_cases c : 0 ≤ w ∧ w ≤ 255
  · have e1 := c.1
    have n1 : ¬ w < 0 := Int32.not_lt.mpr c.1
    have n2 := c.2
    rcases Nat.lt_or_ge q 6 with hq8 | hq8
    · have c1 : nI q < 6 := (nI_ltI (a := q) (b := 6) (by omega) (by omega)).mpr hq8
      have c2 : ¬ nI q = 6 := fun e => absurd ((nI_eq (a := q) (b := 6) (by omega) (by omega)).mp e) (by omega)
      have c8 : (nI q).toNatClampNeg = q := nI_c (by omega)
      have v8 : vp_in (nI q) 6 := vin_k hq8 (by omega)
      have c45 : ((45 : Int32) + nI q).toNatClampNeg = 45 + q := by rw [la_45, nI_c (by omega)]
      have v45 : vp_in ((45 : Int32) + nI q) 5664 := by rw [la_45]; exact vin_k (by omega) (by omega)
      have n54 : ¬ 54 = 45 + q := by omega
      simp -implicitDefEqProofs only [P_m, ↓P_run_eq _ 84 _ (p_bk 84 0), bk_84_0, pb_84_0, ↓P_run_eq _ 84 _ (p_bk 84 1), bk_84_1, pb_84_1, ↓P_run_eq _ 84 _ (p_bk 84 2), bk_84_2, pb_84_2, ↓P_run_eq _ 84 _ (p_bk 84 3), bk_84_3, pb_84_3, ↓P_run_eq _ 149 _ (p_bk 149 0), bk_149_0, pb_149_0, ↓P_run_eq _ 149 _ (p_bk 149 1), bk_149_1, pb_149_1, ↓P_run_eq _ 149 _ (p_bk 149 2), bk_149_2, pb_149_2, pw_iload_n1, pw_zlt, pw_sipush, sl_255, pw_cle, pw_nop, pw_aload_n0, pw_aloadN_n0, pw_iconst, il_m1, pw_iv2, pw_ret0, pw_getR, pw_getI, pw_bipush, bl_6, pw_clt, bl_m5, pw_iast, pw_dupi, pw_dupr, il_1, pw_iadd, pw_putI, pw_isub, il_0, pw_is3, pw_zne, bl_54, pw_iald, pw_istore_n2, ps_2, pe_2, po_i2, po_r2, po_n2, po_u2, pw_iload_n2, pw_cne, bl_45, pw_dup2r, kd_32, rf_32_0, rf_32_1, rf_32_2, rf_32_3, rf_32_4, rf_32_5, rf_32_6, rf_32_7, rf_32_8, rf_32_9, rf_32_11, rf_32_12, rf_32_13, kd_71, rf_71_1, rf_71_3, rf_71_4, rf_71_5, rf_71_6, rf_71_11, rf_71_12, rf_71_14, kd_77, kd_123, rf_123_1, rf_123_2, rf_123_3, rf_123_4, rf_123_5, rf_123_7, rf_123_11, rf_123_12, rf_123_15, rf_123_16, rf_123_17, rf_123_26, rf_123_29, rf_123_30, rf_123_32, rf_123_34, rf_123_35, rf_123_45, kd_125, Classical.not_not, implies_true, mk_s, mk_1, pf_at, pf_ne, b2i_T, b2i_F, false_imp_iff, true_imp_iff, ne_10, ne_01, ne_m10, ne_0m1, ne_m11, ne_1m1, false_and, and_false, p_sw, Int.reduceAdd, Int.zero_add, Option.some.injEq, Value.int.injEq, Value.long.injEq, Value.ref.injEq, exists_eq_left',  mk_I, mk_L, mk_wI, mk_wL, rf_s, rf_n, true_and, and_true, and_self, or_true, true_or, or_false, false_or, not_true_eq_false, not_false_eq_true, Option.toList_some, Option.toList_none, List.cons_append, List.nil_append, List.map_nil, List.map_cons, List.sum_nil, List.sum_cons, cat_i, cat_l, cat_r, cat_n, Nat.reduceLeDiff, Nat.reduceAdd, Nat.reduceEqDiff, Nat.zero_le, p_ent, Int32.reduceToNatClampNeg, Int32.reduceLT, Int32.reduceLE, vin_l, p_u_ne, p_u_at, reduceIte, if_true, if_false, Int32.reduceToInt, Int.zero_le_ofNat, Int.cast_ofNat_Int, Int.reduceLT, Int.reduceLE, not_false_eq_true, Same, P_ce (sp_125 _ _ _), P_ce (rc_1), P_ce (rc_5), P_ce (sp_117 _), P_ce (rm_1), P_ce (rm_5), P_ce (sp_129 _), e1, eq, eq2, c1, c2, n1, n2, c8, v8, c45, v45, n54, nI_pred, nI_1]
      exact ⟨_, _, _, _, rfl, inv_visitor hq8 eq c.1 c.2 H⟩
    · have : q = 6 := by omega
      subst this
      have eq : I 125 54 = 6 := eq
      have eq2 : I 71 10 = 6 := eq2
      simp -implicitDefEqProofs only [P_m, ↓P_run_eq _ 84 _ (p_bk 84 0), bk_84_0, pb_84_0, ↓P_run_eq _ 84 _ (p_bk 84 1), bk_84_1, pb_84_1, ↓P_run_eq _ 84 _ (p_bk 84 2), bk_84_2, pb_84_2, ↓P_run_eq _ 84 _ (p_bk 84 3), bk_84_3, pb_84_3, ↓P_run_eq _ 149 _ (p_bk 149 0), bk_149_0, pb_149_0, ↓P_run_eq _ 149 _ (p_bk 149 1), bk_149_1, pb_149_1, ↓P_run_eq _ 149 _ (p_bk 149 2), bk_149_2, pb_149_2, pw_iload_n1, pw_zlt, pw_sipush, sl_255, pw_cle, pw_nop, pw_aload_n0, pw_aloadN_n0, pw_iconst, il_m1, pw_iv2, pw_ret0, pw_getR, pw_getI, pw_bipush, bl_6, pw_clt, bl_m5, pw_iast, pw_dupi, pw_dupr, il_1, pw_iadd, pw_putI, pw_isub, il_0, pw_is3, pw_zne, bl_54, pw_iald, pw_istore_n2, ps_2, pe_2, po_i2, po_r2, po_n2, po_u2, pw_iload_n2, pw_cne, bl_45, pw_dup2r, kd_32, rf_32_0, rf_32_1, rf_32_2, rf_32_3, rf_32_4, rf_32_5, rf_32_6, rf_32_7, rf_32_8, rf_32_9, rf_32_11, rf_32_12, rf_32_13, kd_71, rf_71_1, rf_71_3, rf_71_4, rf_71_5, rf_71_6, rf_71_11, rf_71_12, rf_71_14, kd_77, kd_123, rf_123_1, rf_123_2, rf_123_3, rf_123_4, rf_123_5, rf_123_7, rf_123_11, rf_123_12, rf_123_15, rf_123_16, rf_123_17, rf_123_26, rf_123_29, rf_123_30, rf_123_32, rf_123_34, rf_123_35, rf_123_45, kd_125, Classical.not_not, implies_true, mk_s, mk_1, pf_at, pf_ne, b2i_T, b2i_F, false_imp_iff, true_imp_iff, ne_10, ne_01, ne_m10, ne_0m1, ne_m11, ne_1m1, false_and, and_false, p_sw, Int.reduceAdd, Int.zero_add, Option.some.injEq, Value.int.injEq, Value.long.injEq, Value.ref.injEq, exists_eq_left',  mk_I, mk_L, mk_wI, mk_wL, rf_s, rf_n, true_and, and_true, and_self, or_true, true_or, or_false, false_or, not_true_eq_false, not_false_eq_true, Option.toList_some, Option.toList_none, List.cons_append, List.nil_append, List.map_nil, List.map_cons, List.sum_nil, List.sum_cons, cat_i, cat_l, cat_r, cat_n, Nat.reduceLeDiff, Nat.reduceAdd, Nat.reduceEqDiff, Nat.zero_le, p_ent, Int32.reduceToNatClampNeg, Int32.reduceLT, Int32.reduceLE, vin_l, p_u_ne, p_u_at, reduceIte, if_true, if_false, Int32.reduceToInt, Int.zero_le_ofNat, Int.cast_ofNat_Int, Int.reduceLT, Int.reduceLE, not_false_eq_true, Same, P_ce (sp_125 _ _ _), P_ce (rc_1), P_ce (rc_5), P_ce (sp_117 _), P_ce (rm_1), P_ce (rm_5), P_ce (sp_129 _), e1, eq, eq2, n1, n2]
      exact ⟨_, _, _, _, rfl, inv_no (-5) 5 (by decide) H⟩
  · have e1 : b2i (0 ≤ w ∧ w ≤ 255) = 0 := b2i_f c
    simp -implicitDefEqProofs only [P_m, ↓P_run_eq _ 84 _ (p_bk 84 0), bk_84_0, pb_84_0, ↓P_run_eq _ 84 _ (p_bk 84 1), bk_84_1, pb_84_1, ↓P_run_eq _ 149 _ (p_bk 149 0), bk_149_0, pb_149_0, ↓P_run_eq _ 149 _ (p_bk 149 1), bk_149_1, pb_149_1, ↓P_run_eq _ 149 _ (p_bk 149 2), bk_149_2, pb_149_2, pw_iload_n1, pw_zlt, pw_sipush, sl_255, pw_cle, pw_nop, pw_aload_n0, pw_aloadN_n0, pw_iconst, il_m1, pw_iv2, pw_ret0, il_0, pw_is3, pw_zne, pw_getR, pw_bipush, bl_54, pw_iald, pw_istore_n2, ps_2, pe_2, po_i2, po_r2, po_n2, po_u2, pw_iload_n2, bl_6, pw_cne, bl_m5, bl_45, pw_iadd, pw_iast, pw_dup2r, il_1, kd_32, rf_32_0, rf_32_1, rf_32_2, rf_32_3, rf_32_4, rf_32_5, rf_32_6, rf_32_7, rf_32_8, rf_32_9, rf_32_11, rf_32_12, rf_32_13, kd_71, rf_71_1, rf_71_3, rf_71_4, rf_71_5, rf_71_6, rf_71_11, rf_71_12, rf_71_14, kd_77, kd_123, rf_123_1, rf_123_2, rf_123_3, rf_123_4, rf_123_5, rf_123_7, rf_123_11, rf_123_12, rf_123_15, rf_123_16, rf_123_17, rf_123_26, rf_123_29, rf_123_30, rf_123_32, rf_123_34, rf_123_35, rf_123_45, kd_125, Classical.not_not, implies_true, mk_s, mk_1, pf_at, pf_ne, b2i_T, b2i_F, false_imp_iff, true_imp_iff, ne_10, ne_01, ne_m10, ne_0m1, ne_m11, ne_1m1, false_and, and_false, p_sw, Int.reduceAdd, Int.zero_add, Option.some.injEq, Value.int.injEq, Value.long.injEq, Value.ref.injEq, exists_eq_left',  mk_I, mk_L, mk_wI, mk_wL, rf_s, rf_n, true_and, and_true, and_self, or_true, true_or, or_false, false_or, not_true_eq_false, not_false_eq_true, Option.toList_some, Option.toList_none, List.cons_append, List.nil_append, List.map_nil, List.map_cons, List.sum_nil, List.sum_cons, cat_i, cat_l, cat_r, cat_n, Nat.reduceLeDiff, Nat.reduceAdd, Nat.reduceEqDiff, Nat.zero_le, p_ent, Int32.reduceToNatClampNeg, Int32.reduceLT, Int32.reduceLE, vin_l, p_u_ne, p_u_at, reduceIte, if_true, if_false, Int32.reduceToInt, Int.zero_le_ofNat, Int.cast_ofNat_Int, Int.reduceLT, Int.reduceLE, not_false_eq_true, Same, P_ce (sp_125 _ _ _), P_ce (rc_1), P_ce (rc_5), P_ce (sp_117 _), P_ce (rm_1), P_ce (rm_5), P_ce (sp_129 _), e1]
    refine ⟨fun a => ?_, fun a => ⟨fun b => absurd ⟨Int32.not_lt.mp a, b⟩ c, fun b => ?_⟩⟩
    · exact ⟨_, _, _, _, rfl, inv_no (-1) 1 (by decide) H⟩
    · exact ⟨_, _, _, _, rfl, inv_no (-1) 1 (by decide) H⟩
-- force
theorem sp_9 (n : Int32) : P_m d 9 [.ref 71, .int n] (p_mk Ls I L R X) (fun v h' => v = some (.int (b2i (0 ≤ n ∧ n < I 71 13))) ∧ h' = p_mk Ls I L R X) := by
  simp -implicitDefEqProofs only [P_m, ↓P_run_eq _ 9 _ (p_bk 9 0), bk_9_0, pb_9_0, ↓P_run_eq _ 9 _ (p_bk 9 1), bk_9_1, pb_9_1, ↓P_run_eq _ 9 _ (p_bk 9 2), bk_9_2, pb_9_2, pw_iload_n1, pw_zlt, pw_aload_n0, pw_aloadN_n0, pw_getI, pw_cge, pw_iconst, il_1, pw_goto, il_0, pw_nop, pw_ret1, kd_71, rf_71_1, rf_71_3, rf_71_4, rf_71_5, rf_71_6, rf_71_11, rf_71_12, rf_71_14, Classical.not_not, implies_true, mk_s, mk_1, pf_at, pf_ne, b2i_T, b2i_F, false_imp_iff, true_imp_iff, ne_10, ne_01, ne_m10, ne_0m1, ne_m11, ne_1m1, false_and, and_false, p_sw, Int.reduceAdd, Int.zero_add, Option.some.injEq, Value.int.injEq, Value.long.injEq, Value.ref.injEq, exists_eq_left',  mk_I, mk_L, mk_wI, mk_wL, rf_s, rf_n, true_and, and_true, and_self, or_true, true_or, or_false, false_or, not_true_eq_false, not_false_eq_true, Option.toList_some, Option.toList_none, List.cons_append, List.nil_append, List.map_nil, List.map_cons, List.sum_nil, List.sum_cons, cat_i, cat_l, cat_r, cat_n, Nat.reduceLeDiff, Nat.reduceAdd, Nat.reduceEqDiff, Nat.zero_le, p_ent, Int32.reduceToNatClampNeg, Int32.reduceLT, Int32.reduceLE, vin_l, p_u_ne, p_u_at, reduceIte, if_true, if_false, Int32.reduceToInt, Int.zero_le_ofNat, Int.cast_ofNat_Int, Int.reduceLT, Int.reduceLE, not_false_eq_true]
  repeat' (first | apply And.intro | intro)
  all_goals first | rfl | (symm; apply b2i_f; (simp only [Int32.lt_iff_toInt_lt, Int32.le_iff_toInt_le, ← Int32.toInt_inj, Int32.reduceToInt] at *; omega)) | (symm; apply b2i_t; (simp only [Int32.lt_iff_toInt_lt, Int32.le_iff_toInt_le, ← Int32.toInt_inj, Int32.reduceToInt] at *; omega)) | (exfalso; (simp only [Int32.lt_iff_toInt_lt, Int32.le_iff_toInt_le, ← Int32.toInt_inj, Int32.reduceToInt] at *; omega))
theorem sp_183 (n : Int32) : P_m (d + 1) 183 [.ref 123, .int n] (p_mk Ls I L R X) (fun v h' => v = some (.int (b2i (-1 ≤ n ∧ n ≤ I 125 55 - 1))) ∧ h' = p_mk Ls I L R X) := by
  simp -implicitDefEqProofs only [P_m, ↓P_run_eq _ 183 _ (p_bk 183 0), bk_183_0, pb_183_0, pw_iload_n1, pw_iconst, il_m1, pw_aload_n0, pw_aloadN_n0, pw_getR, pw_bipush, bl_55, pw_iald, il_1, pw_isub, pw_is3, pw_ret1, kd_123, rf_123_1, rf_123_2, rf_123_3, rf_123_4, rf_123_5, rf_123_7, rf_123_11, rf_123_12, rf_123_15, rf_123_16, rf_123_17, rf_123_26, rf_123_29, rf_123_30, rf_123_32, rf_123_34, rf_123_35, rf_123_45, kd_125, Classical.not_not, implies_true, mk_s, mk_1, pf_at, pf_ne, b2i_T, b2i_F, false_imp_iff, true_imp_iff, ne_10, ne_01, ne_m10, ne_0m1, ne_m11, ne_1m1, false_and, and_false, p_sw, Int.reduceAdd, Int.zero_add, Option.some.injEq, Value.int.injEq, Value.long.injEq, Value.ref.injEq, exists_eq_left',  mk_I, mk_L, mk_wI, mk_wL, rf_s, rf_n, true_and, and_true, and_self, or_true, true_or, or_false, false_or, not_true_eq_false, not_false_eq_true, Option.toList_some, Option.toList_none, List.cons_append, List.nil_append, List.map_nil, List.map_cons, List.sum_nil, List.sum_cons, cat_i, cat_l, cat_r, cat_n, Nat.reduceLeDiff, Nat.reduceAdd, Nat.reduceEqDiff, Nat.zero_le, p_ent, Int32.reduceToNatClampNeg, Int32.reduceLT, Int32.reduceLE, vin_l, p_u_ne, p_u_at, reduceIte, if_true, if_false, Int32.reduceToInt, Int.zero_le_ofNat, Int.cast_ofNat_Int, Int.reduceLT, Int.reduceLE, not_false_eq_true, P_ce (sp_125 _ _ _)]
  exact b2i_01 _
theorem inv_force {n : Int32} (c : n = -1 ∨ ∃ f, f < (I 125 55).toNatClampNeg ∧ n = nI f) (H : Inv I R X) : Inv (p_u (p_u (p_u (p_u I 71 15 n) 32 14 0) 125 56 n) 123 0 0) R X := by
  have h2 := H.2.1
  refine Inv_ws [(56, n)] H ⟨⟨by omega, by omega, Or.inr (Or.inr (Or.inl rfl))⟩, trivial⟩ ?_ ?_ ?_ ?_ rfl rfl rfl ⟨h2.1, rfl, h2.2.2.1, h2.2.2.2.1, h2.2.2.2.2⟩ (invU_fr (I := I) rfl rfl rfl rfl rfl H.2.2.2.1)
  · exact ⟨H.2.2.2.2.2.2.2.2.2.1, H.2.2.2.2.2.2.2.2.2.2.1, c⟩
  · intro b b1 b2
    rcases b_78 b1 b2 with rfl | rfl | rfl | rfl | rfl | rfl | rfl | rfl <;> rfl
  · rw [p_u_ne (by omega), p_u_self]
    rfl
  · intro b b1 b2 b3 b4 b5 b6 b7
    repeat rw [p_u_ne (by omega)]
theorem q_force (n : Int32) (H : Inv I R X) : Same (d + 2) 94 184 [.int n] Ls (p_mk Ls I L R X) := by
  obtain ⟨q, hq, eq⟩ := H.2.2.2.2.2.2.2.1.2.2.2.1
  have eq2 : I 71 13 = nI q := (H.2.2.2.2.2.2.1.1 55 (by decide)).trans eq
  have e56 : I 71 15 = I 125 56 := H.2.2.2.2.2.2.1.1 56 (by decide)
  have tq : (nI q).toInt = (q : Int) := nI_toInt (by omega)
  have tq1 : (nI q - 1).toInt = (q : Int) - 1 := by
    rcases Nat.eq_zero_or_pos q with e | e
    · subst e; decide
    · obtain ⟨m, rfl⟩ : ∃ m, q = m + 1 := ⟨q - 1, by omega⟩
      rw [nI_pred, nI_toInt (by omega)]; omega
  by_cases c : n = -1 ∨ (0 ≤ n ∧ n < nI q)
  · have e1 : b2i (-1 ≤ n ∧ n ≤ nI q - 1) = 1 := b2i_t (by
      simp only [Int32.lt_iff_toInt_lt, Int32.le_iff_toInt_le, ← Int32.toInt_inj, Int32.reduceToInt, tq, tq1] at *
      omega)
    have c9 : n = -1 ∨ ∃ f, f < (I 125 55).toNatClampNeg ∧ n = nI f := by
      rcases c with c | ⟨c1, c2⟩
      · exact Or.inl c
      · obtain ⟨k, hk, rfl⟩ := nI_of (Int32.not_lt.mpr c1)
        exact Or.inr ⟨k, by rw [eq, nI_c (by omega)]; exact (nI_ltI (by omega) (by omega)).mp c2, rfl⟩
    rcases c with c | c
    · subst c
      have e1 : -1 ≤ nI q - 1 := by rw [Int32.le_iff_toInt_le, tq1]; simp only [Int32.reduceToInt]; omega
      simp -implicitDefEqProofs only [P_m, ↓P_run_eq _ 94 _ (p_bk 94 0), bk_94_0, pb_94_0, ↓P_run_eq _ 94 _ (p_bk 94 1), bk_94_1, pb_94_1, ↓P_run_eq _ 184 _ (p_bk 184 0), bk_184_0, pb_184_0, ↓P_run_eq _ 184 _ (p_bk 184 1), bk_184_1, pb_184_1, pw_iload_n1, pw_iconst, il_m1, pw_ceq, pw_aload_n0, pw_aloadN_n0, pw_getR, pw_iv2, pw_zne, pw_bipush, bl_m2, pw_ret0, pw_getI, pw_istore_n2, ps_2, pe_2, po_i2, po_r2, po_n2, po_u2, pw_putI, pw_iload_n2, bl_56, pw_iald, pw_iast, kd_32, rf_32_0, rf_32_1, rf_32_2, rf_32_3, rf_32_4, rf_32_5, rf_32_6, rf_32_7, rf_32_8, rf_32_9, rf_32_11, rf_32_12, rf_32_13, kd_71, rf_71_1, rf_71_3, rf_71_4, rf_71_5, rf_71_6, rf_71_11, rf_71_12, rf_71_14, kd_123, rf_123_1, rf_123_2, rf_123_3, rf_123_4, rf_123_5, rf_123_7, rf_123_11, rf_123_12, rf_123_15, rf_123_16, rf_123_17, rf_123_26, rf_123_29, rf_123_30, rf_123_32, rf_123_34, rf_123_35, rf_123_45, kd_125, Classical.not_not, implies_true, mk_s, mk_1, pf_at, pf_ne, b2i_T, b2i_F, false_imp_iff, true_imp_iff, ne_10, ne_01, ne_m10, ne_0m1, ne_m11, ne_1m1, false_and, and_false, p_sw, Int.reduceAdd, Int.zero_add, Option.some.injEq, Value.int.injEq, Value.long.injEq, Value.ref.injEq, exists_eq_left',  mk_I, mk_L, mk_wI, mk_wL, rf_s, rf_n, true_and, and_true, and_self, or_true, true_or, or_false, false_or, not_true_eq_false, not_false_eq_true, Option.toList_some, Option.toList_none, List.cons_append, List.nil_append, List.map_nil, List.map_cons, List.sum_nil, List.sum_cons, cat_i, cat_l, cat_r, cat_n, Nat.reduceLeDiff, Nat.reduceAdd, Nat.reduceEqDiff, Nat.zero_le, p_ent, Int32.reduceToNatClampNeg, Int32.reduceLT, Int32.reduceLE, vin_l, p_u_ne, p_u_at, reduceIte, if_true, if_false, Int32.reduceToInt, Int.zero_le_ofNat, Int.cast_ofNat_Int, Int.reduceLT, Int.reduceLE, not_false_eq_true, Same, P_ce (sp_9 _), P_ce (sp_183 _), P_ce (sp_117 _), P_ce (sp_129 _), e1, eq, eq2, e56, b2i_0]
      exact ⟨_, _, _, _, rfl, inv_force c9 H⟩
    · have e2 : ¬ n = -1 := by
        intro e; subst e; exact absurd c.1 (by decide)
      have e3 : b2i (0 ≤ n ∧ n < nI q) = 1 := b2i_t c
      simp -implicitDefEqProofs only [P_m, ↓P_run_eq _ 94 _ (p_bk 94 0), bk_94_0, pb_94_0, ↓P_run_eq _ 94 _ (p_bk 94 1), bk_94_1, pb_94_1, ↓P_run_eq _ 184 _ (p_bk 184 0), bk_184_0, pb_184_0, ↓P_run_eq _ 184 _ (p_bk 184 1), bk_184_1, pb_184_1, pw_iload_n1, pw_iconst, il_m1, pw_ceq, pw_aload_n0, pw_aloadN_n0, pw_getR, pw_iv2, pw_zne, pw_bipush, bl_m2, pw_ret0, pw_getI, pw_istore_n2, ps_2, pe_2, po_i2, po_r2, po_n2, po_u2, pw_putI, pw_iload_n2, bl_56, pw_iald, pw_iast, kd_32, rf_32_0, rf_32_1, rf_32_2, rf_32_3, rf_32_4, rf_32_5, rf_32_6, rf_32_7, rf_32_8, rf_32_9, rf_32_11, rf_32_12, rf_32_13, kd_71, rf_71_1, rf_71_3, rf_71_4, rf_71_5, rf_71_6, rf_71_11, rf_71_12, rf_71_14, kd_123, rf_123_1, rf_123_2, rf_123_3, rf_123_4, rf_123_5, rf_123_7, rf_123_11, rf_123_12, rf_123_15, rf_123_16, rf_123_17, rf_123_26, rf_123_29, rf_123_30, rf_123_32, rf_123_34, rf_123_35, rf_123_45, kd_125, Classical.not_not, implies_true, mk_s, mk_1, pf_at, pf_ne, b2i_T, b2i_F, false_imp_iff, true_imp_iff, ne_10, ne_01, ne_m10, ne_0m1, ne_m11, ne_1m1, false_and, and_false, p_sw, Int.reduceAdd, Int.zero_add, Option.some.injEq, Value.int.injEq, Value.long.injEq, Value.ref.injEq, exists_eq_left',  mk_I, mk_L, mk_wI, mk_wL, rf_s, rf_n, true_and, and_true, and_self, or_true, true_or, or_false, false_or, not_true_eq_false, not_false_eq_true, Option.toList_some, Option.toList_none, List.cons_append, List.nil_append, List.map_nil, List.map_cons, List.sum_nil, List.sum_cons, cat_i, cat_l, cat_r, cat_n, Nat.reduceLeDiff, Nat.reduceAdd, Nat.reduceEqDiff, Nat.zero_le, p_ent, Int32.reduceToNatClampNeg, Int32.reduceLT, Int32.reduceLE, vin_l, p_u_ne, p_u_at, reduceIte, if_true, if_false, Int32.reduceToInt, Int.zero_le_ofNat, Int.cast_ofNat_Int, Int.reduceLT, Int.reduceLE, not_false_eq_true, Same, P_ce (sp_9 _), P_ce (sp_183 _), P_ce (sp_117 _), P_ce (sp_129 _), e1, eq, eq2, e56, e2, e3]
      exact ⟨_, _, _, _, rfl, inv_force c9 H⟩
  · have e1 : b2i (-1 ≤ n ∧ n ≤ nI q - 1) = 0 := b2i_f (by
      simp only [Int32.lt_iff_toInt_lt, Int32.le_iff_toInt_le, ← Int32.toInt_inj, Int32.reduceToInt, tq, tq1] at *
      omega)
    have e2 : ¬ n = -1 := fun e => c (Or.inl e)
    have e3 : b2i (0 ≤ n ∧ n < nI q) = 0 := b2i_f (fun e => c (Or.inr e))
    simp -implicitDefEqProofs only [P_m, ↓P_run_eq _ 94 _ (p_bk 94 0), bk_94_0, pb_94_0, ↓P_run_eq _ 94 _ (p_bk 94 1), bk_94_1, pb_94_1, ↓P_run_eq _ 184 _ (p_bk 184 0), bk_184_0, pb_184_0, ↓P_run_eq _ 184 _ (p_bk 184 1), bk_184_1, pb_184_1, pw_iload_n1, pw_iconst, il_m1, pw_ceq, pw_aload_n0, pw_aloadN_n0, pw_getR, pw_iv2, pw_zne, pw_bipush, bl_m2, pw_ret0, pw_getI, pw_istore_n2, ps_2, pe_2, po_i2, po_r2, po_n2, po_u2, pw_putI, pw_iload_n2, bl_56, pw_iald, pw_iast, kd_32, rf_32_0, rf_32_1, rf_32_2, rf_32_3, rf_32_4, rf_32_5, rf_32_6, rf_32_7, rf_32_8, rf_32_9, rf_32_11, rf_32_12, rf_32_13, kd_71, rf_71_1, rf_71_3, rf_71_4, rf_71_5, rf_71_6, rf_71_11, rf_71_12, rf_71_14, kd_123, rf_123_1, rf_123_2, rf_123_3, rf_123_4, rf_123_5, rf_123_7, rf_123_11, rf_123_12, rf_123_15, rf_123_16, rf_123_17, rf_123_26, rf_123_29, rf_123_30, rf_123_32, rf_123_34, rf_123_35, rf_123_45, kd_125, Classical.not_not, implies_true, mk_s, mk_1, pf_at, pf_ne, b2i_T, b2i_F, false_imp_iff, true_imp_iff, ne_10, ne_01, ne_m10, ne_0m1, ne_m11, ne_1m1, false_and, and_false, p_sw, Int.reduceAdd, Int.zero_add, Option.some.injEq, Value.int.injEq, Value.long.injEq, Value.ref.injEq, exists_eq_left',  mk_I, mk_L, mk_wI, mk_wL, rf_s, rf_n, true_and, and_true, and_self, or_true, true_or, or_false, false_or, not_true_eq_false, not_false_eq_true, Option.toList_some, Option.toList_none, List.cons_append, List.nil_append, List.map_nil, List.map_cons, List.sum_nil, List.sum_cons, cat_i, cat_l, cat_r, cat_n, Nat.reduceLeDiff, Nat.reduceAdd, Nat.reduceEqDiff, Nat.zero_le, p_ent, Int32.reduceToNatClampNeg, Int32.reduceLT, Int32.reduceLE, vin_l, p_u_ne, p_u_at, reduceIte, if_true, if_false, Int32.reduceToInt, Int.zero_le_ofNat, Int.cast_ofNat_Int, Int.reduceLT, Int.reduceLE, not_false_eq_true, Same, P_ce (sp_9 _), P_ce (sp_183 _), P_ce (rc_2), P_ce (rm_2), e1, eq, eq2, e56, e2, e3]
    exact ⟨_, _, _, _, rfl, inv_no (-2) 2 (by decide) H⟩
end S2
