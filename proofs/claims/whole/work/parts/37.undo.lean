/-! UNDO -/
section UN
variable {d Ls : Nat} {I J : Nat → Nat → Int32} {L : Nat → Nat → Int64} {R : Nat → Nat → Option Nat} {X : List pKd} {h : pHp}
theorem sp_56 {n k : Nat} (hn : n < 17) (hk : k < 16) (e : I 80 1 = nI n) (e2 : I 80 2 = nI (k + 1)) : P_m d 56 [.ref 80, .ref 71] (p_mk Ls I L R X) (fun v h' => v = some (.int (I 81 ((n + 16) % 17 * 14))) ∧ h' = p_mk Ls (p_fn (p_u (p_u (p_u (p_u (p_u (p_u (p_u I 80 2 (nI k)) 80 1 (nI ((n + 16) % 17))) 71 7 (I 81 ((n + 16) % 17 * 14 + 1))) 71 8 (I 81 ((n + 16) % 17 * 14 + 2))) 71 9 (I 81 ((n + 16) % 17 * 14 + 3))) 78 0 (I 81 ((n + 16) % 17 * 14 + 4))) 78 2 (I 81 ((n + 16) % 17 * 14 + 5))) 76 (va_cpy (I 81) (I 76) ((n + 16) % 17 * 14 + 6) 0 8)) L R X) := by
  have e3 : n + 17 - 1 = n + 16 := by omega
  have e4 : k + 1 - 1 = k := by omega
  have e5 : (n + 16) % 17 * 14 ≤ 224 := by omega
  simp -implicitDefEqProofs (disch := first | omega | decide) only [P_m, ↓P_run_eq _ 56 _ (p_bk 56 0), bk_56_0, pb_56_0, ↓P_run_eq _ 56 _ (p_bk 56 1), bk_56_1, pb_56_1, pw_aload_n0, pw_aloadN_n0, pw_getI, pw_zne, pw_bipush, bl_m3, pw_ret0, pw_dupi, pw_dupr, pw_iconst, il_1, pw_isub, pw_putI, bl_17, pw_iadd, pw_irem, bl_14, pw_imul, pw_istore_n2, ps_2, pe_2, po_i2, po_r2, po_n2, po_u2, pw_aload_n1, pw_aloadN_n1, pw_getR, pw_iload_n2, pw_iald, il_2, il_3, il_0, il_4, pw_iast, il_5, bl_6, bl_8, pw_copy, kd_71, rf_71_1, rf_71_3, rf_71_4, rf_71_5, rf_71_6, rf_71_11, rf_71_12, rf_71_14, kd_76, kd_78, kd_80, rf_80_0, kd_81, n_0, n_1, n_2, n_3, n_4, n_5, n_6, n_8, n_14, n_17, nn_lt, nn_nlt, nn_le, nn_nle, nn_ne, nn_sub, nn_mul, nI_add, nn_neg, nm_eq, mn_eq, mm_eq, mn_lt, nm_lt, mn_le, nm_le, nn_sub0, nn_of, implies_true, nn_c, nn_in, nn_div, nat_rem, Nat.reduceMul, Nat.reduceSub, Nat.reduceDiv, Nat.reduceMod, pf_at, pf_ne, mk_s, mk_1, Classical.not_not, b2i_T, b2i_F, false_imp_iff, true_imp_iff, false_and, and_false, p_sw, Int.reduceAdd, Int.zero_add, Option.some.injEq, Value.int.injEq, Value.long.injEq, Value.ref.injEq, exists_eq_left', mk_I, mk_L, mk_wI, mk_wL, rf_s, rf_n, true_and, and_true, and_self, or_true, true_or, or_false, false_or, not_true_eq_false, not_false_eq_true, Option.toList_some, Option.toList_none, List.cons_append, List.nil_append, List.map_nil, List.map_cons, List.sum_nil, List.sum_cons, cat_i, cat_l, cat_r, cat_n, Nat.reduceLeDiff, Nat.reduceAdd, Nat.reduceEqDiff, Nat.zero_le, p_ent, p_u_ne, p_u_at, reduceIte, if_true, if_false, e, e2, e3, e4, e5]
theorem ce_56 {n k : Nat} (hn : n < 17) (hk : k < 16) {yy : Nat} {rr : List pI} {kc ks : Nat} {lls st : List Value} {Q : Option Value → pHp → Prop} (e : I 80 1 = nI n) (e2 : I 80 2 = nI (k + 1)) : P_call d yy 56 [.ref 80, .ref 71] rr kc ks lls st (p_mk Ls I L R X) Q = P_w (d + 1) yy Q rr kc ks lls ((.int (I 81 ((n + 16) % 17 * 14))) :: st) (p_mk Ls (p_fn (p_u (p_u (p_u (p_u (p_u (p_u (p_u I 80 2 (nI k)) 80 1 (nI ((n + 16) % 17))) 71 7 (I 81 ((n + 16) % 17 * 14 + 1))) 71 8 (I 81 ((n + 16) % 17 * 14 + 2))) 71 9 (I 81 ((n + 16) % 17 * 14 + 3))) 78 0 (I 81 ((n + 16) % 17 * 14 + 4))) 78 2 (I 81 ((n + 16) % 17 * 14 + 5))) 76 (va_cpy (I 81) (I 76) ((n + 16) % 17 * 14 + 6) 0 8)) L R X) := P_ce (sp_56 hn hk e e2)
theorem lp_211 {u : Nat} (hu : u < 16) (e : I 123 31 = nI u) : P_run (d + 1) 211 (p_bk 211 2) 0 0 [.ref 123, .int (nI (14 * u)), .int (nI 0)] [] (p_mk Ls I L R X) (fun v h' => v = some (.int (I 136 (14 * u + 13))) ∧ h' = p_mk Ls (p_u (p_fn I 125 (va_cpy (I 136) (I 125) (14 * u) 0 13)) 123 0 0) L R X) := by
  have loop : ∀ i, i ≤ 13 → P_run (d + 1) 211 (p_bk 211 2) 0 0 [.ref 123, .int (nI (14 * u)), .int (nI i)] [] (p_mk Ls (p_fn I 125 (va_cpy (I 136) (I 125) (14 * u) 0 i)) L R X) (fun v h' => v = some (.int (I 136 (14 * u + 13))) ∧ h' = p_mk Ls (p_u (p_fn I 125 (va_cpy (I 136) (I 125) (14 * u) 0 13)) 123 0 0) L R X) := by
    refine down_ind ?_ ?_
    · rw [P_run_eq, bk_211_2, pb_211_2]; simp -implicitDefEqProofs (disch := first | omega | decide) only [P_m, ↓P_run_eq _ 211 _ (p_bk 211 3), bk_211_3, pb_211_3, pw_iload_n2, pw_bipush, bl_13, pw_cge, pw_aload_n0, pw_aloadN_n0, pw_getR, pw_iload_n1, pw_iadd, pw_iald, pw_iast, pw_iinc_2, il_1, po_i2, po_r2, po_n2, po_u2, pw_goto, pw_iv2, pw_ret0, kd_123, rf_123_1, rf_123_2, rf_123_3, rf_123_4, rf_123_5, rf_123_7, rf_123_11, rf_123_12, rf_123_15, rf_123_16, rf_123_17, rf_123_26, rf_123_29, rf_123_30, rf_123_32, rf_123_34, rf_123_35, rf_123_45, kd_125, kd_136, n_0, n_1, n_13, nn_lt, nn_nlt, nn_le, nn_nle, nn_ne, nn_sub, nn_mul, nI_add, nn_neg, nm_eq, mn_eq, mm_eq, mn_lt, nm_lt, mn_le, nm_le, nn_sub0, nn_of, implies_true, nn_c, nn_in, nn_div, nat_rem, Nat.reduceMul, Nat.reduceSub, Nat.reduceDiv, Nat.reduceMod, pf_at, pf_ne, mk_s, mk_1, Classical.not_not, b2i_T, b2i_F, false_imp_iff, true_imp_iff, false_and, and_false, p_sw, Int.reduceAdd, Int.zero_add, Option.some.injEq, Value.int.injEq, Value.long.injEq, Value.ref.injEq, exists_eq_left', mk_I, mk_L, mk_wI, mk_wL, rf_s, rf_n, true_and, and_true, and_self, or_true, true_or, or_false, false_or, not_true_eq_false, not_false_eq_true, Option.toList_some, Option.toList_none, List.cons_append, List.nil_append, List.map_nil, List.map_cons, List.sum_nil, List.sum_cons, cat_i, cat_l, cat_r, cat_n, Nat.reduceLeDiff, Nat.reduceAdd, Nat.reduceEqDiff, Nat.zero_le, p_ent, p_u_ne, p_u_at, reduceIte, if_true, if_false, e, P_ce (sp_129 _)]
    · intro i hi ih
      have e3 := cpy_1 (f := I 136) (g := I 125) (sp := 14 * u) (dp := 0) (n := i)
      rw [Nat.zero_add] at e3
      rw [P_run_eq, bk_211_2, pb_211_2]; simp -implicitDefEqProofs (disch := first | omega | decide) only [P_m, pw_iload_n2, pw_bipush, bl_13, pw_cge, pw_aload_n0, pw_aloadN_n0, pw_getR, pw_iload_n1, pw_iadd, pw_iald, pw_iast, pw_iinc_2, il_1, po_i2, po_r2, po_n2, po_u2, pw_goto, kd_123, rf_123_1, rf_123_2, rf_123_3, rf_123_4, rf_123_5, rf_123_7, rf_123_11, rf_123_12, rf_123_15, rf_123_16, rf_123_17, rf_123_26, rf_123_29, rf_123_30, rf_123_32, rf_123_34, rf_123_35, rf_123_45, kd_125, kd_136, n_0, n_1, n_13, nn_lt, nn_nlt, nn_le, nn_nle, nn_ne, nn_sub, nn_mul, nI_add, nn_neg, nm_eq, mn_eq, mm_eq, mn_lt, nm_lt, mn_le, nm_le, nn_sub0, nn_of, implies_true, nn_c, nn_in, nn_div, nat_rem, Nat.reduceMul, Nat.reduceSub, Nat.reduceDiv, Nat.reduceMod, pf_at, pf_ne, mk_s, mk_1, Classical.not_not, b2i_T, b2i_F, false_imp_iff, true_imp_iff, false_and, and_false, p_sw, Int.reduceAdd, Int.zero_add, Option.some.injEq, Value.int.injEq, Value.long.injEq, Value.ref.injEq, exists_eq_left', mk_I, mk_L, mk_wI, mk_wL, rf_s, rf_n, true_and, and_true, and_self, or_true, true_or, or_false, false_or, not_true_eq_false, not_false_eq_true, Option.toList_some, Option.toList_none, List.cons_append, List.nil_append, List.map_nil, List.map_cons, List.sum_nil, List.sum_cons, cat_i, cat_l, cat_r, cat_n, Nat.reduceLeDiff, Nat.reduceAdd, Nat.reduceEqDiff, Nat.zero_le, p_ent, p_u_ne, p_u_at, reduceIte, if_true, if_false, e, pu_pf, e3]
      exact ih
  have := loop 0 (by omega)
  rw [cpy_0, pf_self] at this
  exact this
theorem sp_211 {u : Nat} (hu : u < 16) (e : I 123 31 = nI (u + 1)) : P_m (d + 1) 211 [.ref 123] (p_mk Ls I L R X) (fun v h' => v = some (.int (I 136 (14 * u + 13))) ∧ h' = p_mk Ls (p_u (p_fn (p_u I 123 31 (nI u)) 125 (va_cpy (I 136) (I 125) (14 * u) 0 13)) 123 0 0) L R X) := by
  have e4 : u + 1 - 1 = u := by omega
  simp -implicitDefEqProofs (disch := first | omega | decide) only [P_m, ↓P_run_eq _ 211 _ (p_bk 211 0), bk_211_0, pb_211_0, ↓P_run_eq _ 211 _ (p_bk 211 1), bk_211_1, pb_211_1, pw_aload_n0, pw_aloadN_n0, pw_getI, pw_zne, pw_bipush, bl_m3, pw_iv2, pw_ret0, pw_dupi, pw_dupr, pw_iconst, il_1, pw_isub, pw_putI, bl_14, pw_imul, pw_istore_n1, ps_1, pe_1, po_i1, po_r1, po_n1, po_u1, il_0, pw_istore_n2, ps_2, pe_2, po_i2, po_r2, po_n2, po_u2, pw_nop, kd_123, rf_123_1, rf_123_2, rf_123_3, rf_123_4, rf_123_5, rf_123_7, rf_123_11, rf_123_12, rf_123_15, rf_123_16, rf_123_17, rf_123_26, rf_123_29, rf_123_30, rf_123_32, rf_123_34, rf_123_35, rf_123_45, n_0, n_1, n_14, nn_lt, nn_nlt, nn_le, nn_nle, nn_ne, nn_sub, nn_mul, nI_add, nn_neg, nm_eq, mn_eq, mm_eq, mn_lt, nm_lt, mn_le, nm_le, nn_sub0, nn_of, implies_true, nn_c, nn_in, nn_div, nat_rem, Nat.reduceMul, Nat.reduceSub, Nat.reduceDiv, Nat.reduceMod, pf_at, pf_ne, mk_s, mk_1, Classical.not_not, b2i_T, b2i_F, false_imp_iff, true_imp_iff, false_and, and_false, p_sw, Int.reduceAdd, Int.zero_add, Option.some.injEq, Value.int.injEq, Value.long.injEq, Value.ref.injEq, exists_eq_left', mk_I, mk_L, mk_wI, mk_wL, rf_s, rf_n, true_and, and_true, and_self, or_true, true_or, or_false, false_or, not_true_eq_false, not_false_eq_true, Option.toList_some, Option.toList_none, List.cons_append, List.nil_append, List.map_nil, List.map_cons, List.sum_nil, List.sum_cons, cat_i, cat_l, cat_r, cat_n, Nat.reduceLeDiff, Nat.reduceAdd, Nat.reduceEqDiff, Nat.zero_le, p_ent, p_u_ne, p_u_at, reduceIte, if_true, if_false, e, e4]
  exact lp_211 (I := p_u I 123 31 (nI u)) hu rfl
theorem ce_211 {u : Nat} (hu : u < 16) {yy : Nat} {rr : List pI} {kc ks : Nat} {lls st : List Value} {Q : Option Value → pHp → Prop} (e : I 123 31 = nI (u + 1)) : P_call (d + 1) yy 211 [.ref 123] rr kc ks lls st (p_mk Ls I L R X) Q = P_w ((d + 1) + 1) yy Q rr kc ks lls ((.int (I 136 (14 * u + 13))) :: st) (p_mk Ls (p_u (p_fn (p_u I 123 31 (nI u)) 125 (va_cpy (I 136) (I 125) (14 * u) 0 13)) 123 0 0) L R X) := P_ce (sp_211 hu e)
theorem Inv_undo {n j : Nat} (H : Inv I R X) (hp : pastRel n (j + 1) (I 81) (I 136) (I 125)) (fr : ∀ a, kcell a → J a = I a) (e1 : J 32 10 = I 32 10) (e2 : J 123 46 = I 123 46) (e3 : J 123 13 = I 123 13) (hC : invC J)
    (j81 : J 81 = I 81) (j136 : J 136 = I 136) (j80 : J 80 1 = nI ((n + 16) % 17)) (j802 : J 80 2 = nI j) (j123 : J 123 31 = nI j)
    (j717 : J 71 7 = I 81 ((n + 16) % 17 * 14 + 1)) (j718 : J 71 8 = I 81 ((n + 16) % 17 * 14 + 2)) (j719 : J 71 9 = I 81 ((n + 16) % 17 * 14 + 3)) (j780 : J 78 0 = I 81 ((n + 16) % 17 * 14 + 4)) (j782 : J 78 2 = I 81 ((n + 16) % 17 * 14 + 5)) (j76 : J 76 = va_cpy (I 81) (I 76) ((n + 16) % 17 * 14 + 6) 0 8)
    (j71 : ∀ q, q ≠ 7 → q ≠ 8 → q ≠ 9 → J 71 q = I 71 q) (j781 : J 78 1 = I 78 1) (jc : ∀ b, 71 < b → b < 78 → b ≠ 76 → J b = I b) (j125 : J 125 = va_cpy (I 136) (I 125) (14 * j) 0 13) : Inv J R X := by
  obtain ⟨r, rv⟩ := hp.2.2 j (by omega)
  have hn := hp.1
  have hk := hp.2.1
  rw [show (n + 17 - (j + 1) + j) % 17 = (n + 16) % 17 by omega, show 14 * ((n + 16) % 17) = (n + 16) % 17 * 14 by omega] at r
  have cls : ∀ k, k < 57 → 13 ≤ k → da k ≠ 5 ∧ (da k = 0 → ix k ≠ 7 ∧ ix k ≠ 8 ∧ ix k ≠ 9) ∧ (da k = 7 → ix k = 1) := by decide
  have cy : ∀ q, q < 13 → J 125 q = I 136 (14 * j + q) := fun q hq => by rw [j125]; unfold va_cpy; rw [if_pos (by omega)]; rfl
  have cz : ∀ q, 13 ≤ q → J 125 q = I 125 q := fun q hq => by rw [j125]; unfold va_cpy; rw [if_neg (by omega)]
  obtain ⟨r1, r2, r3, r4, r5, r6, r7⟩ := r
  obtain ⟨w1, w2, w3, w4, w5, w6, w7⟩ := rv
  have hR := H.2.2.2.2.2.2.1.1
  have hV := vld_iff.mp H.2.2.2.2.2.2.2
  refine Inv_mv2 H fr e1 e2 e3 hC ⟨(n + 16) % 17, j, j80, j802, j123, by omega, by omega, fun i hi => ?_⟩ ?_ ?_ ?_ ?_
  · have := hp.2.2 i (by omega)
    rw [show ((n + 16) % 17 + 17 - j + i) % 17 = (n + 17 - (j + 1) + i) % 17 by omega, j81, j136]
    exact ⟨this.1, rowVld_c (K := I 125) (cz 52 (by omega)) (fun _ _ => rfl) this.2⟩
  · intro k hk
    by_cases hk13 : k < 13
    · rw [cy k hk13]
      have : k = 0 ∨ k = 1 ∨ k = 2 ∨ k = 3 ∨ k = 4 ∨ 5 ≤ k := by omega
      rcases this with rfl | rfl | rfl | rfl | rfl | h5
      · exact j718.trans r3
      · exact j719.trans r4
      · exact j782.trans r6
      · exact j780.trans r5
      · exact j717.trans r2
      · obtain ⟨i, rfl⟩ : ∃ i, k = 5 + i := ⟨k - 5, by omega⟩
        have hi : i < 8 := by omega
        rw [(da_5 i hi).1, (da_5 i hi).2]
        have := r7 i hi
        rw [Nat.add_assoc (14 * j)] at this
        rw [← this, j76]
        unfold va_cpy
        rw [if_pos (by omega)]
        rfl
    · have c := cls k hk (by omega)
      have hd := da_le k hk
      rw [cz k (by omega), ← hR k hk]
      have : da k = 0 ∨ da k = 7 ∨ (da k ≠ 0 ∧ da k ≠ 7 ∧ da k ≠ 5) := by omega
      rcases this with e | e | e
      · have := c.2.1 e
        rw [e]
        exact j71 _ this.1 this.2.1 this.2.2
      · have := c.2.2 e
        rw [e, this]
        exact j781
      · rw [jc _ (by omega) (by omega) (by omega)]
  · refine vld_iff.mpr ⟨fun k k1 k2 k3 => ?_, ?_, ?_, ?_⟩
    · by_cases hk13 : k < 13
      · rw [cy k hk13]
        have : k = 1 ∨ k = 2 ∨ k = 3 ∨ 5 ≤ k := by omega
        rcases this with rfl | rfl | rfl | h5
        · exact w4
        · exact w6
        · exact w5
        · obtain ⟨i, rfl⟩ : ∃ i, k = 5 + i := ⟨k - 5, by omega⟩
          have := w7 i (by omega)
          rw [Nat.add_assoc] at this
          rw [mx_5 i (by omega)]
          exact this
      · rw [cz k (by omega)]; exact hV.1 k k1 k2 k3
    · rw [cy 4 (by omega), cz 52 (by omega)]; exact w2
    · rw [cy 0 (by omega), cz 52 (by omega)]; exact w3
    · rw [cz 56 (by omega), cz 55 (by omega)]; exact hV.2.2.2
  · intro k k1 k2
    exact cz k (by omega)
  · exact cz 55 (by omega)
theorem q_undo (H : Inv I R X) : Same (d + 3) 99 211 [] Ls (p_mk Ls I L R X) := by
  obtain ⟨n, k, u1, u2, u3, u4⟩ := H.2.2.2.1
  have hn := u4.1
  have hk := u4.2.1
  have h2 := H.2.1
  rcases Nat.eq_zero_or_pos k with rfl | hk0
  · have u2 : I 80 2 = 0 := u2
    have u3 : I 123 31 = 0 := u3
    simp -implicitDefEqProofs only [P_m, ↓P_run_eq _ 99 _ (p_bk 99 0), bk_99_0, pb_99_0, ↓P_run_eq _ 56 _ (p_bk 56 0), bk_56_0, pb_56_0, ↓P_run_eq _ 211 _ (p_bk 211 0), bk_211_0, pb_211_0, pw_aload_n0, pw_aloadN_n0, pw_getR, pw_iv2, pw_ret0, pw_getI, pw_zne, pw_bipush, bl_m3, kd_32, rf_32_0, rf_32_1, rf_32_2, rf_32_3, rf_32_4, rf_32_5, rf_32_6, rf_32_7, rf_32_8, rf_32_9, rf_32_11, rf_32_12, rf_32_13, kd_80, rf_80_0, kd_123, rf_123_1, rf_123_2, rf_123_3, rf_123_4, rf_123_5, rf_123_7, rf_123_11, rf_123_12, rf_123_15, rf_123_16, rf_123_17, rf_123_26, rf_123_29, rf_123_30, rf_123_32, rf_123_34, rf_123_35, rf_123_45, Classical.not_not, implies_true, mk_s, mk_1, pf_at, pf_ne, b2i_T, b2i_F, false_imp_iff, true_imp_iff, ne_10, ne_01, ne_m10, ne_0m1, ne_m11, ne_1m1, false_and, and_false, p_sw, Int.reduceAdd, Int.zero_add, Option.some.injEq, Value.int.injEq, Value.long.injEq, Value.ref.injEq, exists_eq_left',  mk_I, mk_L, mk_wI, mk_wL, rf_s, rf_n, true_and, and_true, and_self, or_true, true_or, or_false, false_or, not_true_eq_false, not_false_eq_true, Option.toList_some, Option.toList_none, List.cons_append, List.nil_append, List.map_nil, List.map_cons, List.sum_nil, List.sum_cons, cat_i, cat_l, cat_r, cat_n, Nat.reduceLeDiff, Nat.reduceAdd, Nat.reduceEqDiff, Nat.zero_le, p_ent, Int32.reduceToNatClampNeg, Int32.reduceLT, Int32.reduceLE, vin_l, p_u_ne, p_u_at, reduceIte, if_true, if_false, Int32.reduceToInt, Int.zero_le_ofNat, Int.cast_ofNat_Int, Int.reduceLT, Int.reduceLE, not_false_eq_true, Same, P_inl (z := 56) (vs := [.ref _, .ref _]), u2, u3, P_ce (sp_118_3), P_ce (rm_3)]
    exact ⟨_, _, _, _, rfl, inv_no (-3) 3 (by decide) H⟩
  · obtain ⟨j, rfl⟩ : ∃ j, k = j + 1 := ⟨k - 1, by omega⟩
    obtain ⟨r, rv⟩ := u4.2.2 j (by omega)
    rw [show (n + 17 - (j + 1) + j) % 17 = (n + 16) % 17 by omega, show 14 * ((n + 16) % 17) = (n + 16) % 17 * 14 by omega] at r
    have g1 : 0 ≤ I 136 (14 * j + 13) := by obtain ⟨x, hx, ex⟩ := rv.1; rw [ex]; exact nI_pos' (by omega)
    have ra := r.1
    simp -implicitDefEqProofs only [P_m, ↓P_run_eq _ 99 _ (p_bk 99 0), bk_99_0, pb_99_0, pw_aload_n0, pw_aloadN_n0, pw_getR, pw_iv2, pw_ret0, kd_32, rf_32_0, rf_32_1, rf_32_2, rf_32_3, rf_32_4, rf_32_5, rf_32_6, rf_32_7, rf_32_8, rf_32_9, rf_32_11, rf_32_12, rf_32_13, kd_80, rf_80_0, Classical.not_not, implies_true, mk_s, mk_1, pf_at, pf_ne, b2i_T, b2i_F, false_imp_iff, true_imp_iff, ne_10, ne_01, ne_m10, ne_0m1, ne_m11, ne_1m1, false_and, and_false, p_sw, Int.reduceAdd, Int.zero_add, Option.some.injEq, Value.int.injEq, Value.long.injEq, Value.ref.injEq, exists_eq_left',  mk_I, mk_L, mk_wI, mk_wL, rf_s, rf_n, true_and, and_true, and_self, or_true, true_or, or_false, false_or, not_true_eq_false, not_false_eq_true, Option.toList_some, Option.toList_none, List.cons_append, List.nil_append, List.map_nil, List.map_cons, List.sum_nil, List.sum_cons, cat_i, cat_l, cat_r, cat_n, Nat.reduceLeDiff, Nat.reduceAdd, Nat.reduceEqDiff, Nat.zero_le, p_ent, Int32.reduceToNatClampNeg, Int32.reduceLT, Int32.reduceLE, vin_l, p_u_ne, p_u_at, reduceIte, if_true, if_false, Int32.reduceToInt, Int.zero_le_ofNat, Int.cast_ofNat_Int, Int.reduceLT, Int.reduceLE, not_false_eq_true, Same, ce_56 hn (show j < 16 by omega), u1, u2, u3, ra, P_ce (sp_118g _ g1)]
    refine p_run_Q (sp_211 (u := j) (by omega) u3) ?_
    rintro _ _ ⟨rfl, rfl⟩
    refine ⟨rfl, _, _, _, _, rfl, ?_⟩
    refine Inv_undo H u4 ?_ rfl rfl rfl ⟨h2.1, rfl, h2.2.2.1, h2.2.2.2.1, h2.2.2.2.2⟩ rfl rfl rfl rfl rfl rfl rfl rfl rfl rfl rfl ?_ rfl ?_ rfl
    · intro b hb
      unfold kcell at hb
      simp (disch := omega) only [p_u_ne, pf_ne]
    · intro q q1 q2 q3
      simp (disch := omega) only [p_u_ne, pf_ne, p_u_at, if_neg q1, if_neg q2, if_neg q3]
    · intro b b1 b2 b3
      simp (disch := omega) only [p_u_ne, pf_ne]
end UN
