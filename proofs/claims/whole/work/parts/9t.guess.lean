section GZ
variable {d Ls : Nat} {I : Nat → Nat → Int32} {L : Nat → Nat → Int64} {R : Nat → Nat → Option Nat} {X : List pKd} {h : pHp} {c : Option (List tCl)} {K : Nat → Int32}
theorem Inv_V {J : Nat → Nat → Int32} {r : Option Nat} (H : Inv I R X) (h : frV I J) : Inv J (layR R r) X := by
  refine Inv_R (Inv_sc H (fun a ha => ?_) (fun k _ => by rw [h 32 (by omega) (by omega) (by omega) (by omega) (by omega) (by omega)]) (fun k _ => by rw [h 123 (by omega) (by omega) (by omega) (by omega) (by omega) (by omega)])) (fun a ha => layR_ne (by omega))
  unfold kcell at ha
  exact h a (by omega) (by omega) (by omega) (by omega) (by omega) (by omega)
theorem Inv_W {J : Nat → Nat → Int32} (H : Inv I R X) (h : frW I J) : Inv J R X := by
  refine Inv_sc H (fun a ha => ?_) (fun k _ => by rw [h.1 32 (by omega) (by omega) (by omega) (by omega)]) (fun k hk => h.2 k (by omega) (by omega) (by omega) (by omega))
  unfold kcell at ha
  exact h.1 a (by omega) (by omega) (by omega) (by omega)
theorem rng_n {x : Int32} {M : Nat} (hM : M < 2147483648) (h : nI 0 ≤ x ∧ x ≤ nI M) : ∃ k, k ≤ M ∧ x = nI k := by
  obtain ⟨k, hk, rfl⟩ := nI_of (x := x) (Int32.not_lt.mpr h.1)
  have h2 := h.2
  rw [Int32.le_iff_toInt_le, nI_toInt hk, nI_toInt hM] at h2
  exact ⟨k, by omega, rfl⟩
theorem rng_o {x : Int32} {M : Nat} (h : ¬ (nI 0 ≤ x ∧ x ≤ nI M)) : x < nI 0 ∨ (¬ x < nI 0 ∧ nI M < x) := by
  by_cases c : x < nI 0
  · exact Or.inl c
  · exact Or.inr ⟨c, Int32.not_le.mp (fun h2 => h ⟨Int32.not_lt.mp c, h2⟩)⟩
theorem q_guess (x z w y : Int32) (H : Inv I R X) : Same (d + 60) 107 247 [.int x, .int z, .int w, .int y] Ls (p_mk Ls I L R X) := by
  obtain ⟨c, hx⟩ := Inv_cx (Ls := Ls) H
  have hV := hx.2.2.1
  have h9 : I 1 2 = nI 9999 := H.1.2.1.2.2
  have s1 := sp_125 (d := d + 59) (h := p_mk Ls I L R X) x (nI 0) (nI 9999)
  have s2 := sp_125 (d := d + 59) (h := p_mk Ls I L R X) z (nI 0) (nI 3)
  unfold Same
  by_cases h1 : nI 0 ≤ x ∧ x ≤ nI 9999
  · rw [show b2i (nI 0 ≤ x ∧ x ≤ nI 9999) = nI 1 from b2i_t h1] at s1
    obtain ⟨a, ha, rfl⟩ := rng_n (by omega) h1
    by_cases h2 : nI 0 ≤ z ∧ z ≤ nI 3
    · rw [show b2i (nI 0 ≤ z ∧ z ≤ nI 3) = nI 1 from b2i_t h2] at s2
      obtain ⟨k, hk, rfl⟩ := rng_n (by omega) h2
      by_cases h3 : w < mI 1
      · have le1 : ¬ mI 1 ≤ w := Int32.not_le.mpr h3
        simp -implicitDefEqProofs (disch := first | omega | decide) only [P_m, ↓P_run_eq _ 107 _ (p_bk 107 0), bk_107_0, pb_107_0, ↓P_run_eq _ 107 _ (p_bk 107 1), bk_107_1, pb_107_1, ↓P_run_eq _ 247 _ (p_bk 247 0), bk_247_0, pb_247_0, ↓P_run_eq _ 247 _ (p_bk 247 1), bk_247_1, pb_247_1, pw_iload_n1, pw_zlt, pw_getsR, pw_iconst, il_2, pw_iald, pw_cgt, pw_iload_n2, il_3, pw_iload_n3, il_m1, pw_cge, pw_nop, pw_ret0, il_0, pw_sipush, sl_9999, pw_is3, pw_zeq, pw_clt, pw_cle, pw_iload_4, il_1, pw_isub, pw_zne, kd_1, rf_30_1, rf_30_2, kd_32, rf_32_0, rf_32_1, rf_32_2, rf_32_3, rf_32_4, rf_32_5, rf_32_6, rf_32_7, rf_32_8, rf_32_9, rf_32_11, rf_32_12, rf_32_13, kd_123, rf_123_1, rf_123_2, rf_123_3, rf_123_4, rf_123_5, rf_123_7, rf_123_11, rf_123_12, rf_123_15, rf_123_16, rf_123_17, rf_123_26, rf_123_29, rf_123_30, rf_123_32, rf_123_34, rf_123_35, rf_123_45, n_0, n_1, n_2, n_3, n_9999, nn_lt, nn_nlt, nn_le, nn_nle, nn_ne, nn_sub, nn_mul, nI_add, nn_neg, nm_eq, mn_eq, mm_eq, mn_lt, nm_lt, mn_le, nm_le, nn_sub0, nn_of, implies_true, nn_c, nn_in, nn_div, nat_rem, Nat.reduceMul, Nat.reduceSub, Nat.reduceDiv, Nat.reduceMod, pf_at, pf_ne, mk_s, mk_1, Classical.not_not, b2i_T, b2i_F, false_imp_iff, true_imp_iff, false_and, and_false, p_sw, Int.reduceAdd, Int.zero_add, Option.some.injEq, Value.int.injEq, Value.long.injEq, Value.ref.injEq, exists_eq_left', mk_I, mk_L, mk_wI, mk_wL, rf_s, rf_n, true_and, and_true, and_self, or_true, true_or, or_false, false_or, not_true_eq_false, not_false_eq_true, Option.toList_some, Option.toList_none, List.cons_append, List.nil_append, List.map_nil, List.map_cons, List.sum_nil, List.sum_cons, cat_i, cat_l, cat_r, cat_n, Nat.reduceLeDiff, Nat.reduceAdd, Nat.reduceEqDiff, Nat.zero_le, p_ent, p_u_ne, p_u_at, reduceIte, if_true, if_false, h9, h3, le1, P_ce s1, P_ce s2]
        exact ⟨_, _, _, _, rfl, H⟩
      · by_cases good : ∃ v : Option Nat, w = pnI v ∧ ∀ i, v = some i → i < 2147483648 ∧ ∃ j, j < k ∧ y = nI j
        · obtain ⟨v, rfl, hv⟩ := good
          obtain ⟨J, f1, sc⟩ := c_107 (d := d + 47) (L := L) hx h9 ha hk hv
          refine p_run_Q sc ?_
          rintro _ _ ⟨rfl, rfl⟩
          refine ⟨_, rfl, ?_⟩
          have H1 := Inv_V (r := fRef R 71 (I 125)) H f1
          have e125 : J 125 = I 125 := f1 125 (by omega) (by omega) (by omega) (by omega) (by omega) (by omega)
          obtain ⟨J2, f2, sr⟩ := r_247 (d := d + 9) (Ls := Ls) (I := J) (L := L) (R := layR R (fRef R 71 (I 125))) (X := X) (c := c) (a := a) (k := k) (w := v) (y := y) (by rw [e125]; exact hV) (by rw [e125]; exact hx.2.2.2.1) ha hk hv
          rw [e125] at sr
          refine p_run_Q sr ?_
          rintro _ _ ⟨rfl, rfl⟩
          exact ⟨rfl, _, _, _, _, rfl, Inv_W H1 f2⟩
        · have w0 : ¬ w < nI 0 := fun hh => good ⟨none, by
            show w = mI 1
            rw [Int32.lt_iff_toInt_lt] at h3 hh
            refine Int32.toInt_inj.mp ?_
            rw [show (mI 1).toInt = -1 from by decide] at *
            rw [show (nI 0).toInt = 0 from by decide] at hh
            omega, fun i hi => by cases hi⟩
          obtain ⟨i, hi, rfl⟩ := nI_of w0
          have yo : y < nI 0 ∨ (¬ y < nI 0 ∧ ∃ j, y = nI j ∧ k ≤ j ∧ j < 2147483648) := by
            by_cases c0 : y < nI 0
            · exact Or.inl c0
            · obtain ⟨j, hj, rfl⟩ := nI_of c0
              exact Or.inr ⟨c0, j, rfl, Nat.not_lt.mp (fun hl => good ⟨some i, rfl, fun i' hi' => by cases hi'; exact ⟨by omega, j, hl, rfl⟩⟩), by omega⟩
          have s3 := sp_125 (d := d + 59) (h := p_mk Ls I L R X) y (nI 0) (nI k - nI 1)
          have nin : ¬ (nI 0 ≤ y ∧ y ≤ nI k - nI 1) := by
            rintro ⟨a1, a2⟩
            rcases yo with c1 | ⟨-, j, rfl, c1, c2⟩
            · exact absurd c1 (Int32.not_lt.mpr a1)
            · rcases Nat.eq_zero_or_pos k with q | q
              · rw [q, show nI 0 - nI 1 = mI 1 from by decide, Int32.le_iff_toInt_le, nI_toInt (by omega), show (mI 1).toInt = -1 from by decide] at a2
                omega
              · rw [nn_sub q, Int32.le_iff_toInt_le, nI_toInt (by omega), nI_toInt (by omega)] at a2
                omega
          rw [show b2i (nI 0 ≤ y ∧ y ≤ nI k - nI 1) = nI 0 from b2i_f nin] at s3
          clear nin good h2 h1
          generalize hU : nI k - nI 1 = U at s3
          rcases yo with c1 | ⟨c0, j, rfl, c1, c2⟩
          · simp -implicitDefEqProofs (disch := first | omega | decide) only [P_m, ↓P_run_eq _ 107 _ (p_bk 107 0), bk_107_0, pb_107_0, ↓P_run_eq _ 107 _ (p_bk 107 2), bk_107_2, pb_107_2, ↓P_run_eq _ 107 _ (p_bk 107 3), bk_107_3, pb_107_3, ↓P_run_eq _ 247 _ (p_bk 247 0), bk_247_0, pb_247_0, ↓P_run_eq _ 247 _ (p_bk 247 1), bk_247_1, pb_247_1, pw_iload_n1, pw_zlt, pw_getsR, pw_iconst, il_2, pw_iald, pw_cgt, pw_iload_n2, il_3, pw_iload_n3, il_m1, pw_cge, pw_nop, pw_ceq, pw_iload_4, pw_clt, pw_ret0, il_0, pw_sipush, sl_9999, pw_is3, pw_zeq, pw_cle, il_1, pw_isub, pw_zne, kd_1, rf_30_1, rf_30_2, kd_32, rf_32_0, rf_32_1, rf_32_2, rf_32_3, rf_32_4, rf_32_5, rf_32_6, rf_32_7, rf_32_8, rf_32_9, rf_32_11, rf_32_12, rf_32_13, kd_123, rf_123_1, rf_123_2, rf_123_3, rf_123_4, rf_123_5, rf_123_7, rf_123_11, rf_123_12, rf_123_15, rf_123_16, rf_123_17, rf_123_26, rf_123_29, rf_123_30, rf_123_32, rf_123_34, rf_123_35, rf_123_45, n_0, n_1, n_2, n_3, n_9999, nn_lt, nn_nlt, nn_le, nn_nle, nn_ne, nn_sub, nn_mul, nI_add, nn_neg, nm_eq, mn_eq, mm_eq, mn_lt, nm_lt, mn_le, nm_le, nn_sub0, nn_of, implies_true, nn_c, nn_in, nn_div, nat_rem, Nat.reduceMul, Nat.reduceSub, Nat.reduceDiv, Nat.reduceMod, pf_at, pf_ne, mk_s, mk_1, Classical.not_not, b2i_T, b2i_F, false_imp_iff, true_imp_iff, false_and, and_false, p_sw, Int.reduceAdd, Int.zero_add, Option.some.injEq, Value.int.injEq, Value.long.injEq, Value.ref.injEq, exists_eq_left', mk_I, mk_L, mk_wI, mk_wL, rf_s, rf_n, true_and, and_true, and_self, or_true, true_or, or_false, false_or, not_true_eq_false, not_false_eq_true, Option.toList_some, Option.toList_none, List.cons_append, List.nil_append, List.map_nil, List.map_cons, List.sum_nil, List.sum_cons, cat_i, cat_l, cat_r, cat_n, Nat.reduceLeDiff, Nat.reduceAdd, Nat.reduceEqDiff, Nat.zero_le, p_ent, p_u_ne, p_u_at, reduceIte, if_true, if_false, h9, c1, hU, P_ce s1, P_ce s2, P_ce s3]
            exact ⟨_, _, _, _, rfl, H⟩
          · simp -implicitDefEqProofs (disch := first | omega | decide) only [P_m, ↓P_run_eq _ 107 _ (p_bk 107 0), bk_107_0, pb_107_0, ↓P_run_eq _ 107 _ (p_bk 107 2), bk_107_2, pb_107_2, ↓P_run_eq _ 107 _ (p_bk 107 3), bk_107_3, pb_107_3, ↓P_run_eq _ 247 _ (p_bk 247 0), bk_247_0, pb_247_0, ↓P_run_eq _ 247 _ (p_bk 247 1), bk_247_1, pb_247_1, pw_iload_n1, pw_zlt, pw_getsR, pw_iconst, il_2, pw_iald, pw_cgt, pw_iload_n2, il_3, pw_iload_n3, il_m1, pw_cge, pw_nop, pw_ceq, pw_iload_4, pw_clt, pw_ret0, il_0, pw_sipush, sl_9999, pw_is3, pw_zeq, pw_cle, il_1, pw_isub, pw_zne, kd_1, rf_30_1, rf_30_2, kd_32, rf_32_0, rf_32_1, rf_32_2, rf_32_3, rf_32_4, rf_32_5, rf_32_6, rf_32_7, rf_32_8, rf_32_9, rf_32_11, rf_32_12, rf_32_13, kd_123, rf_123_1, rf_123_2, rf_123_3, rf_123_4, rf_123_5, rf_123_7, rf_123_11, rf_123_12, rf_123_15, rf_123_16, rf_123_17, rf_123_26, rf_123_29, rf_123_30, rf_123_32, rf_123_34, rf_123_35, rf_123_45, n_0, n_1, n_2, n_3, n_9999, nn_lt, nn_nlt, nn_le, nn_nle, nn_ne, nn_sub, nn_mul, nI_add, nn_neg, nm_eq, mn_eq, mm_eq, mn_lt, nm_lt, mn_le, nm_le, nn_sub0, nn_of, implies_true, nn_c, nn_in, nn_div, nat_rem, Nat.reduceMul, Nat.reduceSub, Nat.reduceDiv, Nat.reduceMod, pf_at, pf_ne, mk_s, mk_1, Classical.not_not, b2i_T, b2i_F, false_imp_iff, true_imp_iff, false_and, and_false, p_sw, Int.reduceAdd, Int.zero_add, Option.some.injEq, Value.int.injEq, Value.long.injEq, Value.ref.injEq, exists_eq_left', mk_I, mk_L, mk_wI, mk_wL, rf_s, rf_n, true_and, and_true, and_self, or_true, true_or, or_false, false_or, not_true_eq_false, not_false_eq_true, Option.toList_some, Option.toList_none, List.cons_append, List.nil_append, List.map_nil, List.map_cons, List.sum_nil, List.sum_cons, cat_i, cat_l, cat_r, cat_n, Nat.reduceLeDiff, Nat.reduceAdd, Nat.reduceEqDiff, Nat.zero_le, p_ent, p_u_ne, p_u_at, reduceIte, if_true, if_false, h9, hU, P_ce s1, P_ce s2, P_ce s3]
            exact ⟨_, _, _, _, rfl, H⟩
    · rw [show b2i (nI 0 ≤ z ∧ z ≤ nI 3) = nI 0 from b2i_f h2] at s2
      rcases rng_o h2 with c1 | ⟨c1, c2⟩
      · simp -implicitDefEqProofs (disch := first | omega | decide) only [P_m, ↓P_run_eq _ 107 _ (p_bk 107 0), bk_107_0, pb_107_0, ↓P_run_eq _ 107 _ (p_bk 107 1), bk_107_1, pb_107_1, ↓P_run_eq _ 247 _ (p_bk 247 0), bk_247_0, pb_247_0, ↓P_run_eq _ 247 _ (p_bk 247 1), bk_247_1, pb_247_1, pw_iload_n1, pw_zlt, pw_getsR, pw_iconst, il_2, pw_iald, pw_cgt, pw_iload_n2, il_3, pw_iload_n3, il_m1, pw_cge, pw_nop, pw_ret0, il_0, pw_sipush, sl_9999, pw_is3, pw_zeq, pw_clt, pw_cle, pw_iload_4, il_1, pw_isub, pw_zne, kd_1, rf_30_1, rf_30_2, kd_32, rf_32_0, rf_32_1, rf_32_2, rf_32_3, rf_32_4, rf_32_5, rf_32_6, rf_32_7, rf_32_8, rf_32_9, rf_32_11, rf_32_12, rf_32_13, kd_123, rf_123_1, rf_123_2, rf_123_3, rf_123_4, rf_123_5, rf_123_7, rf_123_11, rf_123_12, rf_123_15, rf_123_16, rf_123_17, rf_123_26, rf_123_29, rf_123_30, rf_123_32, rf_123_34, rf_123_35, rf_123_45, n_0, n_1, n_2, n_3, n_9999, nn_lt, nn_nlt, nn_le, nn_nle, nn_ne, nn_sub, nn_mul, nI_add, nn_neg, nm_eq, mn_eq, mm_eq, mn_lt, nm_lt, mn_le, nm_le, nn_sub0, nn_of, implies_true, nn_c, nn_in, nn_div, nat_rem, Nat.reduceMul, Nat.reduceSub, Nat.reduceDiv, Nat.reduceMod, pf_at, pf_ne, mk_s, mk_1, Classical.not_not, b2i_T, b2i_F, false_imp_iff, true_imp_iff, false_and, and_false, p_sw, Int.reduceAdd, Int.zero_add, Option.some.injEq, Value.int.injEq, Value.long.injEq, Value.ref.injEq, exists_eq_left', mk_I, mk_L, mk_wI, mk_wL, rf_s, rf_n, true_and, and_true, and_self, or_true, true_or, or_false, false_or, not_true_eq_false, not_false_eq_true, Option.toList_some, Option.toList_none, List.cons_append, List.nil_append, List.map_nil, List.map_cons, List.sum_nil, List.sum_cons, cat_i, cat_l, cat_r, cat_n, Nat.reduceLeDiff, Nat.reduceAdd, Nat.reduceEqDiff, Nat.zero_le, p_ent, p_u_ne, p_u_at, reduceIte, if_true, if_false, h9, c1, P_ce s1, P_ce s2]
        exact ⟨_, _, _, _, rfl, H⟩
      · simp -implicitDefEqProofs (disch := first | omega | decide) only [P_m, ↓P_run_eq _ 107 _ (p_bk 107 0), bk_107_0, pb_107_0, ↓P_run_eq _ 107 _ (p_bk 107 1), bk_107_1, pb_107_1, ↓P_run_eq _ 247 _ (p_bk 247 0), bk_247_0, pb_247_0, ↓P_run_eq _ 247 _ (p_bk 247 1), bk_247_1, pb_247_1, pw_iload_n1, pw_zlt, pw_getsR, pw_iconst, il_2, pw_iald, pw_cgt, pw_iload_n2, il_3, pw_iload_n3, il_m1, pw_cge, pw_nop, pw_ret0, il_0, pw_sipush, sl_9999, pw_is3, pw_zeq, pw_clt, pw_cle, pw_iload_4, il_1, pw_isub, pw_zne, kd_1, rf_30_1, rf_30_2, kd_32, rf_32_0, rf_32_1, rf_32_2, rf_32_3, rf_32_4, rf_32_5, rf_32_6, rf_32_7, rf_32_8, rf_32_9, rf_32_11, rf_32_12, rf_32_13, kd_123, rf_123_1, rf_123_2, rf_123_3, rf_123_4, rf_123_5, rf_123_7, rf_123_11, rf_123_12, rf_123_15, rf_123_16, rf_123_17, rf_123_26, rf_123_29, rf_123_30, rf_123_32, rf_123_34, rf_123_35, rf_123_45, n_0, n_1, n_2, n_3, n_9999, nn_lt, nn_nlt, nn_le, nn_nle, nn_ne, nn_sub, nn_mul, nI_add, nn_neg, nm_eq, mn_eq, mm_eq, mn_lt, nm_lt, mn_le, nm_le, nn_sub0, nn_of, implies_true, nn_c, nn_in, nn_div, nat_rem, Nat.reduceMul, Nat.reduceSub, Nat.reduceDiv, Nat.reduceMod, pf_at, pf_ne, mk_s, mk_1, Classical.not_not, b2i_T, b2i_F, false_imp_iff, true_imp_iff, false_and, and_false, p_sw, Int.reduceAdd, Int.zero_add, Option.some.injEq, Value.int.injEq, Value.long.injEq, Value.ref.injEq, exists_eq_left', mk_I, mk_L, mk_wI, mk_wL, rf_s, rf_n, true_and, and_true, and_self, or_true, true_or, or_false, false_or, not_true_eq_false, not_false_eq_true, Option.toList_some, Option.toList_none, List.cons_append, List.nil_append, List.map_nil, List.map_cons, List.sum_nil, List.sum_cons, cat_i, cat_l, cat_r, cat_n, Nat.reduceLeDiff, Nat.reduceAdd, Nat.reduceEqDiff, Nat.zero_le, p_ent, p_u_ne, p_u_at, reduceIte, if_true, if_false, h9, c1, c2, P_ce s1, P_ce s2]
        exact ⟨_, _, _, _, rfl, H⟩
  · rw [show b2i (nI 0 ≤ x ∧ x ≤ nI 9999) = nI 0 from b2i_f h1] at s1
    rcases rng_o h1 with c1 | ⟨c1, c2⟩
    · simp -implicitDefEqProofs (disch := first | omega | decide) only [P_m, ↓P_run_eq _ 107 _ (p_bk 107 0), bk_107_0, pb_107_0, ↓P_run_eq _ 107 _ (p_bk 107 1), bk_107_1, pb_107_1, ↓P_run_eq _ 247 _ (p_bk 247 0), bk_247_0, pb_247_0, ↓P_run_eq _ 247 _ (p_bk 247 1), bk_247_1, pb_247_1, pw_iload_n1, pw_zlt, pw_getsR, pw_iconst, il_2, pw_iald, pw_cgt, pw_iload_n2, il_3, pw_iload_n3, il_m1, pw_cge, pw_nop, pw_ret0, il_0, pw_sipush, sl_9999, pw_is3, pw_zeq, pw_clt, pw_cle, pw_iload_4, il_1, pw_isub, pw_zne, kd_1, rf_30_1, rf_30_2, kd_32, rf_32_0, rf_32_1, rf_32_2, rf_32_3, rf_32_4, rf_32_5, rf_32_6, rf_32_7, rf_32_8, rf_32_9, rf_32_11, rf_32_12, rf_32_13, kd_123, rf_123_1, rf_123_2, rf_123_3, rf_123_4, rf_123_5, rf_123_7, rf_123_11, rf_123_12, rf_123_15, rf_123_16, rf_123_17, rf_123_26, rf_123_29, rf_123_30, rf_123_32, rf_123_34, rf_123_35, rf_123_45, n_0, n_1, n_2, n_3, n_9999, nn_lt, nn_nlt, nn_le, nn_nle, nn_ne, nn_sub, nn_mul, nI_add, nn_neg, nm_eq, mn_eq, mm_eq, mn_lt, nm_lt, mn_le, nm_le, nn_sub0, nn_of, implies_true, nn_c, nn_in, nn_div, nat_rem, Nat.reduceMul, Nat.reduceSub, Nat.reduceDiv, Nat.reduceMod, pf_at, pf_ne, mk_s, mk_1, Classical.not_not, b2i_T, b2i_F, false_imp_iff, true_imp_iff, false_and, and_false, p_sw, Int.reduceAdd, Int.zero_add, Option.some.injEq, Value.int.injEq, Value.long.injEq, Value.ref.injEq, exists_eq_left', mk_I, mk_L, mk_wI, mk_wL, rf_s, rf_n, true_and, and_true, and_self, or_true, true_or, or_false, false_or, not_true_eq_false, not_false_eq_true, Option.toList_some, Option.toList_none, List.cons_append, List.nil_append, List.map_nil, List.map_cons, List.sum_nil, List.sum_cons, cat_i, cat_l, cat_r, cat_n, Nat.reduceLeDiff, Nat.reduceAdd, Nat.reduceEqDiff, Nat.zero_le, p_ent, p_u_ne, p_u_at, reduceIte, if_true, if_false, h9, c1, P_ce s1]
      exact ⟨_, _, _, _, rfl, H⟩
    · simp -implicitDefEqProofs (disch := first | omega | decide) only [P_m, ↓P_run_eq _ 107 _ (p_bk 107 0), bk_107_0, pb_107_0, ↓P_run_eq _ 107 _ (p_bk 107 1), bk_107_1, pb_107_1, ↓P_run_eq _ 247 _ (p_bk 247 0), bk_247_0, pb_247_0, ↓P_run_eq _ 247 _ (p_bk 247 1), bk_247_1, pb_247_1, pw_iload_n1, pw_zlt, pw_getsR, pw_iconst, il_2, pw_iald, pw_cgt, pw_iload_n2, il_3, pw_iload_n3, il_m1, pw_cge, pw_nop, pw_ret0, il_0, pw_sipush, sl_9999, pw_is3, pw_zeq, pw_clt, pw_cle, pw_iload_4, il_1, pw_isub, pw_zne, kd_1, rf_30_1, rf_30_2, kd_32, rf_32_0, rf_32_1, rf_32_2, rf_32_3, rf_32_4, rf_32_5, rf_32_6, rf_32_7, rf_32_8, rf_32_9, rf_32_11, rf_32_12, rf_32_13, kd_123, rf_123_1, rf_123_2, rf_123_3, rf_123_4, rf_123_5, rf_123_7, rf_123_11, rf_123_12, rf_123_15, rf_123_16, rf_123_17, rf_123_26, rf_123_29, rf_123_30, rf_123_32, rf_123_34, rf_123_35, rf_123_45, n_0, n_1, n_2, n_3, n_9999, nn_lt, nn_nlt, nn_le, nn_nle, nn_ne, nn_sub, nn_mul, nI_add, nn_neg, nm_eq, mn_eq, mm_eq, mn_lt, nm_lt, mn_le, nm_le, nn_sub0, nn_of, implies_true, nn_c, nn_in, nn_div, nat_rem, Nat.reduceMul, Nat.reduceSub, Nat.reduceDiv, Nat.reduceMod, pf_at, pf_ne, mk_s, mk_1, Classical.not_not, b2i_T, b2i_F, false_imp_iff, true_imp_iff, false_and, and_false, p_sw, Int.reduceAdd, Int.zero_add, Option.some.injEq, Value.int.injEq, Value.long.injEq, Value.ref.injEq, exists_eq_left', mk_I, mk_L, mk_wI, mk_wL, rf_s, rf_n, true_and, and_true, and_self, or_true, true_or, or_false, false_or, not_true_eq_false, not_false_eq_true, Option.toList_some, Option.toList_none, List.cons_append, List.nil_append, List.map_nil, List.map_cons, List.sum_nil, List.sum_cons, cat_i, cat_l, cat_r, cat_n, Nat.reduceLeDiff, Nat.reduceAdd, Nat.reduceEqDiff, Nat.zero_le, p_ent, p_u_ne, p_u_at, reduceIte, if_true, if_false, h9, c1, c2, P_ce s1]
      exact ⟨_, _, _, _, rfl, H⟩
end GZ
