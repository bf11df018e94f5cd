theorem clw_R {Ls : Nat} {I : Nat → Nat → Int32} {R R' : Nat → Nat → Option Nat} {X : List pKd} {r : Option Nat} {c : Option (List tCl)} (h : clw Ls I R X r c) (e : ∀ a, 142 ≤ a → R' a = R a) : clw Ls I R' X r c := by
  rcases h with h | ⟨t, CL, a1, a2, a3, a4, a5, a7, a8, m1, m2, h1, h2, h3, h4, h5⟩
  · exact Or.inl h
  · refine Or.inr ⟨t, CL, a1, a2, a3, a4, a5, a7, a8, m1, m2, h1, h2, h3, fun I L => ?_, h5⟩
    have := h4 I L
    rw [ovl_hi h3, ovl_hi h3, ovl_hi h3, ovl_hi h3, ovl_hi h3, ovl_hi h3, ovl_hi h3] at this ⊢
    rw [e t h3]
    exact this
theorem Inv_R {I : Nat → Nat → Int32} {R R' : Nat → Nat → Option Nat} {X : List pKd} (H : Inv I R X) (e : ∀ a, a = 79 ∨ a = 111 ∨ a = 120 ∨ 142 ≤ a → R' a = R a) : Inv I R' X := by
  obtain ⟨h1, h2, h3, h4, h5, h6, h7, h8⟩ := H
  refine ⟨h1, h2, h3, h4, invI_fr (I := I) (R := R) (fun _ _ _ => rfl) rfl rfl (fun _ _ => rfl) (e 111 (by omega)) (e 120 (by omega)) (fun b hb => e b (by omega)) h5, h6, ⟨h7.1, ?_, ?_⟩, h8⟩
  · intro i hi
    show R' 79 i = none ∨ _
    rw [e 79 (by omega)]
    exact h7.2.1 i hi
  · intro i hi
    obtain ⟨t, t1, t2, t3⟩ := h7.2.2 i hi
    exact ⟨t, by rw [e 79 (by omega)]; exact t1, t2, lawRel_same t3 (fun _ _ => rfl) (fun a ha => e a (by omega)) (fun _ _ _ => rfl)⟩
section HT
variable {Ls : Nat} {I : Nat → Nat → Int32} {L : Nat → Nat → Int64} {R : Nat → Nat → Option Nat} {X : List pKd} {c : Option (List tCl)} {K K0 : Nat → Int32}
theorem nx_pass3 {s : (Nat → Int32) × Nat} (h : vld s.1) : nxK c s.1 2 (nI 0) 52 = s.1 52 := (nx_vld h).2.1
theorem lp_110 {D N : Nat} {sd : Int32} (hD : 10 ≤ D) (hN : N ≤ 40) (hm0 : 0 < kn K0 53) (hn0 : 0 < kn K0 52) : ∀ r, r ≤ N → ∀ (I : Nat → Nat → Int32) (K : Nat → Int32) (s a : Nat), Cah Ls I R X K c → dOk K0 c K → s < 1000003 → a + r ≤ N → I 70 0 = nI s → I 1 0 = 999 → I 1 2 = nI 9999 → ∃ J, frD I (p_u J 32 14 (I 32 14)) ∧ (∀ k, ¬ k = 14 → J 32 k = I 32 k) ∧ J 32 14 = 0 ∧ hutR J 93 (hlp c (kn K0 52) (kn K0 53) r (K, s, a)).1 ∧ P_run D 110 (p_bk 110 5) 0 0 [.ref 32, .int sd, .int (nI N), .int (nI a), .int (nI (N - r))] [] (p_mk Ls I L R X) (fun v h' => v = some (.int (nI (hlp c (kn K0 52) (kn K0 53) r (K, s, a)).2.2)) ∧ h' = p_mk Ls J L R X) := by
  obtain ⟨D', rfl⟩ : ∃ D', D = D' + 1 := ⟨D - 1, by omega⟩
  have fin : ∀ (I : Nat → Nat → Int32) (K : Nat → Int32) (a : Nat), Cah Ls I R X K c → frD I (p_u (p_u I 32 14 (nI 0)) 32 14 (I 32 14)) ∧ (∀ k, ¬ k = 14 → (p_u I 32 14 (nI 0)) 32 k = I 32 k) ∧ (p_u I 32 14 (nI 0)) 32 14 = 0 ∧ hutR (p_u I 32 14 (nI 0)) 93 K := by
    intro I K a h
    refine ⟨fun b b1 b2 b3 b4 => ?_, fun k hk => by rw [p_u_at, if_neg hk], by rw [p_u_at, if_pos rfl]; rfl, hutR_f h.1 (fun b b1 b2 => p_u_ne (by omega))⟩
    by_cases e : b = 32
    · subst e
      funext j
      rw [p_u_at]
      split
      · rename_i ej; rw [ej]
      · rw [p_u_at]
        rename_i ej
        rw [if_neg ej]
    · rw [p_u_ne e, p_u_ne e]
  intro r
  induction r with
  | zero =>
    intro _ I K s a h hd hs ha e70 e0 e9
    obtain ⟨z1, z2, z3, z4⟩ := fin I K a h
    refine ⟨p_u I 32 14 (nI 0), z1, z2, z3, z4, ?_⟩
    show P_run _ _ _ _ _ _ _ _ (fun v h' => v = some (.int (nI a)) ∧ _)
    rw [P_run_eq, bk_110_5, pb_110_5]; simp -implicitDefEqProofs (disch := first | omega | decide) only [P_m, ↓P_run_eq _ 110 _ (p_bk 110 7), bk_110_7, pb_110_7, pw_iload_4, pw_iload_n2, pw_cge, pw_aload_n0, pw_aloadN_n0, pw_getR, pw_iconst, il_0, pw_iald, pw_getsR, pw_iv2, il_1, pw_cne, pw_iinc_3, po_i3, po_r3, po_n3, po_u3, pw_nop, pw_iload_n3, pw_ret0, kd_32, rf_32_0, rf_32_1, rf_32_2, rf_32_3, rf_32_4, rf_32_5, rf_32_6, rf_32_7, rf_32_8, rf_32_9, rf_32_11, rf_32_12, rf_32_13, n_0, n_1, nn_lt, nn_nlt, nn_le, nn_nle, nn_ne, nn_sub, nn_mul, nI_add, nn_neg, nm_eq, mn_eq, mm_eq, mn_lt, nm_lt, mn_le, nm_le, nn_sub0, nn_of, implies_true, nn_c, nn_in, nn_div, nat_rem, Nat.reduceMul, Nat.reduceSub, Nat.reduceDiv, Nat.reduceMod, pf_at, pf_ne, mk_s, mk_1, Classical.not_not, b2i_T, b2i_F, false_imp_iff, true_imp_iff, false_and, and_false, p_sw, Int.reduceAdd, Int.zero_add, Option.some.injEq, Value.int.injEq, Value.long.injEq, Value.ref.injEq, exists_eq_left', mk_I, mk_L, mk_wI, mk_wL, rf_s, rf_n, true_and, and_true, and_self, or_true, true_or, or_false, false_or, not_true_eq_false, not_false_eq_true, Option.toList_some, Option.toList_none, List.cons_append, List.nil_append, List.map_nil, List.map_cons, List.sum_nil, List.sum_cons, cat_i, cat_l, cat_r, cat_n, Nat.reduceLeDiff, Nat.reduceAdd, Nat.reduceEqDiff, Nat.zero_le, p_ent, p_u_ne, p_u_at, reduceIte, if_true, if_false, P_ce (sp_117 _), n_0]
  | succ r ih =>
    intro hr I K s a h hd hs ha e70 e0 e9
    have hV := h.2.2.1
    have g3 : K 3 = nI (kn K 3) ∧ kn K 3 ≤ 999 := kn_e hV (by omega) (by omega) (by omega)
    have u0 : I 100 0 = nI (kn K 3) := (hutR_at h.1).2.1.1.trans g3.1
    have e0' : I 1 0 = nI 999 := e0
    by_cases h3 : kn K 3 < 999
    · have ev : hlp c (kn K0 52) (kn K0 53) (r + 1) (K, s, a) = hlp c (kn K0 52) (kn K0 53) r (nxK c (vis c (kn K0 52) (kn K0 53) (K, s)).1 2 (nI 0), (vis c (kn K0 52) (kn K0 53) (K, s)).2, a + (if pc (kn (vis c (kn K0 52) (kn K0 53) (K, s)).1 0) = 1 then 1 else 0)) := by
        show (if kn K 3 < 999 then _ else _) = _
        rw [if_pos h3]
      rw [ev]
      obtain ⟨J1, f1, c1, j70, s1⟩ := vis_c (L := L) (D := D') (by omega) hm0 hn0 h hd hs e70 e0 e9 (by rw [vis_day hd]; exact h3)
      obtain ⟨d1, d2⟩ := dOk_vis (n := kn K0 52) (m := kn K0 53) (x := (K, s)) hd
      generalize vis c (kn K0 52) (kn K0 53) (K, s) = V at *
      have pl := pc_le (kn V.1 0)
      have hle : a + (if pc (kn V.1 0) = 1 then 1 else 0) + r ≤ N := by split <;> omega
      obtain ⟨J2, f2, j2, j214, hR2, s2⟩ := ih (by omega) J1 _ V.2 _ c1 (dOk_nx d1) d2 hle j70 (by rw [f1 1 (by omega) (by omega) (by omega) (by omega)]; exact e0) (by rw [f1 1 (by omega) (by omega) (by omega) (by omega)]; exact e9)
      have e32 : J1 32 = I 32 := f1 32 (by omega) (by omega) (by omega) (by omega)
      refine ⟨J2, ?_, ?_, j214, hR2, ?_⟩
      · rw [← e32]
        exact frD_tr f1 f2
      · intro k hk; rw [j2 k hk, e32]
      · have eN : N - (r + 1) + 1 = N - r := by omega
        by_cases hp : pc (kn V.1 0) = 1
        · rw [hp] at s1
          rw [if_pos hp] at s2 ⊢
          rw [P_run_eq, bk_110_5, pb_110_5]; simp -implicitDefEqProofs (disch := first | omega | decide) only [P_m, ↓P_run_eq _ 110 _ (p_bk 110 6), bk_110_6, pb_110_6, pw_iload_4, pw_iload_n2, pw_cge, pw_aload_n0, pw_aloadN_n0, pw_getR, pw_iconst, il_0, pw_iald, pw_getsR, pw_iv2, il_1, pw_cne, pw_iinc_3, po_i3, po_r3, po_n3, po_u3, pw_nop, pw_iinc_4, po_i4, po_r4, po_n4, po_u4, pw_goto, kd_1, rf_30_1, rf_30_2, kd_32, rf_32_0, rf_32_1, rf_32_2, rf_32_3, rf_32_4, rf_32_5, rf_32_6, rf_32_7, rf_32_8, rf_32_9, rf_32_11, rf_32_12, rf_32_13, kd_93, rf_93_1, rf_93_3, rf_93_4, rf_93_5, rf_93_6, rf_93_11, rf_93_12, rf_93_14, kd_100, n_0, n_1, nn_lt, nn_nlt, nn_le, nn_nle, nn_ne, nn_sub, nn_mul, nI_add, nn_neg, nm_eq, mn_eq, mm_eq, mn_lt, nm_lt, mn_le, nm_le, nn_sub0, nn_of, implies_true, nn_c, nn_in, nn_div, nat_rem, Nat.reduceMul, Nat.reduceSub, Nat.reduceDiv, Nat.reduceMod, pf_at, pf_ne, mk_s, mk_1, Classical.not_not, b2i_T, b2i_F, false_imp_iff, true_imp_iff, false_and, and_false, p_sw, Int.reduceAdd, Int.zero_add, Option.some.injEq, Value.int.injEq, Value.long.injEq, Value.ref.injEq, exists_eq_left', mk_I, mk_L, mk_wI, mk_wL, rf_s, rf_n, true_and, and_true, and_self, or_true, true_or, or_false, false_or, not_true_eq_false, not_false_eq_true, Option.toList_some, Option.toList_none, List.cons_append, List.nil_append, List.map_nil, List.map_cons, List.sum_nil, List.sum_cons, cat_i, cat_l, cat_r, cat_n, Nat.reduceLeDiff, Nat.reduceAdd, Nat.reduceEqDiff, Nat.zero_le, p_ent, p_u_ne, p_u_at, reduceIte, if_true, if_false, u0, e0', P_ce s1, eN]
          exact s2
        · rw [if_neg hp, Nat.add_zero] at s2 ⊢
          rw [P_run_eq, bk_110_5, pb_110_5]; simp -implicitDefEqProofs (disch := first | omega | decide) only [P_m, ↓P_run_eq _ 110 _ (p_bk 110 6), bk_110_6, pb_110_6, pw_iload_4, pw_iload_n2, pw_cge, pw_aload_n0, pw_aloadN_n0, pw_getR, pw_iconst, il_0, pw_iald, pw_getsR, pw_iv2, il_1, pw_cne, pw_iinc_3, po_i3, po_r3, po_n3, po_u3, pw_nop, pw_iinc_4, po_i4, po_r4, po_n4, po_u4, pw_goto, kd_1, rf_30_1, rf_30_2, kd_32, rf_32_0, rf_32_1, rf_32_2, rf_32_3, rf_32_4, rf_32_5, rf_32_6, rf_32_7, rf_32_8, rf_32_9, rf_32_11, rf_32_12, rf_32_13, kd_93, rf_93_1, rf_93_3, rf_93_4, rf_93_5, rf_93_6, rf_93_11, rf_93_12, rf_93_14, kd_100, n_0, n_1, nn_lt, nn_nlt, nn_le, nn_nle, nn_ne, nn_sub, nn_mul, nI_add, nn_neg, nm_eq, mn_eq, mm_eq, mn_lt, nm_lt, mn_le, nm_le, nn_sub0, nn_of, implies_true, nn_c, nn_in, nn_div, nat_rem, Nat.reduceMul, Nat.reduceSub, Nat.reduceDiv, Nat.reduceMod, pf_at, pf_ne, mk_s, mk_1, Classical.not_not, b2i_T, b2i_F, false_imp_iff, true_imp_iff, false_and, and_false, p_sw, Int.reduceAdd, Int.zero_add, Option.some.injEq, Value.int.injEq, Value.long.injEq, Value.ref.injEq, exists_eq_left', mk_I, mk_L, mk_wI, mk_wL, rf_s, rf_n, true_and, and_true, and_self, or_true, true_or, or_false, false_or, not_true_eq_false, not_false_eq_true, Option.toList_some, Option.toList_none, List.cons_append, List.nil_append, List.map_nil, List.map_cons, List.sum_nil, List.sum_cons, cat_i, cat_l, cat_r, cat_n, Nat.reduceLeDiff, Nat.reduceAdd, Nat.reduceEqDiff, Nat.zero_le, p_ent, p_u_ne, p_u_at, reduceIte, if_true, if_false, u0, e0', P_ce s1, eN]
          exact s2
    · have ev : hlp c (kn K0 52) (kn K0 53) (r + 1) (K, s, a) = (K, s, a) := by
        show (if kn K 3 < 999 then _ else _) = _
        rw [if_neg h3]
      rw [ev]
      obtain ⟨z1, z2, z3, z4⟩ := fin I K a h
      refine ⟨p_u I 32 14 (nI 0), z1, z2, z3, z4, ?_⟩
      have h3' : kn K 3 = 999 := by omega
      rw [h3'] at u0
      rw [P_run_eq, bk_110_5, pb_110_5]; simp -implicitDefEqProofs (disch := first | omega | decide) only [P_m, ↓P_run_eq _ 110 _ (p_bk 110 7), bk_110_7, pb_110_7, pw_iload_4, pw_iload_n2, pw_cge, pw_aload_n0, pw_aloadN_n0, pw_getR, pw_iconst, il_0, pw_iald, pw_getsR, pw_iv2, il_1, pw_cne, pw_iinc_3, po_i3, po_r3, po_n3, po_u3, pw_nop, pw_iload_n3, pw_ret0, kd_1, rf_30_1, rf_30_2, kd_32, rf_32_0, rf_32_1, rf_32_2, rf_32_3, rf_32_4, rf_32_5, rf_32_6, rf_32_7, rf_32_8, rf_32_9, rf_32_11, rf_32_12, rf_32_13, kd_93, rf_93_1, rf_93_3, rf_93_4, rf_93_5, rf_93_6, rf_93_11, rf_93_12, rf_93_14, kd_100, n_0, n_1, nn_lt, nn_nlt, nn_le, nn_nle, nn_ne, nn_sub, nn_mul, nI_add, nn_neg, nm_eq, mn_eq, mm_eq, mn_lt, nm_lt, mn_le, nm_le, nn_sub0, nn_of, implies_true, nn_c, nn_in, nn_div, nat_rem, Nat.reduceMul, Nat.reduceSub, Nat.reduceDiv, Nat.reduceMod, pf_at, pf_ne, mk_s, mk_1, Classical.not_not, b2i_T, b2i_F, false_imp_iff, true_imp_iff, false_and, and_false, p_sw, Int.reduceAdd, Int.zero_add, Option.some.injEq, Value.int.injEq, Value.long.injEq, Value.ref.injEq, exists_eq_left', mk_I, mk_L, mk_wI, mk_wL, rf_s, rf_n, true_and, and_true, and_self, or_true, true_or, or_false, false_or, not_true_eq_false, not_false_eq_true, Option.toList_some, Option.toList_none, List.cons_append, List.nil_append, List.map_nil, List.map_cons, List.sum_nil, List.sum_cons, cat_i, cat_l, cat_r, cat_n, Nat.reduceLeDiff, Nat.reduceAdd, Nat.reduceEqDiff, Nat.zero_le, p_ent, p_u_ne, p_u_at, reduceIte, if_true, if_false, u0, e0', P_ce (sp_117 _), n_0]
theorem sp_134 {d : Nat} : P_m d 134 [.ref 123, .int (nI 0)] (p_mk Ls I L R X) (fun v h' => v = none ∧ h' = p_mk Ls (p_fn I 128 (va_cpy (I 125) (I 128) 0 0 13)) L R X) := by
  have loop : ∀ i, i ≤ 13 → P_run d 134 (p_bk 134 1) 0 0 [.ref 123, .int (nI 0), .int (nI i)] [] (p_mk Ls (p_fn I 128 (va_cpy (I 125) (I 128) 0 0 i)) L R X) (fun v h' => v = none ∧ h' = p_mk Ls (p_fn I 128 (va_cpy (I 125) (I 128) 0 0 13)) L R X) := by
    refine down_ind ?_ ?_
    · rw [P_run_eq, bk_134_1, pb_134_1]; simp -implicitDefEqProofs (disch := first | omega | decide) only [P_m, ↓P_run_eq _ 134 _ (p_bk 134 2), bk_134_2, pb_134_2, pw_iload_n2, pw_bipush, bl_13, pw_cge, pw_aload_n0, pw_aloadN_n0, pw_getR, pw_iload_n1, pw_imul, pw_iadd, pw_iald, pw_iast, pw_iinc_2, il_1, po_i2, po_r2, po_n2, po_u2, pw_goto, pw_vret, kd_123, rf_123_1, rf_123_2, rf_123_3, rf_123_4, rf_123_5, rf_123_7, rf_123_11, rf_123_12, rf_123_15, rf_123_16, rf_123_17, rf_123_26, rf_123_29, rf_123_30, rf_123_32, rf_123_34, rf_123_35, rf_123_45, kd_125, kd_128, n_0, n_1, n_13, nn_lt, nn_nlt, nn_le, nn_nle, nn_ne, nn_sub, nn_mul, nI_add, nn_neg, nm_eq, mn_eq, mm_eq, mn_lt, nm_lt, mn_le, nm_le, nn_sub0, nn_of, implies_true, nn_c, nn_in, nn_div, nat_rem, Nat.reduceMul, Nat.reduceSub, Nat.reduceDiv, Nat.reduceMod, pf_at, pf_ne, mk_s, mk_1, Classical.not_not, b2i_T, b2i_F, false_imp_iff, true_imp_iff, false_and, and_false, p_sw, Int.reduceAdd, Int.zero_add, Option.some.injEq, Value.int.injEq, Value.long.injEq, Value.ref.injEq, exists_eq_left', mk_I, mk_L, mk_wI, mk_wL, rf_s, rf_n, true_and, and_true, and_self, or_true, true_or, or_false, false_or, not_true_eq_false, not_false_eq_true, Option.toList_some, Option.toList_none, List.cons_append, List.nil_append, List.map_nil, List.map_cons, List.sum_nil, List.sum_cons, cat_i, cat_l, cat_r, cat_n, Nat.reduceLeDiff, Nat.reduceAdd, Nat.reduceEqDiff, Nat.zero_le, p_ent, p_u_ne, p_u_at, reduceIte, if_true, if_false]
    · intro i hi ih
      have e3 := cpy_1 (f := I 125) (g := I 128) (sp := 0) (dp := 0) (n := i)
      rw [Nat.zero_add] at e3
      rw [P_run_eq, bk_134_1, pb_134_1]; simp -implicitDefEqProofs (disch := first | omega | decide) only [P_m, pw_iload_n2, pw_bipush, bl_13, pw_cge, pw_aload_n0, pw_aloadN_n0, pw_getR, pw_iload_n1, pw_imul, pw_iadd, pw_iald, pw_iast, pw_iinc_2, il_1, po_i2, po_r2, po_n2, po_u2, pw_goto, kd_123, rf_123_1, rf_123_2, rf_123_3, rf_123_4, rf_123_5, rf_123_7, rf_123_11, rf_123_12, rf_123_15, rf_123_16, rf_123_17, rf_123_26, rf_123_29, rf_123_30, rf_123_32, rf_123_34, rf_123_35, rf_123_45, kd_125, kd_128, n_0, n_1, n_13, nn_lt, nn_nlt, nn_le, nn_nle, nn_ne, nn_sub, nn_mul, nI_add, nn_neg, nm_eq, mn_eq, mm_eq, mn_lt, nm_lt, mn_le, nm_le, nn_sub0, nn_of, implies_true, nn_c, nn_in, nn_div, nat_rem, Nat.reduceMul, Nat.reduceSub, Nat.reduceDiv, Nat.reduceMod, pf_at, pf_ne, mk_s, mk_1, Classical.not_not, b2i_T, b2i_F, false_imp_iff, true_imp_iff, false_and, and_false, p_sw, Int.reduceAdd, Int.zero_add, Option.some.injEq, Value.int.injEq, Value.long.injEq, Value.ref.injEq, exists_eq_left', mk_I, mk_L, mk_wI, mk_wL, rf_s, rf_n, true_and, and_true, and_self, or_true, true_or, or_false, false_or, not_true_eq_false, not_false_eq_true, Option.toList_some, Option.toList_none, List.cons_append, List.nil_append, List.map_nil, List.map_cons, List.sum_nil, List.sum_cons, cat_i, cat_l, cat_r, cat_n, Nat.reduceLeDiff, Nat.reduceAdd, Nat.reduceEqDiff, Nat.zero_le, p_ent, p_u_ne, p_u_at, reduceIte, if_true, if_false, pu_pf, e3, Nat.zero_add, Nat.mul_zero]
      exact ih
  have := loop 0 (by omega)
  rw [cpy_0, pf_self] at this
  simp -implicitDefEqProofs (disch := first | omega | decide) only [P_m, ↓P_run_eq _ 134 _ (p_bk 134 0), bk_134_0, pb_134_0, pw_iconst, il_0, pw_istore_n2, ps_2, pe_2, po_i2, po_r2, po_n2, po_u2, pw_nop, kd_123, rf_123_1, rf_123_2, rf_123_3, rf_123_4, rf_123_5, rf_123_7, rf_123_11, rf_123_12, rf_123_15, rf_123_16, rf_123_17, rf_123_26, rf_123_29, rf_123_30, rf_123_32, rf_123_34, rf_123_35, rf_123_45, n_0, n_1, nn_lt, nn_nlt, nn_le, nn_nle, nn_ne, nn_sub, nn_mul, nI_add, nn_neg, nm_eq, mn_eq, mm_eq, mn_lt, nm_lt, mn_le, nm_le, nn_sub0, nn_of, implies_true, nn_c, nn_in, nn_div, nat_rem, Nat.reduceMul, Nat.reduceSub, Nat.reduceDiv, Nat.reduceMod, pf_at, pf_ne, mk_s, mk_1, Classical.not_not, b2i_T, b2i_F, false_imp_iff, true_imp_iff, false_and, and_false, p_sw, Int.reduceAdd, Int.zero_add, Option.some.injEq, Value.int.injEq, Value.long.injEq, Value.ref.injEq, exists_eq_left', mk_I, mk_L, mk_wI, mk_wL, rf_s, rf_n, true_and, and_true, and_self, or_true, true_or, or_false, false_or, not_true_eq_false, not_false_eq_true, Option.toList_some, Option.toList_none, List.cons_append, List.nil_append, List.map_nil, List.map_cons, List.sum_nil, List.sum_cons, cat_i, cat_l, cat_r, cat_n, Nat.reduceLeDiff, Nat.reduceAdd, Nat.reduceEqDiff, Nat.zero_le, p_ent, p_u_ne, p_u_at, reduceIte, if_true, if_false]
  exact this
theorem sp_135 {d : Nat} : P_m d 135 [.ref 123, .int (nI 0)] (p_mk Ls I L R X) (fun v h' => v = none ∧ h' = p_mk Ls (p_fn I 125 (va_cpy (I 128) (I 125) 0 0 13)) L R X) := by
  have loop : ∀ i, i ≤ 13 → P_run d 135 (p_bk 135 1) 0 0 [.ref 123, .int (nI 0), .int (nI i)] [] (p_mk Ls (p_fn I 125 (va_cpy (I 128) (I 125) 0 0 i)) L R X) (fun v h' => v = none ∧ h' = p_mk Ls (p_fn I 125 (va_cpy (I 128) (I 125) 0 0 13)) L R X) := by
    refine down_ind ?_ ?_
    · rw [P_run_eq, bk_135_1, pb_135_1]; simp -implicitDefEqProofs (disch := first | omega | decide) only [P_m, ↓P_run_eq _ 135 _ (p_bk 135 2), bk_135_2, pb_135_2, pw_iload_n2, pw_bipush, bl_13, pw_cge, pw_aload_n0, pw_aloadN_n0, pw_getR, pw_iload_n1, pw_imul, pw_iadd, pw_iald, pw_iast, pw_iinc_2, il_1, po_i2, po_r2, po_n2, po_u2, pw_goto, pw_vret, kd_123, rf_123_1, rf_123_2, rf_123_3, rf_123_4, rf_123_5, rf_123_7, rf_123_11, rf_123_12, rf_123_15, rf_123_16, rf_123_17, rf_123_26, rf_123_29, rf_123_30, rf_123_32, rf_123_34, rf_123_35, rf_123_45, kd_125, kd_128, n_0, n_1, n_13, nn_lt, nn_nlt, nn_le, nn_nle, nn_ne, nn_sub, nn_mul, nI_add, nn_neg, nm_eq, mn_eq, mm_eq, mn_lt, nm_lt, mn_le, nm_le, nn_sub0, nn_of, implies_true, nn_c, nn_in, nn_div, nat_rem, Nat.reduceMul, Nat.reduceSub, Nat.reduceDiv, Nat.reduceMod, pf_at, pf_ne, mk_s, mk_1, Classical.not_not, b2i_T, b2i_F, false_imp_iff, true_imp_iff, false_and, and_false, p_sw, Int.reduceAdd, Int.zero_add, Option.some.injEq, Value.int.injEq, Value.long.injEq, Value.ref.injEq, exists_eq_left', mk_I, mk_L, mk_wI, mk_wL, rf_s, rf_n, true_and, and_true, and_self, or_true, true_or, or_false, false_or, not_true_eq_false, not_false_eq_true, Option.toList_some, Option.toList_none, List.cons_append, List.nil_append, List.map_nil, List.map_cons, List.sum_nil, List.sum_cons, cat_i, cat_l, cat_r, cat_n, Nat.reduceLeDiff, Nat.reduceAdd, Nat.reduceEqDiff, Nat.zero_le, p_ent, p_u_ne, p_u_at, reduceIte, if_true, if_false]
    · intro i hi ih
      have e3 := cpy_1 (f := I 128) (g := I 125) (sp := 0) (dp := 0) (n := i)
      rw [Nat.zero_add] at e3
      rw [P_run_eq, bk_135_1, pb_135_1]; simp -implicitDefEqProofs (disch := first | omega | decide) only [P_m, pw_iload_n2, pw_bipush, bl_13, pw_cge, pw_aload_n0, pw_aloadN_n0, pw_getR, pw_iload_n1, pw_imul, pw_iadd, pw_iald, pw_iast, pw_iinc_2, il_1, po_i2, po_r2, po_n2, po_u2, pw_goto, kd_123, rf_123_1, rf_123_2, rf_123_3, rf_123_4, rf_123_5, rf_123_7, rf_123_11, rf_123_12, rf_123_15, rf_123_16, rf_123_17, rf_123_26, rf_123_29, rf_123_30, rf_123_32, rf_123_34, rf_123_35, rf_123_45, kd_125, kd_128, n_0, n_1, n_13, nn_lt, nn_nlt, nn_le, nn_nle, nn_ne, nn_sub, nn_mul, nI_add, nn_neg, nm_eq, mn_eq, mm_eq, mn_lt, nm_lt, mn_le, nm_le, nn_sub0, nn_of, implies_true, nn_c, nn_in, nn_div, nat_rem, Nat.reduceMul, Nat.reduceSub, Nat.reduceDiv, Nat.reduceMod, pf_at, pf_ne, mk_s, mk_1, Classical.not_not, b2i_T, b2i_F, false_imp_iff, true_imp_iff, false_and, and_false, p_sw, Int.reduceAdd, Int.zero_add, Option.some.injEq, Value.int.injEq, Value.long.injEq, Value.ref.injEq, exists_eq_left', mk_I, mk_L, mk_wI, mk_wL, rf_s, rf_n, true_and, and_true, and_self, or_true, true_or, or_false, false_or, not_true_eq_false, not_false_eq_true, Option.toList_some, Option.toList_none, List.cons_append, List.nil_append, List.map_nil, List.map_cons, List.sum_nil, List.sum_cons, cat_i, cat_l, cat_r, cat_n, Nat.reduceLeDiff, Nat.reduceAdd, Nat.reduceEqDiff, Nat.zero_le, p_ent, p_u_ne, p_u_at, reduceIte, if_true, if_false, pu_pf, e3, Nat.zero_add, Nat.mul_zero]
      exact ih
  have := loop 0 (by omega)
  rw [cpy_0, pf_self] at this
  simp -implicitDefEqProofs (disch := first | omega | decide) only [P_m, ↓P_run_eq _ 135 _ (p_bk 135 0), bk_135_0, pb_135_0, pw_iconst, il_0, pw_istore_n2, ps_2, pe_2, po_i2, po_r2, po_n2, po_u2, pw_nop, kd_123, rf_123_1, rf_123_2, rf_123_3, rf_123_4, rf_123_5, rf_123_7, rf_123_11, rf_123_12, rf_123_15, rf_123_16, rf_123_17, rf_123_26, rf_123_29, rf_123_30, rf_123_32, rf_123_34, rf_123_35, rf_123_45, n_0, n_1, nn_lt, nn_nlt, nn_le, nn_nle, nn_ne, nn_sub, nn_mul, nI_add, nn_neg, nm_eq, mn_eq, mm_eq, mn_lt, nm_lt, mn_le, nm_le, nn_sub0, nn_of, implies_true, nn_c, nn_in, nn_div, nat_rem, Nat.reduceMul, Nat.reduceSub, Nat.reduceDiv, Nat.reduceMod, pf_at, pf_ne, mk_s, mk_1, Classical.not_not, b2i_T, b2i_F, false_imp_iff, true_imp_iff, false_and, and_false, p_sw, Int.reduceAdd, Int.zero_add, Option.some.injEq, Value.int.injEq, Value.long.injEq, Value.ref.injEq, exists_eq_left', mk_I, mk_L, mk_wI, mk_wL, rf_s, rf_n, true_and, and_true, and_self, or_true, true_or, or_false, false_or, not_true_eq_false, not_false_eq_true, Option.toList_some, Option.toList_none, List.cons_append, List.nil_append, List.map_nil, List.map_cons, List.sum_nil, List.sum_cons, cat_i, cat_l, cat_r, cat_n, Nat.reduceLeDiff, Nat.reduceAdd, Nat.reduceEqDiff, Nat.zero_le, p_ent, p_u_ne, p_u_at, reduceIte, if_true, if_false]
  exact this
theorem sp_261 {d : Nat} : P_m d 261 [.ref 123] (p_mk Ls I L R X) (fun v h' => v = none ∧ h' = p_mk Ls (p_fn I 141 (va_cpy (I 125) (I 141) 0 0 13)) L R X) := by
  have loop : ∀ i, i ≤ 13 → P_run d 261 (p_bk 261 1) 0 0 [.ref 123, .int (nI i)] [] (p_mk Ls (p_fn I 141 (va_cpy (I 125) (I 141) 0 0 i)) L R X) (fun v h' => v = none ∧ h' = p_mk Ls (p_fn I 141 (va_cpy (I 125) (I 141) 0 0 13)) L R X) := by
    refine down_ind ?_ ?_
    · rw [P_run_eq, bk_261_1, pb_261_1]; simp -implicitDefEqProofs (disch := first | omega | decide) only [P_m, ↓P_run_eq _ 261 _ (p_bk 261 2), bk_261_2, pb_261_2, pw_iload_n1, pw_bipush, bl_13, pw_cge, pw_aload_n0, pw_aloadN_n0, pw_getR, pw_iald, pw_iast, pw_iinc_1, il_1, po_i1, po_r1, po_n1, po_u1, pw_goto, pw_vret, kd_123, rf_123_1, rf_123_2, rf_123_3, rf_123_4, rf_123_5, rf_123_7, rf_123_11, rf_123_12, rf_123_15, rf_123_16, rf_123_17, rf_123_26, rf_123_29, rf_123_30, rf_123_32, rf_123_34, rf_123_35, rf_123_45, kd_125, kd_141, n_0, n_1, n_13, nn_lt, nn_nlt, nn_le, nn_nle, nn_ne, nn_sub, nn_mul, nI_add, nn_neg, nm_eq, mn_eq, mm_eq, mn_lt, nm_lt, mn_le, nm_le, nn_sub0, nn_of, implies_true, nn_c, nn_in, nn_div, nat_rem, Nat.reduceMul, Nat.reduceSub, Nat.reduceDiv, Nat.reduceMod, pf_at, pf_ne, mk_s, mk_1, Classical.not_not, b2i_T, b2i_F, false_imp_iff, true_imp_iff, false_and, and_false, p_sw, Int.reduceAdd, Int.zero_add, Option.some.injEq, Value.int.injEq, Value.long.injEq, Value.ref.injEq, exists_eq_left', mk_I, mk_L, mk_wI, mk_wL, rf_s, rf_n, true_and, and_true, and_self, or_true, true_or, or_false, false_or, not_true_eq_false, not_false_eq_true, Option.toList_some, Option.toList_none, List.cons_append, List.nil_append, List.map_nil, List.map_cons, List.sum_nil, List.sum_cons, cat_i, cat_l, cat_r, cat_n, Nat.reduceLeDiff, Nat.reduceAdd, Nat.reduceEqDiff, Nat.zero_le, p_ent, p_u_ne, p_u_at, reduceIte, if_true, if_false]
    · intro i hi ih
      have e3 := cpy_1 (f := I 125) (g := I 141) (sp := 0) (dp := 0) (n := i)
      rw [Nat.zero_add] at e3
      rw [P_run_eq, bk_261_1, pb_261_1]; simp -implicitDefEqProofs (disch := first | omega | decide) only [P_m, pw_iload_n1, pw_bipush, bl_13, pw_cge, pw_aload_n0, pw_aloadN_n0, pw_getR, pw_iald, pw_iast, pw_iinc_1, il_1, po_i1, po_r1, po_n1, po_u1, pw_goto, kd_123, rf_123_1, rf_123_2, rf_123_3, rf_123_4, rf_123_5, rf_123_7, rf_123_11, rf_123_12, rf_123_15, rf_123_16, rf_123_17, rf_123_26, rf_123_29, rf_123_30, rf_123_32, rf_123_34, rf_123_35, rf_123_45, kd_125, kd_141, n_0, n_1, n_13, nn_lt, nn_nlt, nn_le, nn_nle, nn_ne, nn_sub, nn_mul, nI_add, nn_neg, nm_eq, mn_eq, mm_eq, mn_lt, nm_lt, mn_le, nm_le, nn_sub0, nn_of, implies_true, nn_c, nn_in, nn_div, nat_rem, Nat.reduceMul, Nat.reduceSub, Nat.reduceDiv, Nat.reduceMod, pf_at, pf_ne, mk_s, mk_1, Classical.not_not, b2i_T, b2i_F, false_imp_iff, true_imp_iff, false_and, and_false, p_sw, Int.reduceAdd, Int.zero_add, Option.some.injEq, Value.int.injEq, Value.long.injEq, Value.ref.injEq, exists_eq_left', mk_I, mk_L, mk_wI, mk_wL, rf_s, rf_n, true_and, and_true, and_self, or_true, true_or, or_false, false_or, not_true_eq_false, not_false_eq_true, Option.toList_some, Option.toList_none, List.cons_append, List.nil_append, List.map_nil, List.map_cons, List.sum_nil, List.sum_cons, cat_i, cat_l, cat_r, cat_n, Nat.reduceLeDiff, Nat.reduceAdd, Nat.reduceEqDiff, Nat.zero_le, p_ent, p_u_ne, p_u_at, reduceIte, if_true, if_false, pu_pf, e3]
      exact ih
  have := loop 0 (by omega)
  rw [cpy_0, pf_self] at this
  simp -implicitDefEqProofs (disch := first | omega | decide) only [P_m, ↓P_run_eq _ 261 _ (p_bk 261 0), bk_261_0, pb_261_0, pw_iconst, il_0, pw_istore_n1, ps_1, pe_1, po_i1, po_r1, po_n1, po_u1, pw_nop, kd_123, rf_123_1, rf_123_2, rf_123_3, rf_123_4, rf_123_5, rf_123_7, rf_123_11, rf_123_12, rf_123_15, rf_123_16, rf_123_17, rf_123_26, rf_123_29, rf_123_30, rf_123_32, rf_123_34, rf_123_35, rf_123_45, n_0, n_1, nn_lt, nn_nlt, nn_le, nn_nle, nn_ne, nn_sub, nn_mul, nI_add, nn_neg, nm_eq, mn_eq, mm_eq, mn_lt, nm_lt, mn_le, nm_le, nn_sub0, nn_of, implies_true, nn_c, nn_in, nn_div, nat_rem, Nat.reduceMul, Nat.reduceSub, Nat.reduceDiv, Nat.reduceMod, pf_at, pf_ne, mk_s, mk_1, Classical.not_not, b2i_T, b2i_F, false_imp_iff, true_imp_iff, false_and, and_false, p_sw, Int.reduceAdd, Int.zero_add, Option.some.injEq, Value.int.injEq, Value.long.injEq, Value.ref.injEq, exists_eq_left', mk_I, mk_L, mk_wI, mk_wL, rf_s, rf_n, true_and, and_true, and_self, or_true, true_or, or_false, false_or, not_true_eq_false, not_false_eq_true, Option.toList_some, Option.toList_none, List.cons_append, List.nil_append, List.map_nil, List.map_cons, List.sum_nil, List.sum_cons, cat_i, cat_l, cat_r, cat_n, Nat.reduceLeDiff, Nat.reduceAdd, Nat.reduceEqDiff, Nat.zero_le, p_ent, p_u_ne, p_u_at, reduceIte, if_true, if_false]
  exact this
theorem lp_262 {D N : Nat} {sd : Int32} (hD : 52 ≤ D) (hN : N ≤ 40) (hm0 : 0 < kn K0 53) (hn0 : 0 < kn K0 52) : ∀ r, r ≤ N → ∀ (I : Nat → Nat → Int32) (K : Nat → Int32) (s a : Nat), Cm I K c → dOk K0 c K → s < 1000003 → a + r ≤ N → I 123 46 = nI (kn K0 53) → I 123 47 = nI s → ∃ J, frR I J ∧ J 125 = (hlp c (kn K0 52) (kn K0 53) r (K, s, a)).1 ∧ P_run D 262 (p_bk 262 5) 0 0 [.ref 123, .int sd, .int (nI N), .int (nI a), .int (nI (N - r))] [] (p_mk Ls I L R X) (fun v h' => v = some (.int (nI (hlp c (kn K0 52) (kn K0 53) r (K, s, a)).2.2)) ∧ h' = p_mk Ls (p_u (p_fn (p_fn J 141 (va_cpy (J 125) (J 141) 0 0 13)) 125 (va_cpy (J 128) (J 125) 0 0 13)) 123 0 (nI 0)) L R X) := by
  obtain ⟨D', rfl⟩ : ∃ D', D = D' + 1 := ⟨D - 1, by omega⟩
  have fin : ∀ (J : Nat → Nat → Int32), P_m D' 135 [.ref 123, .int (nI 0)] (p_mk Ls (p_fn J 141 (va_cpy (J 125) (J 141) 0 0 13)) L R X) (fun v h' => v = none ∧ h' = p_mk Ls (p_fn (p_fn J 141 (va_cpy (J 125) (J 141) 0 0 13)) 125 (va_cpy (J 128) (J 125) 0 0 13)) L R X) := by
    intro J
    have := sp_135 (Ls := Ls) (d := D') (I := p_fn J 141 (va_cpy (J 125) (J 141) 0 0 13)) (L := L) (R := R) (X := X)
    rw [pf_ne (by omega), pf_ne (by omega)] at this
    exact this
  intro r
  induction r with
  | zero =>
    intro _ I K s a h hd hs ha e46 e47
    refine ⟨I, ⟨fun _ _ _ _ => rfl, fun _ _ _ => rfl⟩, h.1, ?_⟩
    show P_run _ _ _ _ _ _ _ _ (fun v h' => v = some (.int (nI a)) ∧ _)
    rw [P_run_eq, bk_262_5, pb_262_5]; simp -implicitDefEqProofs (disch := first | omega | decide) only [P_m, ↓P_run_eq _ 262 _ (p_bk 262 8), bk_262_8, pb_262_8, pw_iload_4, pw_iload_n2, pw_cge, pw_aload_n0, pw_aloadN_n0, pw_getR, pw_iconst, il_3, pw_iald, pw_sipush, sl_999, pw_iload_n3, pw_iv1, pw_zeq, il_1, pw_goto, il_0, pw_iv2, pw_ret0, kd_123, rf_123_1, rf_123_2, rf_123_3, rf_123_4, rf_123_5, rf_123_7, rf_123_11, rf_123_12, rf_123_15, rf_123_16, rf_123_17, rf_123_26, rf_123_29, rf_123_30, rf_123_32, rf_123_34, rf_123_35, rf_123_45, n_0, n_1, n_3, n_999, nn_lt, nn_nlt, nn_le, nn_nle, nn_ne, nn_sub, nn_mul, nI_add, nn_neg, nm_eq, mn_eq, mm_eq, mn_lt, nm_lt, mn_le, nm_le, nn_sub0, nn_of, implies_true, nn_c, nn_in, nn_div, nat_rem, Nat.reduceMul, Nat.reduceSub, Nat.reduceDiv, Nat.reduceMod, pf_at, pf_ne, mk_s, mk_1, Classical.not_not, b2i_T, b2i_F, false_imp_iff, true_imp_iff, false_and, and_false, p_sw, Int.reduceAdd, Int.zero_add, Option.some.injEq, Value.int.injEq, Value.long.injEq, Value.ref.injEq, exists_eq_left', mk_I, mk_L, mk_wI, mk_wL, rf_s, rf_n, true_and, and_true, and_self, or_true, true_or, or_false, false_or, not_true_eq_false, not_false_eq_true, Option.toList_some, Option.toList_none, List.cons_append, List.nil_append, List.map_nil, List.map_cons, List.sum_nil, List.sum_cons, cat_i, cat_l, cat_r, cat_n, Nat.reduceLeDiff, Nat.reduceAdd, Nat.reduceEqDiff, Nat.zero_le, p_ent, p_u_ne, p_u_at, reduceIte, if_true, if_false, P_ce (sp_261), P_ce (fin I), P_ce (sp_129 _), n_0]
  | succ r ih =>
    intro hr I K s a h hd hs ha e46 e47
    have hV := h.2.1
    have g3 : K 3 = nI (kn K 3) ∧ kn K 3 ≤ 999 := kn_e hV (by omega) (by omega) (by omega)
    have u0 : I 125 3 = nI (kn K 3) := by rw [h.1]; exact g3.1
    by_cases h3 : kn K 3 < 999
    · have ev : hlp c (kn K0 52) (kn K0 53) (r + 1) (K, s, a) = hlp c (kn K0 52) (kn K0 53) r (nxK c (vis c (kn K0 52) (kn K0 53) (K, s)).1 2 (nI 0), (vis c (kn K0 52) (kn K0 53) (K, s)).2, a + (if pc (kn (vis c (kn K0 52) (kn K0 53) (K, s)).1 0) = 1 then 1 else 0)) := by
        show (if kn K 3 < 999 then _ else _) = _
        rw [if_pos h3]
      rw [ev]
      obtain ⟨J1, f1, j1, j47, s1⟩ := vis_m (Ls := Ls) (L := L) (R := R) (X := X) (D := D') (by omega) hm0 hn0 h hd hs e46 e47 h3
      obtain ⟨d1, d2⟩ := dOk_vis (n := kn K0 52) (m := kn K0 53) (x := (K, s)) hd
      generalize vis c (kn K0 52) (kn K0 53) (K, s) = V at *
      have hle : a + (if pc (kn V.1 0) = 1 then 1 else 0) + r ≤ N := by split <;> omega
      have d3 := dOk_nx (kd := 2) (v := nI 0) d1
      obtain ⟨J2, f2, j2, s2⟩ := ih (by omega) J1 _ V.2 _ ⟨j1, d3.1, d3.2.1⟩ d3 d2 hle (by rw [f1.2 46 (by omega) (by omega)]; exact e46) j47
      refine ⟨J2, frR_tr f1 f2, j2, ?_⟩
      have eN : N - (r + 1) + 1 = N - r := by omega
      by_cases hp : pc (kn V.1 0) = 1
      · rw [if_pos hp] at s1 s2 ⊢
        rw [P_run_eq, bk_262_5, pb_262_5]; simp -implicitDefEqProofs (disch := first | omega | decide) only [P_m, ↓P_run_eq _ 262 _ (p_bk 262 6), bk_262_6, pb_262_6, ↓P_run_eq _ 262 _ (p_bk 262 7), bk_262_7, pb_262_7, pw_iload_4, pw_iload_n2, pw_cge, pw_aload_n0, pw_aloadN_n0, pw_getR, pw_iconst, il_3, pw_iald, pw_sipush, sl_999, pw_iload_n3, pw_iv1, pw_zeq, il_1, pw_goto, il_0, pw_nop, pw_iadd, pw_istore_n3, ps_3, pe_3, po_i3, po_r3, po_n3, po_u3, pw_iinc_4, po_i4, po_r4, po_n4, po_u4, kd_123, rf_123_1, rf_123_2, rf_123_3, rf_123_4, rf_123_5, rf_123_7, rf_123_11, rf_123_12, rf_123_15, rf_123_16, rf_123_17, rf_123_26, rf_123_29, rf_123_30, rf_123_32, rf_123_34, rf_123_35, rf_123_45, kd_125, n_0, n_1, n_3, n_999, nn_lt, nn_nlt, nn_le, nn_nle, nn_ne, nn_sub, nn_mul, nI_add, nn_neg, nm_eq, mn_eq, mm_eq, mn_lt, nm_lt, mn_le, nm_le, nn_sub0, nn_of, implies_true, nn_c, nn_in, nn_div, nat_rem, Nat.reduceMul, Nat.reduceSub, Nat.reduceDiv, Nat.reduceMod, pf_at, pf_ne, mk_s, mk_1, Classical.not_not, b2i_T, b2i_F, false_imp_iff, true_imp_iff, false_and, and_false, p_sw, Int.reduceAdd, Int.zero_add, Option.some.injEq, Value.int.injEq, Value.long.injEq, Value.ref.injEq, exists_eq_left', mk_I, mk_L, mk_wI, mk_wL, rf_s, rf_n, true_and, and_true, and_self, or_true, true_or, or_false, false_or, not_true_eq_false, not_false_eq_true, Option.toList_some, Option.toList_none, List.cons_append, List.nil_append, List.map_nil, List.map_cons, List.sum_nil, List.sum_cons, cat_i, cat_l, cat_r, cat_n, Nat.reduceLeDiff, Nat.reduceAdd, Nat.reduceEqDiff, Nat.zero_le, p_ent, p_u_ne, p_u_at, reduceIte, if_true, if_false, u0, P_ce s1, eN]
        exact s2
      · rw [if_neg hp] at s1
        rw [if_neg hp, Nat.add_zero] at s2 ⊢
        rw [P_run_eq, bk_262_5, pb_262_5]; simp -implicitDefEqProofs (disch := first | omega | decide) only [P_m, ↓P_run_eq _ 262 _ (p_bk 262 6), bk_262_6, pb_262_6, ↓P_run_eq _ 262 _ (p_bk 262 7), bk_262_7, pb_262_7, pw_iload_4, pw_iload_n2, pw_cge, pw_aload_n0, pw_aloadN_n0, pw_getR, pw_iconst, il_3, pw_iald, pw_sipush, sl_999, pw_iload_n3, pw_iv1, pw_zeq, il_1, pw_goto, il_0, pw_nop, pw_iadd, pw_istore_n3, ps_3, pe_3, po_i3, po_r3, po_n3, po_u3, pw_iinc_4, po_i4, po_r4, po_n4, po_u4, kd_123, rf_123_1, rf_123_2, rf_123_3, rf_123_4, rf_123_5, rf_123_7, rf_123_11, rf_123_12, rf_123_15, rf_123_16, rf_123_17, rf_123_26, rf_123_29, rf_123_30, rf_123_32, rf_123_34, rf_123_35, rf_123_45, kd_125, n_0, n_1, n_3, n_999, nn_lt, nn_nlt, nn_le, nn_nle, nn_ne, nn_sub, nn_mul, nI_add, nn_neg, nm_eq, mn_eq, mm_eq, mn_lt, nm_lt, mn_le, nm_le, nn_sub0, nn_of, implies_true, nn_c, nn_in, nn_div, nat_rem, Nat.reduceMul, Nat.reduceSub, Nat.reduceDiv, Nat.reduceMod, pf_at, pf_ne, mk_s, mk_1, Classical.not_not, b2i_T, b2i_F, false_imp_iff, true_imp_iff, false_and, and_false, p_sw, Int.reduceAdd, Int.zero_add, Option.some.injEq, Value.int.injEq, Value.long.injEq, Value.ref.injEq, exists_eq_left', mk_I, mk_L, mk_wI, mk_wL, rf_s, rf_n, true_and, and_true, and_self, or_true, true_or, or_false, false_or, not_true_eq_false, not_false_eq_true, Option.toList_some, Option.toList_none, List.cons_append, List.nil_append, List.map_nil, List.map_cons, List.sum_nil, List.sum_cons, cat_i, cat_l, cat_r, cat_n, Nat.reduceLeDiff, Nat.reduceAdd, Nat.reduceEqDiff, Nat.zero_le, p_ent, p_u_ne, p_u_at, reduceIte, if_true, if_false, u0, P_ce s1, eN, Nat.add_zero]
        exact s2
    · have ev : hlp c (kn K0 52) (kn K0 53) (r + 1) (K, s, a) = (K, s, a) := by
        show (if kn K 3 < 999 then _ else _) = _
        rw [if_neg h3]
      rw [ev]
      have h3' : kn K 3 = 999 := by omega
      rw [h3'] at u0
      refine ⟨I, ⟨fun _ _ _ _ => rfl, fun _ _ _ => rfl⟩, h.1, ?_⟩
      rw [P_run_eq, bk_262_5, pb_262_5]; simp -implicitDefEqProofs (disch := first | omega | decide) only [P_m, ↓P_run_eq _ 262 _ (p_bk 262 8), bk_262_8, pb_262_8, pw_iload_4, pw_iload_n2, pw_cge, pw_aload_n0, pw_aloadN_n0, pw_getR, pw_iconst, il_3, pw_iald, pw_sipush, sl_999, pw_iload_n3, pw_iv1, pw_zeq, il_1, pw_goto, il_0, pw_iv2, pw_ret0, kd_123, rf_123_1, rf_123_2, rf_123_3, rf_123_4, rf_123_5, rf_123_7, rf_123_11, rf_123_12, rf_123_15, rf_123_16, rf_123_17, rf_123_26, rf_123_29, rf_123_30, rf_123_32, rf_123_34, rf_123_35, rf_123_45, kd_125, n_0, n_1, n_3, n_999, nn_lt, nn_nlt, nn_le, nn_nle, nn_ne, nn_sub, nn_mul, nI_add, nn_neg, nm_eq, mn_eq, mm_eq, mn_lt, nm_lt, mn_le, nm_le, nn_sub0, nn_of, implies_true, nn_c, nn_in, nn_div, nat_rem, Nat.reduceMul, Nat.reduceSub, Nat.reduceDiv, Nat.reduceMod, pf_at, pf_ne, mk_s, mk_1, Classical.not_not, b2i_T, b2i_F, false_imp_iff, true_imp_iff, false_and, and_false, p_sw, Int.reduceAdd, Int.zero_add, Option.some.injEq, Value.int.injEq, Value.long.injEq, Value.ref.injEq, exists_eq_left', mk_I, mk_L, mk_wI, mk_wL, rf_s, rf_n, true_and, and_true, and_self, or_true, true_or, or_false, false_or, not_true_eq_false, not_false_eq_true, Option.toList_some, Option.toList_none, List.cons_append, List.nil_append, List.map_nil, List.map_cons, List.sum_nil, List.sum_cons, cat_i, cat_l, cat_r, cat_n, Nat.reduceLeDiff, Nat.reduceAdd, Nat.reduceEqDiff, Nat.zero_le, p_ent, p_u_ne, p_u_at, reduceIte, if_true, if_false, u0, P_ce (sp_261), P_ce (fin I), P_ce (sp_129 _), n_0]
theorem dOk_hlp : ∀ (r : Nat) (x : (Nat → Int32) × Nat × Nat), dOk K0 c x.1 → dOk K0 c (hlp c (kn K0 52) (kn K0 53) r x).1
  | 0, x, h => h
  | r + 1, x, h => by
    unfold hlp
    split
    · exact dOk_hlp r _ (dOk_nx (dOk_vis (n := kn K0 52) (m := kn K0 53) (x := (x.1, x.2.1)) h).1)
    · exact h
end HT
