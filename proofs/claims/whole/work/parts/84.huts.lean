section RN
variable {d Ls : Nat} {I : Nat → Nat → Int32} {L : Nat → Nat → Int64} {R : Nat → Nat → Option Nat} {X : List pKd}
theorem rcn_3 : P_m d 116 [.ref 32, .int (mI 3)] (p_mk Ls I L R X) (fun v h' => v = some (.int (mI 3)) ∧ h' = p_mk Ls (p_u (p_u I 32 14 (mI 3)) 122 3 (I 122 3 + 1)) L R X) := rc_3
theorem rmn_3 : P_m d 128 [.ref 123, .int (mI 3)] (p_mk Ls I L R X) (fun v h' => v = some (.int (mI 3)) ∧ h' = p_mk Ls (p_u (p_u I 123 0 (mI 3)) 124 3 (I 124 3 + 1)) L R X) := rm_3
end RN
section QH
variable {d Ls : Nat} {I : Nat → Nat → Int32} {L : Nat → Nat → Int64} {R : Nat → Nat → Option Nat} {X : List pKd} {c : Option (List tCl)}
theorem fRef_lt {K : Nat → Int32} (hV : vld K) (h : ¬ K 56 = -1) : (K 56).toNatClampNeg < 6 := by
  obtain ⟨f, hf, e⟩ := hV.2.2.2.2.resolve_left h
  obtain ⟨m, hm, em⟩ := hV.1.2.2.2.1
  rw [em, nI_c (by omega)] at hf
  rw [e, nI_c (by omega)]
  omega
theorem q_huts (w v : Int32) (H : Inv I R X) : Same (d + 60) 110 262 [.int w, .int v] Ls (p_mk Ls I L R X) := by
  obtain ⟨c, hx⟩ := Inv_cx (Ls := Ls) H
  have hV := hx.2.2.1
  obtain ⟨m1, m2⟩ := kn_53 hV
  obtain ⟨t1, t2⟩ := kn_52 hV
  obtain ⟨⟨r1, r2, -⟩, -⟩ := hutR_at hx.1
  have r2' := r2.trans m1
  have r1' := r1.trans t1
  obtain ⟨e0, e9⟩ := Inv_K0 H
  by_cases hw : 0 ≤ w ∧ w ≤ 1000000
  · by_cases hv : 1 ≤ v ∧ v ≤ 40
    · obtain ⟨s, hs, rfl⟩ := nI_of2 (x := w) (M := 1000000) (n := 1000000) rfl (Int32.not_lt.mpr hw.1) hw.2
      obtain ⟨N, hN, rfl⟩ := nI_of2 (x := v) (M := 40) (n := 40) rfl (fun c9 => absurd hv.1 (Int32.not_le.mpr (Int32.lt_trans c9 (by decide)))) hv.2
      have hN1 : 1 ≤ N := (nI_leI (a := 1) (by omega) (by omega)).mp hv.1
      have b1 : b2i (nI 0 ≤ nI s ∧ nI s ≤ nI 1000000) = nI 1 := b2i_t hw
      have b2 : b2i (nI 1 ≤ nI N ∧ nI N ≤ nI 40) = nI 1 := b2i_t hv
      by_cases h0 : kn (I 125) 52 = 0 ∨ kn (I 125) 53 = 0
      · rcases h0 with h0 | h0
        · rw [h0] at t1 r1'
          simp -implicitDefEqProofs (disch := first | omega | decide) only [P_m, ↓P_run_eq _ 110 _ (p_bk 110 0), bk_110_0, pb_110_0, ↓P_run_eq _ 110 _ (p_bk 110 2), bk_110_2, pb_110_2, ↓P_run_eq _ 110 _ (p_bk 110 3), bk_110_3, pb_110_3, ↓P_run_eq _ 262 _ (p_bk 262 0), bk_262_0, pb_262_0, ↓P_run_eq _ 262 _ (p_bk 262 2), bk_262_2, pb_262_2, ↓P_run_eq _ 262 _ (p_bk 262 3), bk_262_3, pb_262_3, pw_iload_n1, pw_zlt, pw_ldcw, cn_3, pw_cgt, pw_iload_n2, pw_iconst, il_1, pw_clt, pw_bipush, bl_40, pw_cle, pw_nop, pw_aload_n0, pw_aloadN_n0, pw_getR, pw_getI, pw_zeq, pw_zne, bl_m3, pw_iv2, pw_ret0, il_0, pw_ldc, cn_6, pw_is3, bl_52, pw_iald, bl_53, kd_32, rf_32_0, rf_32_1, rf_32_2, rf_32_3, rf_32_4, rf_32_5, rf_32_6, rf_32_7, rf_32_8, rf_32_9, rf_32_11, rf_32_12, rf_32_13, kd_71, rf_71_1, rf_71_3, rf_71_4, rf_71_5, rf_71_6, rf_71_11, rf_71_12, rf_71_14, kd_123, rf_123_1, rf_123_2, rf_123_3, rf_123_4, rf_123_5, rf_123_7, rf_123_11, rf_123_12, rf_123_15, rf_123_16, rf_123_17, rf_123_26, rf_123_29, rf_123_30, rf_123_32, rf_123_34, rf_123_35, rf_123_45, kd_125, n_0, n_1, n_40, n_52, n_53, nn_lt, nn_nlt, nn_le, nn_nle, nn_ne, nn_sub, nn_mul, nI_add, nn_neg, nm_eq, mn_eq, mm_eq, mn_lt, nm_lt, mn_le, nm_le, nn_sub0, nn_of, implies_true, nn_c, nn_in, nn_div, nat_rem, Nat.reduceMul, Nat.reduceSub, Nat.reduceDiv, Nat.reduceMod, pf_at, pf_ne, mk_s, mk_1, Classical.not_not, b2i_T, b2i_F, false_imp_iff, true_imp_iff, false_and, and_false, p_sw, Int.reduceAdd, Int.zero_add, Option.some.injEq, Value.int.injEq, Value.long.injEq, Value.ref.injEq, exists_eq_left', mk_I, mk_L, mk_wI, mk_wL, rf_s, rf_n, true_and, and_true, and_self, or_true, true_or, or_false, false_or, not_true_eq_false, not_false_eq_true, Option.toList_some, Option.toList_none, List.cons_append, List.nil_append, List.map_nil, List.map_cons, List.sum_nil, List.sum_cons, cat_i, cat_l, cat_r, cat_n, Nat.reduceLeDiff, Nat.reduceAdd, Nat.reduceEqDiff, Nat.zero_le, p_ent, p_u_ne, p_u_at, reduceIte, if_true, if_false, Same, n_1000000, P_ce (sp_125 _ _ _), b1, b2, r1', t1, P_ce rcn_3, P_ce rmn_3, n_3]
          exact ⟨_, _, _, _, rfl, inv_no (-3) 3 (by decide) H⟩
        · rw [h0] at m1 r2'
          rcases Nat.eq_zero_or_pos (kn (I 125) 52) with h1 | h1
          · rw [h1] at t1 r1'
            simp -implicitDefEqProofs (disch := first | omega | decide) only [P_m, ↓P_run_eq _ 110 _ (p_bk 110 0), bk_110_0, pb_110_0, ↓P_run_eq _ 110 _ (p_bk 110 2), bk_110_2, pb_110_2, ↓P_run_eq _ 110 _ (p_bk 110 3), bk_110_3, pb_110_3, ↓P_run_eq _ 262 _ (p_bk 262 0), bk_262_0, pb_262_0, ↓P_run_eq _ 262 _ (p_bk 262 2), bk_262_2, pb_262_2, ↓P_run_eq _ 262 _ (p_bk 262 3), bk_262_3, pb_262_3, pw_iload_n1, pw_zlt, pw_ldcw, cn_3, pw_cgt, pw_iload_n2, pw_iconst, il_1, pw_clt, pw_bipush, bl_40, pw_cle, pw_nop, pw_aload_n0, pw_aloadN_n0, pw_getR, pw_getI, pw_zeq, pw_zne, bl_m3, pw_iv2, pw_ret0, il_0, pw_ldc, cn_6, pw_is3, bl_52, pw_iald, bl_53, kd_32, rf_32_0, rf_32_1, rf_32_2, rf_32_3, rf_32_4, rf_32_5, rf_32_6, rf_32_7, rf_32_8, rf_32_9, rf_32_11, rf_32_12, rf_32_13, kd_71, rf_71_1, rf_71_3, rf_71_4, rf_71_5, rf_71_6, rf_71_11, rf_71_12, rf_71_14, kd_123, rf_123_1, rf_123_2, rf_123_3, rf_123_4, rf_123_5, rf_123_7, rf_123_11, rf_123_12, rf_123_15, rf_123_16, rf_123_17, rf_123_26, rf_123_29, rf_123_30, rf_123_32, rf_123_34, rf_123_35, rf_123_45, kd_125, n_0, n_1, n_40, n_52, n_53, nn_lt, nn_nlt, nn_le, nn_nle, nn_ne, nn_sub, nn_mul, nI_add, nn_neg, nm_eq, mn_eq, mm_eq, mn_lt, nm_lt, mn_le, nm_le, nn_sub0, nn_of, implies_true, nn_c, nn_in, nn_div, nat_rem, Nat.reduceMul, Nat.reduceSub, Nat.reduceDiv, Nat.reduceMod, pf_at, pf_ne, mk_s, mk_1, Classical.not_not, b2i_T, b2i_F, false_imp_iff, true_imp_iff, false_and, and_false, p_sw, Int.reduceAdd, Int.zero_add, Option.some.injEq, Value.int.injEq, Value.long.injEq, Value.ref.injEq, exists_eq_left', mk_I, mk_L, mk_wI, mk_wL, rf_s, rf_n, true_and, and_true, and_self, or_true, true_or, or_false, false_or, not_true_eq_false, not_false_eq_true, Option.toList_some, Option.toList_none, List.cons_append, List.nil_append, List.map_nil, List.map_cons, List.sum_nil, List.sum_cons, cat_i, cat_l, cat_r, cat_n, Nat.reduceLeDiff, Nat.reduceAdd, Nat.reduceEqDiff, Nat.zero_le, p_ent, p_u_ne, p_u_at, reduceIte, if_true, if_false, Same, n_1000000, P_ce (sp_125 _ _ _), b1, b2, r1', t1, P_ce rcn_3, P_ce rmn_3, n_3]
            exact ⟨_, _, _, _, rfl, inv_no (-3) 3 (by decide) H⟩
          · simp -implicitDefEqProofs (disch := first | omega | decide) only [P_m, ↓P_run_eq _ 110 _ (p_bk 110 0), bk_110_0, pb_110_0, ↓P_run_eq _ 110 _ (p_bk 110 2), bk_110_2, pb_110_2, ↓P_run_eq _ 110 _ (p_bk 110 3), bk_110_3, pb_110_3, ↓P_run_eq _ 262 _ (p_bk 262 0), bk_262_0, pb_262_0, ↓P_run_eq _ 262 _ (p_bk 262 2), bk_262_2, pb_262_2, ↓P_run_eq _ 262 _ (p_bk 262 3), bk_262_3, pb_262_3, pw_iload_n1, pw_zlt, pw_ldcw, cn_3, pw_cgt, pw_iload_n2, pw_iconst, il_1, pw_clt, pw_bipush, bl_40, pw_cle, pw_nop, pw_aload_n0, pw_aloadN_n0, pw_getR, pw_getI, pw_zeq, pw_zne, bl_m3, pw_iv2, pw_ret0, il_0, pw_ldc, cn_6, pw_is3, bl_52, pw_iald, bl_53, kd_32, rf_32_0, rf_32_1, rf_32_2, rf_32_3, rf_32_4, rf_32_5, rf_32_6, rf_32_7, rf_32_8, rf_32_9, rf_32_11, rf_32_12, rf_32_13, kd_71, rf_71_1, rf_71_3, rf_71_4, rf_71_5, rf_71_6, rf_71_11, rf_71_12, rf_71_14, kd_123, rf_123_1, rf_123_2, rf_123_3, rf_123_4, rf_123_5, rf_123_7, rf_123_11, rf_123_12, rf_123_15, rf_123_16, rf_123_17, rf_123_26, rf_123_29, rf_123_30, rf_123_32, rf_123_34, rf_123_35, rf_123_45, kd_125, n_0, n_1, n_40, n_52, n_53, nn_lt, nn_nlt, nn_le, nn_nle, nn_ne, nn_sub, nn_mul, nI_add, nn_neg, nm_eq, mn_eq, mm_eq, mn_lt, nm_lt, mn_le, nm_le, nn_sub0, nn_of, implies_true, nn_c, nn_in, nn_div, nat_rem, Nat.reduceMul, Nat.reduceSub, Nat.reduceDiv, Nat.reduceMod, pf_at, pf_ne, mk_s, mk_1, Classical.not_not, b2i_T, b2i_F, false_imp_iff, true_imp_iff, false_and, and_false, p_sw, Int.reduceAdd, Int.zero_add, Option.some.injEq, Value.int.injEq, Value.long.injEq, Value.ref.injEq, exists_eq_left', mk_I, mk_L, mk_wI, mk_wL, rf_s, rf_n, true_and, and_true, and_self, or_true, true_or, or_false, false_or, not_true_eq_false, not_false_eq_true, Option.toList_some, Option.toList_none, List.cons_append, List.nil_append, List.map_nil, List.map_cons, List.sum_nil, List.sum_cons, cat_i, cat_l, cat_r, cat_n, Nat.reduceLeDiff, Nat.reduceAdd, Nat.reduceEqDiff, Nat.zero_le, p_ent, p_u_ne, p_u_at, reduceIte, if_true, if_false, Same, n_1000000, P_ce (sp_125 _ _ _), b1, b2, r1', t1, r2', m1, P_ce rcn_3, P_ce rmn_3, n_3]
            exact ⟨_, _, _, _, rfl, inv_no (-3) 3 (by decide) H⟩
      · have hn0 : 0 < kn (I 125) 52 := by omega
        have hm0 : 0 < kn (I 125) 53 := by omega
        have sC := sp_3_93_71 (d := d + 59) (Ls := Ls) (I := I) (L := L) (R := R) (X := X) hx.2.1
        have e101 : ∀ i, i < 6 → cpR 93 71 R 101 i = R 79 i := fun i hi => cpR_at hi
        have eR : ∀ a, ¬ a = 101 → cpR 93 71 R a = R a := fun a ha => cpR_fr ha
        generalize hI1 : p_u (p_u (cpI 93 71 I) 32 10 (nI 1)) 70 0 (nI s) = I1
        have i1 : ∀ a, (a < 93 ∨ 100 < a) → ¬ a = 32 → ¬ a = 70 → I1 a = I a := fun a a1 a2 a3 => by rw [← hI1, p_u_ne a3, p_u_ne a2, cpI_fr (by omega)]
        have i32 : ∀ k, ¬ k = 10 → I1 32 k = I 32 k := fun k hk => by rw [← hI1, p_u_ne (by omega), p_u_at, if_neg hk, cpI_fr (by omega)]
        have i3210 : I1 32 10 = 1 := by rw [← hI1, p_u_ne (by omega), p_u_at, if_pos rfl]; rfl
        have hR1 : hutR I1 93 (I 125) := hutR_f (cpI_hR hx.1) (fun b b1 b2 => by rw [← hI1, p_u_ne (by omega), p_u_ne (by omega)])
        have eF : fRef (cpR 93 71 R) 93 (I 125) = fRef R 71 (I 125) := by
          unfold fRef
          by_cases h56 : I 125 56 = -1
          · rw [if_pos h56, if_pos h56]
          · rw [if_neg h56, if_neg h56]
            exact e101 _ (fRef_lt hV h56)
        have hc1 : Cah Ls I1 (cpR 93 71 R) X (I 125) c := by
          refine ⟨hR1, ?_, hV, hx.2.2.2.1, ?_⟩
          · intro i hi
            rw [e101 i hi]
            exact hx.2.1 i hi
          · rw [eF]
            exact clw_R (clw_fr hx.2.2.2.2 (fun a ha => i1 a (by omega) (by omega) (by omega))) (fun a ha => eR a (by omega))
        have hd0 : dOk (I 125) c (I 125) := ⟨hV, hx.2.2.2.1, rfl, rfl, rfl, fun _ _ => rfl⟩
        obtain ⟨J1, f1, j32, j3214, hRJ, s1⟩ := lp_110 (Ls := Ls) (L := L) (R := cpR 93 71 R) (X := X) (D := d + 60) (N := N) (sd := nI s) (by omega) hN hm0 hn0 N (Nat.le_refl _) I1 (I 125) s 0 hc1 hd0 (by omega) (by omega) (by rw [← hI1, p_u_at, if_pos rfl]) (by rw [i1 1 (by omega) (by omega) (by omega)]; exact e0) (by rw [i1 1 (by omega) (by omega) (by omega)]; exact e9)
        rw [Nat.sub_self] at s1
        have fJ : ∀ a, (a < 93 ∨ 100 < a) → ¬ a = 46 → ¬ a = 47 → ¬ a = 70 → ¬ a = 32 → J1 a = I a := fun a a1 a2 a3 a4 a5 => by
          have := f1 a a1 a2 a3 a4
          rw [p_u_ne a5] at this
          rw [this, i1 a a1 a5 a4]
        have dF := dOk_hlp (K0 := I 125) (c := c) N (I 125, s, 0) hd0
        generalize hX : hlp c (kn (I 125) 52) (kn (I 125) 53) N (I 125, s, 0) = XX at *
        have cl : P_m (d + 60) 110 [.ref 32, .int (nI s), .int (nI N)] (p_mk Ls I L R X) (fun v h' => v = some (.int (nI XX.2.2)) ∧ h' = p_mk Ls J1 L (cpR 93 71 R) X) := by
          have nz1 : ¬ nI (kn (I 125) 52) = nI 0 := fun e => absurd ((nI_eq (by omega) (by omega)).mp e) (by omega)
          have nz2 : ¬ nI (kn (I 125) 53) = nI 0 := fun e => absurd ((nI_eq (by omega) (by omega)).mp e) (by omega)
          simp -implicitDefEqProofs (disch := first | omega | decide) only [P_m, ↓P_run_eq _ 110 _ (p_bk 110 0), bk_110_0, pb_110_0, ↓P_run_eq _ 110 _ (p_bk 110 2), bk_110_2, pb_110_2, ↓P_run_eq _ 110 _ (p_bk 110 4), bk_110_4, pb_110_4, pw_iload_n1, pw_zlt, pw_ldcw, cn_3, pw_cgt, pw_iload_n2, pw_iconst, il_1, pw_clt, pw_bipush, bl_40, pw_cle, pw_nop, pw_aload_n0, pw_aloadN_n0, pw_getR, pw_getI, pw_zeq, pw_zne, pw_iv2, pw_putZ, pw_putI, il_0, pw_istore_n3, ps_3, pe_3, po_i3, po_r3, po_n3, po_u3, pw_istore, ps_4, pe_4, po_i4, po_r4, po_n4, po_u4, kd_32, rf_32_0, rf_32_1, rf_32_2, rf_32_3, rf_32_4, rf_32_5, rf_32_6, rf_32_7, rf_32_8, rf_32_9, rf_32_11, rf_32_12, rf_32_13, kd_70, kd_71, rf_71_1, rf_71_3, rf_71_4, rf_71_5, rf_71_6, rf_71_11, rf_71_12, rf_71_14, kd_93, rf_93_1, rf_93_3, rf_93_4, rf_93_5, rf_93_6, rf_93_11, rf_93_12, rf_93_14, n_0, n_1, n_40, nn_lt, nn_nlt, nn_le, nn_nle, nn_ne, nn_sub, nn_mul, nI_add, nn_neg, nm_eq, mn_eq, mm_eq, mn_lt, nm_lt, mn_le, nm_le, nn_sub0, nn_of, implies_true, nn_c, nn_in, nn_div, nat_rem, Nat.reduceMul, Nat.reduceSub, Nat.reduceDiv, Nat.reduceMod, pf_at, pf_ne, mk_s, mk_1, Classical.not_not, b2i_T, b2i_F, false_imp_iff, true_imp_iff, false_and, and_false, p_sw, Int.reduceAdd, Int.zero_add, Option.some.injEq, Value.int.injEq, Value.long.injEq, Value.ref.injEq, exists_eq_left', mk_I, mk_L, mk_wI, mk_wL, rf_s, rf_n, true_and, and_true, and_self, or_true, true_or, or_false, false_or, not_true_eq_false, not_false_eq_true, Option.toList_some, Option.toList_none, List.cons_append, List.nil_append, List.map_nil, List.map_cons, List.sum_nil, List.sum_cons, cat_i, cat_l, cat_r, cat_n, Nat.reduceLeDiff, Nat.reduceAdd, Nat.reduceEqDiff, Nat.zero_le, p_ent, p_u_ne, p_u_at, reduceIte, if_true, if_false, n_1000000, r1', r2', P_ce sC, hI1]
          exact s1
        unfold Same
        refine p_run_Q cl ?_
        rintro _ _ ⟨rfl, rfl⟩
        refine ⟨_, rfl, ?_⟩
        -- the reference
        have e125 : J1 125 = I 125 := fJ 125 (by omega) (by omega) (by omega) (by omega) (by omega)
        have e123 : J1 123 = I 123 := fJ 123 (by omega) (by omega) (by omega) (by omega) (by omega)
        generalize hZ : p_u (p_u J1 123 47 (nI s)) 123 46 (nI (kn (I 125) 53)) = Z
        have zN : ∀ a, ¬ a = 123 → Z a = J1 a := fun a ha => by rw [← hZ, p_u_ne ha, p_u_ne ha]
        have z123 : ∀ k, ¬ k = 46 → ¬ k = 47 → Z 123 k = I 123 k := fun k k1 k2 => by rw [← hZ, p_u_at, if_neg k1, p_u_at, if_neg k2, e123]
        have sA := sp_134 (d := d + 59) (Ls := Ls) (I := Z) (L := L) (R := cpR 93 71 R) (X := X)
        rw [zN 125 (by omega), e125] at sA
        generalize hY : p_fn Z 128 (va_cpy (I 125) (Z 128) 0 0 13) = Y at sA
        have yN : ∀ a, ¬ a = 128 → Y a = Z a := fun a ha => by rw [← hY, pf_ne ha]
        have y128 : ∀ i, i < 13 → Y 128 i = I 125 i := fun i hi => by rw [← hY, pf_at]; exact cp_lt hi
        have y125 : Y 125 = I 125 := by rw [yN 125 (by omega), zN 125 (by omega), e125]
        obtain ⟨J2, f2, j2, s2⟩ := lp_262 (Ls := Ls) (L := L) (R := cpR 93 71 R) (X := X) (D := d + 60) (N := N) (sd := nI s) (by omega) hN hm0 hn0 N (Nat.le_refl _) Y (I 125) s 0 ⟨y125, hV, hx.2.2.2.1⟩ hd0 (by omega) (by omega) (by rw [yN 123 (by omega), ← hZ, p_u_at, if_pos rfl]) (by rw [yN 123 (by omega), ← hZ, p_u_at, if_neg (by omega), p_u_at, if_pos rfl])
        rw [Nat.sub_self, hX] at s2
        rw [hX] at j2
        have j128 : J2 128 = Y 128 := f2.1 128 (by omega) (by omega) (by omega)
        have k125 : va_cpy (J2 128) (J2 125) 0 0 13 = I 125 := by
          funext j
          rcases Nat.lt_or_ge j 13 with hj | hj
          · rw [cp_lt hj, j128, y128 j hj]
          · unfold va_cpy
            rw [if_neg (by omega), j2, dF.2.2.2.2.2 j hj]
        rw [k125] at s2
        have fin : Inv (p_u (p_fn (p_fn J2 141 (va_cpy (J2 125) (J2 141) 0 0 13)) 125 (I 125)) 123 0 (nI 0)) (cpR 93 71 R) X := by
          have HR := Inv_R H (R' := cpR 93 71 R) (fun a ha => eR a (by omega))
          generalize hG : p_u (p_fn (p_fn J2 141 (va_cpy (J2 125) (J2 141) 0 0 13)) 125 (I 125)) 123 0 (nI 0) = G
          have gN : ∀ a, ¬ a = 123 → ¬ a = 125 → ¬ a = 141 → G a = J2 a := fun a a1 a2 a3 => by rw [← hG, p_u_ne a1, pf_ne a2, pf_ne a3]
          have gA : ∀ a, (a < 93 ∨ 100 < a) → ¬ a = 46 → ¬ a = 47 → ¬ a = 70 → ¬ a = 32 → ¬ a = 123 → ¬ a = 125 → ¬ a = 128 → ¬ a = 135 → ¬ a = 141 → G a = I a := fun a a1 a2 a3 a4 a5 a6 a7 a8 a9 a10 => by
            rw [gN a a6 a7 a10, f2.1 a a6 a7 a9, yN a a8, zN a a6, fJ a a1 a2 a3 a4 a5]
          have gJ : ∀ a, ¬ a = 123 → ¬ a = 125 → ¬ a = 128 → ¬ a = 135 → ¬ a = 141 → G a = J1 a := fun a a6 a7 a8 a9 a10 => by
            rw [gN a a6 a7 a10, f2.1 a a6 a7 a9, yN a a8, zN a a6]
          have g125 : G 125 = I 125 := by rw [← hG, p_u_ne (by omega), pf_at]
          have g123 : ∀ k, ¬ (22 ≤ k ∧ k ≤ 25) → ¬ k = 47 → ¬ k = 46 → ¬ k = 0 → G 123 k = I 123 k := fun k k1 k2 k3 k4 => by
            rw [← hG, p_u_at, if_neg k4, pf_ne (by omega), pf_ne (by omega), f2.2 k k1 k2, yN 123 (by omega), z123 k k3 k2]
          have g0 : G 123 0 = 0 := by rw [← hG, p_u_at, if_pos rfl]; rfl
          have g46 : G 123 46 = nI (kn (I 125) 53) := by rw [← hG, p_u_at, if_neg (by omega), pf_ne (by omega), pf_ne (by omega), f2.2 46 (by omega) (by omega), yN 123 (by omega), ← hZ, p_u_at, if_pos rfl]
          have g32 : ∀ k, ¬ k = 10 → ¬ k = 14 → G 32 k = I 32 k := fun k k1 k2 => by rw [gJ 32 (by omega) (by omega) (by omega) (by omega) (by omega), j32 k k2, i32 k k1]
          have g141 : ∀ i, i < 13 → G 141 i = XX.1 i := fun i hi => by rw [← hG, p_u_ne (by omega), pf_ne (by omega), pf_at, cp_lt hi, j2]
          obtain ⟨⟨a1, a2, a3, a4, a5, a6, a7, a8⟩, ⟨b0, b1, b2⟩, ba, -⟩ := hutR_at hRJ
          obtain ⟨h1, h2, h3, h4, h5, h6, h7, h8⟩ := HR
          refine ⟨invK_fr (fun a ha => gA a (by omega) (by omega) (by omega) (by omega) (by omega) (by omega) (by omega) (by omega) (by omega) (by omega)) (gA 129 (by omega) (by omega) (by omega) (by omega) (by omega) (by omega) (by omega) (by omega) (by omega) (by omega)) h1, ?_, invT_fr (by rw [gA 33 (by omega) (by omega) (by omega) (by omega) (by omega) (by omega) (by omega) (by omega) (by omega) (by omega)]) (gA 34 (by omega) (by omega) (by omega) (by omega) (by omega) (by omega) (by omega) (by omega) (by omega) (by omega)) (gA 130 (by omega) (by omega) (by omega) (by omega) (by omega) (by omega) (by omega) (by omega) (by omega) (by omega)) (g123 13 (by omega) (by omega) (by omega) (by omega)) h3, invU_fr (gA 80 (by omega) (by omega) (by omega) (by omega) (by omega) (by omega) (by omega) (by omega) (by omega) (by omega)) (gA 81 (by omega) (by omega) (by omega) (by omega) (by omega) (by omega) (by omega) (by omega) (by omega) (by omega)) (gA 136 (by omega) (by omega) (by omega) (by omega) (by omega) (by omega) (by omega) (by omega) (by omega) (by omega)) (by rw [g125]) (g123 31 (by omega) (by omega) (by omega) (by omega)) h4, invI_fr (fun b b1 b2 => gA b (by omega) (by omega) (by omega) (by omega) (by omega) (by omega) (by omega) (by omega) (by omega) (by omega)) (gA 126 (by omega) (by omega) (by omega) (by omega) (by omega) (by omega) (by omega) (by omega) (by omega) (by omega)) (gA 127 (by omega) (by omega) (by omega) (by omega) (by omega) (by omega) (by omega) (by omega) (by omega) (by omega)) (fun b b1 => gA b (by omega) (by omega) (by omega) (by omega) (by omega) (by omega) (by omega) (by omega) (by omega) (by omega)) rfl rfl (fun _ _ => rfl) h5, ?_, ?_, ?_⟩
          · refine ⟨fun k hk => ?_, ?_, ?_, ?_, ?_⟩
            · rw [gA 122 (by omega) (by omega) (by omega) (by omega) (by omega) (by omega) (by omega) (by omega) (by omega) (by omega), gA 124 (by omega) (by omega) (by omega) (by omega) (by omega) (by omega) (by omega) (by omega) (by omega) (by omega)]; exact h2.1 k hk
            · rw [gJ 32 (by omega) (by omega) (by omega) (by omega) (by omega), j3214, g0]
            · rw [g32 15 (by omega) (by omega), g123 14 (by omega) (by omega) (by omega) (by omega)]; exact h2.2.2.1
            · rw [g32 16 (by omega) (by omega), g123 37 (by omega) (by omega) (by omega) (by omega)]; exact h2.2.2.2.1
            · rw [g32 17 (by omega) (by omega), g123 6 (by omega) (by omega) (by omega) (by omega)]; exact h2.2.2.2.2
          · have e53 : XX.1 53 = nI (kn (I 125) 53) := dF.2.2.2.1.trans m1
            have gj93 := gJ 93 (by omega) (by omega) (by omega) (by omega) (by omega)
            have gj98 := gJ 98 (by omega) (by omega) (by omega) (by omega) (by omega)
            have gj100 := gJ 100 (by omega) (by omega) (by omega) (by omega) (by omega)
            refine Or.inr ⟨?_, ?_, ?_, ?_, ?_, ?_, ?_, fun i hi => ?_⟩
            · rw [gJ 32 (by omega) (by omega) (by omega) (by omega) (by omega), j32 10 (by omega), i3210]
            · rw [g46, gj93, a2, e53]
            · rw [gj93, a2, e53]; exact ⟨_, m2, rfl⟩
            · rw [gj93, a4, g141 0 (by omega)]
            · rw [gj93, a5, g141 1 (by omega)]
            · rw [gj100, g141 2 (by omega)]; exact b2
            · rw [gj100, g141 3 (by omega)]; exact b0
            · rw [gj98, g141 (5 + i) (by omega)]; exact (ba i hi).2.2.2.2
          · rw [g125]
            exact hut_fr (fun b b1 b2 => gA b (by omega) (by omega) (by omega) (by omega) (by omega) (by omega) (by omega) (by omega) (by omega) (by omega)) (fun b b1 => gA b (by omega) (by omega) (by omega) (by omega) (by omega) (by omega) (by omega) (by omega) (by omega) (by omega)) rfl (fun _ _ => rfl) h7
          · rw [g125]; exact h8
        have t1' : J1 125 52 = nI (kn (I 125) 52) := by rw [e125]; exact t1
        have m1' : J1 125 53 = nI (kn (I 125) 53) := by rw [e125]; exact m1
        have nz1 : ¬ nI (kn (I 125) 52) = nI 0 := fun e => absurd ((nI_eq (by omega) (by omega)).mp e) (by omega)
        have last := p_run_Q (Q2 := fun v2 h2 => v2 = some (.int (nI XX.2.2)) ∧ InvH Ls h2) s2 (by
          rintro _ _ ⟨rfl, rfl⟩
          exact ⟨rfl, _, _, _, _, rfl, fin⟩)
        simp -implicitDefEqProofs (disch := first | omega | decide) only [P_m, ↓P_run_eq _ 262 _ (p_bk 262 0), bk_262_0, pb_262_0, ↓P_run_eq _ 262 _ (p_bk 262 2), bk_262_2, pb_262_2, ↓P_run_eq _ 262 _ (p_bk 262 4), bk_262_4, pb_262_4, pw_iload_n1, pw_iconst, il_0, pw_ldc, cn_6, pw_is3, pw_zeq, pw_iload_n2, il_1, pw_bipush, bl_40, pw_zne, pw_nop, pw_aload_n0, pw_aloadN_n0, pw_getR, bl_52, pw_iald, bl_53, pw_putI, pw_iv2, pw_istore_n3, ps_3, pe_3, po_i3, po_r3, po_n3, po_u3, pw_istore, ps_4, pe_4, po_i4, po_r4, po_n4, po_u4, kd_123, rf_123_1, rf_123_2, rf_123_3, rf_123_4, rf_123_5, rf_123_7, rf_123_11, rf_123_12, rf_123_15, rf_123_16, rf_123_17, rf_123_26, rf_123_29, rf_123_30, rf_123_32, rf_123_34, rf_123_35, rf_123_45, kd_125, n_0, n_1, n_40, n_52, n_53, nn_lt, nn_nlt, nn_le, nn_nle, nn_ne, nn_sub, nn_mul, nI_add, nn_neg, nm_eq, mn_eq, mm_eq, mn_lt, nm_lt, mn_le, nm_le, nn_sub0, nn_of, implies_true, nn_c, nn_in, nn_div, nat_rem, Nat.reduceMul, Nat.reduceSub, Nat.reduceDiv, Nat.reduceMod, pf_at, pf_ne, mk_s, mk_1, Classical.not_not, b2i_T, b2i_F, false_imp_iff, true_imp_iff, false_and, and_false, p_sw, Int.reduceAdd, Int.zero_add, Option.some.injEq, Value.int.injEq, Value.long.injEq, Value.ref.injEq, exists_eq_left', mk_I, mk_L, mk_wI, mk_wL, rf_s, rf_n, true_and, and_true, and_self, or_true, true_or, or_false, false_or, not_true_eq_false, not_false_eq_true, Option.toList_some, Option.toList_none, List.cons_append, List.nil_append, List.map_nil, List.map_cons, List.sum_nil, List.sum_cons, cat_i, cat_l, cat_r, cat_n, Nat.reduceLeDiff, Nat.reduceAdd, Nat.reduceEqDiff, Nat.zero_le, p_ent, p_u_ne, p_u_at, reduceIte, if_true, if_false, n_1000000, P_ce (sp_125 _ _ _), b1, b2, t1', m1', hZ, P_ce sA]
        exact last
    · have b1 : b2i ((0 : Int32) ≤ w ∧ w ≤ 1000000) = 1 := b2i_t hw
      have b2 : b2i (1 ≤ v ∧ v ≤ 40) = 0 := b2i_f hv
      have w0 : ¬ w < 0 := Int32.not_lt.mpr hw.1
      have w1 : ¬ 1000000 < w := Int32.not_lt.mpr hw.2
      by_cases v0 : v < 1
      · simp -implicitDefEqProofs only [P_m, ↓P_run_eq _ 110 _ (p_bk 110 0), bk_110_0, pb_110_0, ↓P_run_eq _ 110 _ (p_bk 110 1), bk_110_1, pb_110_1, ↓P_run_eq _ 262 _ (p_bk 262 0), bk_262_0, pb_262_0, ↓P_run_eq _ 262 _ (p_bk 262 1), bk_262_1, pb_262_1, pw_iload_n1, pw_zlt, pw_ldcw, cn_3, pw_cgt, pw_iload_n2, pw_iconst, il_1, pw_clt, pw_bipush, bl_40, pw_cle, pw_nop, pw_aload_n0, pw_aloadN_n0, il_m1, pw_iv2, pw_ret0, il_0, pw_ldc, cn_6, pw_is3, pw_zeq, pw_zne, kd_32, rf_32_0, rf_32_1, rf_32_2, rf_32_3, rf_32_4, rf_32_5, rf_32_6, rf_32_7, rf_32_8, rf_32_9, rf_32_11, rf_32_12, rf_32_13, kd_123, rf_123_1, rf_123_2, rf_123_3, rf_123_4, rf_123_5, rf_123_7, rf_123_11, rf_123_12, rf_123_15, rf_123_16, rf_123_17, rf_123_26, rf_123_29, rf_123_30, rf_123_32, rf_123_34, rf_123_35, rf_123_45, Classical.not_not, implies_true, mk_s, mk_1, pf_at, pf_ne, b2i_T, b2i_F, false_imp_iff, true_imp_iff, ne_10, ne_01, ne_m10, ne_0m1, ne_m11, ne_1m1, false_and, and_false, p_sw, Int.reduceAdd, Int.zero_add, Option.some.injEq, Value.int.injEq, Value.long.injEq, Value.ref.injEq, exists_eq_left',  mk_I, mk_L, mk_wI, mk_wL, rf_s, rf_n, true_and, and_true, and_self, or_true, true_or, or_false, false_or, not_true_eq_false, not_false_eq_true, Option.toList_some, Option.toList_none, List.cons_append, List.nil_append, List.map_nil, List.map_cons, List.sum_nil, List.sum_cons, cat_i, cat_l, cat_r, cat_n, Nat.reduceLeDiff, Nat.reduceAdd, Nat.reduceEqDiff, Nat.zero_le, p_ent, Int32.reduceToNatClampNeg, Int32.reduceLT, Int32.reduceLE, vin_l, p_u_ne, p_u_at, reduceIte, if_true, if_false, Int32.reduceToInt, Int.zero_le_ofNat, Int.cast_ofNat_Int, Int.reduceLT, Int.reduceLE, not_false_eq_true, Same, P_ce (sp_125 _ _ _), b1, b2, w0, w1, v0, P_ce (rc_1), P_ce (rm_1)]
        exact ⟨_, _, _, _, rfl, inv_no (-1) 1 (by decide) H⟩
      · have v1 : ¬ v ≤ 40 := fun h => hv ⟨Int32.not_lt.mp v0, h⟩
        simp -implicitDefEqProofs only [P_m, ↓P_run_eq _ 110 _ (p_bk 110 0), bk_110_0, pb_110_0, ↓P_run_eq _ 110 _ (p_bk 110 1), bk_110_1, pb_110_1, ↓P_run_eq _ 262 _ (p_bk 262 0), bk_262_0, pb_262_0, ↓P_run_eq _ 262 _ (p_bk 262 1), bk_262_1, pb_262_1, pw_iload_n1, pw_zlt, pw_ldcw, cn_3, pw_cgt, pw_iload_n2, pw_iconst, il_1, pw_clt, pw_bipush, bl_40, pw_cle, pw_nop, pw_aload_n0, pw_aloadN_n0, il_m1, pw_iv2, pw_ret0, il_0, pw_ldc, cn_6, pw_is3, pw_zeq, pw_zne, kd_32, rf_32_0, rf_32_1, rf_32_2, rf_32_3, rf_32_4, rf_32_5, rf_32_6, rf_32_7, rf_32_8, rf_32_9, rf_32_11, rf_32_12, rf_32_13, kd_123, rf_123_1, rf_123_2, rf_123_3, rf_123_4, rf_123_5, rf_123_7, rf_123_11, rf_123_12, rf_123_15, rf_123_16, rf_123_17, rf_123_26, rf_123_29, rf_123_30, rf_123_32, rf_123_34, rf_123_35, rf_123_45, Classical.not_not, implies_true, mk_s, mk_1, pf_at, pf_ne, b2i_T, b2i_F, false_imp_iff, true_imp_iff, ne_10, ne_01, ne_m10, ne_0m1, ne_m11, ne_1m1, false_and, and_false, p_sw, Int.reduceAdd, Int.zero_add, Option.some.injEq, Value.int.injEq, Value.long.injEq, Value.ref.injEq, exists_eq_left',  mk_I, mk_L, mk_wI, mk_wL, rf_s, rf_n, true_and, and_true, and_self, or_true, true_or, or_false, false_or, not_true_eq_false, not_false_eq_true, Option.toList_some, Option.toList_none, List.cons_append, List.nil_append, List.map_nil, List.map_cons, List.sum_nil, List.sum_cons, cat_i, cat_l, cat_r, cat_n, Nat.reduceLeDiff, Nat.reduceAdd, Nat.reduceEqDiff, Nat.zero_le, p_ent, Int32.reduceToNatClampNeg, Int32.reduceLT, Int32.reduceLE, vin_l, p_u_ne, p_u_at, reduceIte, if_true, if_false, Int32.reduceToInt, Int.zero_le_ofNat, Int.cast_ofNat_Int, Int.reduceLT, Int.reduceLE, not_false_eq_true, Same, P_ce (sp_125 _ _ _), b1, b2, w0, w1, v0, v1, P_ce (rc_1), P_ce (rm_1)]
        exact ⟨_, _, _, _, rfl, inv_no (-1) 1 (by decide) H⟩
  · have b1 : b2i ((0 : Int32) ≤ w ∧ w ≤ 1000000) = 0 := b2i_f hw
    by_cases w0 : w < 0
    · simp -implicitDefEqProofs only [P_m, ↓P_run_eq _ 110 _ (p_bk 110 0), bk_110_0, pb_110_0, ↓P_run_eq _ 110 _ (p_bk 110 1), bk_110_1, pb_110_1, ↓P_run_eq _ 262 _ (p_bk 262 0), bk_262_0, pb_262_0, ↓P_run_eq _ 262 _ (p_bk 262 1), bk_262_1, pb_262_1, pw_iload_n1, pw_zlt, pw_ldcw, cn_3, pw_cgt, pw_iload_n2, pw_iconst, il_1, pw_clt, pw_bipush, bl_40, pw_cle, pw_nop, pw_aload_n0, pw_aloadN_n0, il_m1, pw_iv2, pw_ret0, il_0, pw_ldc, cn_6, pw_is3, pw_zeq, pw_zne, kd_32, rf_32_0, rf_32_1, rf_32_2, rf_32_3, rf_32_4, rf_32_5, rf_32_6, rf_32_7, rf_32_8, rf_32_9, rf_32_11, rf_32_12, rf_32_13, kd_123, rf_123_1, rf_123_2, rf_123_3, rf_123_4, rf_123_5, rf_123_7, rf_123_11, rf_123_12, rf_123_15, rf_123_16, rf_123_17, rf_123_26, rf_123_29, rf_123_30, rf_123_32, rf_123_34, rf_123_35, rf_123_45, Classical.not_not, implies_true, mk_s, mk_1, pf_at, pf_ne, b2i_T, b2i_F, false_imp_iff, true_imp_iff, ne_10, ne_01, ne_m10, ne_0m1, ne_m11, ne_1m1, false_and, and_false, p_sw, Int.reduceAdd, Int.zero_add, Option.some.injEq, Value.int.injEq, Value.long.injEq, Value.ref.injEq, exists_eq_left',  mk_I, mk_L, mk_wI, mk_wL, rf_s, rf_n, true_and, and_true, and_self, or_true, true_or, or_false, false_or, not_true_eq_false, not_false_eq_true, Option.toList_some, Option.toList_none, List.cons_append, List.nil_append, List.map_nil, List.map_cons, List.sum_nil, List.sum_cons, cat_i, cat_l, cat_r, cat_n, Nat.reduceLeDiff, Nat.reduceAdd, Nat.reduceEqDiff, Nat.zero_le, p_ent, Int32.reduceToNatClampNeg, Int32.reduceLT, Int32.reduceLE, vin_l, p_u_ne, p_u_at, reduceIte, if_true, if_false, Int32.reduceToInt, Int.zero_le_ofNat, Int.cast_ofNat_Int, Int.reduceLT, Int.reduceLE, not_false_eq_true, Same, P_ce (sp_125 _ _ _), b1, w0, P_ce (rc_1), P_ce (rm_1)]
      exact ⟨_, _, _, _, rfl, inv_no (-1) 1 (by decide) H⟩
    · have w1 : 1000000 < w := Int32.not_le.mp (fun h => hw ⟨Int32.not_lt.mp w0, h⟩)
      simp -implicitDefEqProofs only [P_m, ↓P_run_eq _ 110 _ (p_bk 110 0), bk_110_0, pb_110_0, ↓P_run_eq _ 110 _ (p_bk 110 1), bk_110_1, pb_110_1, ↓P_run_eq _ 262 _ (p_bk 262 0), bk_262_0, pb_262_0, ↓P_run_eq _ 262 _ (p_bk 262 1), bk_262_1, pb_262_1, pw_iload_n1, pw_zlt, pw_ldcw, cn_3, pw_cgt, pw_iload_n2, pw_iconst, il_1, pw_clt, pw_bipush, bl_40, pw_cle, pw_nop, pw_aload_n0, pw_aloadN_n0, il_m1, pw_iv2, pw_ret0, il_0, pw_ldc, cn_6, pw_is3, pw_zeq, pw_zne, kd_32, rf_32_0, rf_32_1, rf_32_2, rf_32_3, rf_32_4, rf_32_5, rf_32_6, rf_32_7, rf_32_8, rf_32_9, rf_32_11, rf_32_12, rf_32_13, kd_123, rf_123_1, rf_123_2, rf_123_3, rf_123_4, rf_123_5, rf_123_7, rf_123_11, rf_123_12, rf_123_15, rf_123_16, rf_123_17, rf_123_26, rf_123_29, rf_123_30, rf_123_32, rf_123_34, rf_123_35, rf_123_45, Classical.not_not, implies_true, mk_s, mk_1, pf_at, pf_ne, b2i_T, b2i_F, false_imp_iff, true_imp_iff, ne_10, ne_01, ne_m10, ne_0m1, ne_m11, ne_1m1, false_and, and_false, p_sw, Int.reduceAdd, Int.zero_add, Option.some.injEq, Value.int.injEq, Value.long.injEq, Value.ref.injEq, exists_eq_left',  mk_I, mk_L, mk_wI, mk_wL, rf_s, rf_n, true_and, and_true, and_self, or_true, true_or, or_false, false_or, not_true_eq_false, not_false_eq_true, Option.toList_some, Option.toList_none, List.cons_append, List.nil_append, List.map_nil, List.map_cons, List.sum_nil, List.sum_cons, cat_i, cat_l, cat_r, cat_n, Nat.reduceLeDiff, Nat.reduceAdd, Nat.reduceEqDiff, Nat.zero_le, p_ent, Int32.reduceToNatClampNeg, Int32.reduceLT, Int32.reduceLE, vin_l, p_u_ne, p_u_at, reduceIte, if_true, if_false, Int32.reduceToInt, Int.zero_le_ofNat, Int.cast_ofNat_Int, Int.reduceLT, Int.reduceLE, not_false_eq_true, Same, P_ce (sp_125 _ _ _), b1, w0, w1, P_ce (rc_1), P_ce (rm_1)]
      exact ⟨_, _, _, _, rfl, inv_no (-1) 1 (by decide) H⟩
end QH
