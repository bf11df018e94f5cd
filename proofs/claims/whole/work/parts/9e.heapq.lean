section HW
variable {d Ls : Nat} {I : Nat → Nat → Int32} {L : Nat → Nat → Int64} {R : Nat → Nat → Option Nat} {X : List pKd} {h : pHp} {c : Option (List tCl)}
theorem pl_235 (hV : vld (I 125)) (hc : lawOf (I 125) c) : ∃ J, frE I J ∧ P_m (d + 48) 235 [.ref 123] (p_mk Ls I L R X) (fun v h' => v = some (.int (nI (alS c (I 125) (kn (I 125) 53)))) ∧ h' = p_mk Ls J L R X) := by
  obtain ⟨m1, m2⟩ := kn_53 hV
  obtain ⟨k1, k2, k3⟩ := kn_0 hV
  have loop : ∀ q, q ≤ kn (I 125) 53 → ∀ J, frE I J → P_run (d + 48) 235 (p_bk 235 1) 0 0 [.ref 123, .int (nI (alS c (I 125) q)), .int (nI q)] [] (p_mk Ls J L R X) (fun v h' => v = some (.int (nI (alS c (I 125) (kn (I 125) 53)))) ∧ ∃ J', frE I J' ∧ h' = p_mk Ls J' L R X) := by
    refine down_ind ?_ ?_
    · intro J hJ
      have e125 : J 125 = I 125 := hJ.1 125 (by omega) (by omega)
      have j53 : J 125 53 = nI (kn (I 125) 53) := by rw [e125]; exact m1
      generalize alS c (I 125) (kn (I 125) 53) = A at *
      rw [P_run_eq, bk_235_1, pb_235_1]; simp -implicitDefEqProofs (disch := first | omega | decide) only [P_m, ↓P_run_eq _ 235 _ (p_bk 235 4), bk_235_4, pb_235_4, pw_iload_n2, pw_aload_n0, pw_aloadN_n0, pw_getR, pw_bipush, bl_53, pw_iald, pw_cge, pw_iload_n1, pw_iv1, pw_iv3, pw_zeq, pw_iconst, il_0, pw_goto, pw_ret0, kd_123, rf_123_1, rf_123_2, rf_123_3, rf_123_4, rf_123_5, rf_123_7, rf_123_11, rf_123_12, rf_123_15, rf_123_16, rf_123_17, rf_123_26, rf_123_29, rf_123_30, rf_123_32, rf_123_34, rf_123_35, rf_123_45, kd_125, n_0, n_1, n_53, nn_lt, nn_nlt, nn_le, nn_nle, nn_ne, nn_sub, nn_mul, nI_add, nn_neg, nm_eq, mn_eq, mm_eq, mn_lt, nm_lt, mn_le, nm_le, nn_sub0, nn_of, implies_true, nn_c, nn_in, nn_div, nat_rem, Nat.reduceMul, Nat.reduceSub, Nat.reduceDiv, Nat.reduceMod, pf_at, pf_ne, mk_s, mk_1, Classical.not_not, b2i_T, b2i_F, false_imp_iff, true_imp_iff, false_and, and_false, p_sw, Int.reduceAdd, Int.zero_add, Option.some.injEq, Value.int.injEq, Value.long.injEq, Value.ref.injEq, exists_eq_left', mk_I, mk_L, mk_wI, mk_wL, rf_s, rf_n, true_and, and_true, and_self, or_true, true_or, or_false, false_or, not_true_eq_false, not_false_eq_true, Option.toList_some, Option.toList_none, List.cons_append, List.nil_append, List.map_nil, List.map_cons, List.sum_nil, List.sum_cons, cat_i, cat_l, cat_r, cat_n, Nat.reduceLeDiff, Nat.reduceAdd, Nat.reduceEqDiff, Nat.zero_le, p_ent, p_u_ne, p_u_at, reduceIte, if_true, if_false, j53]
      exact ⟨J, hJ, rfl⟩
    · intro q hq ih J hJ
      have q8 : q < 8 := by omega
      have e125 : J 125 = I 125 := hJ.1 125 (by omega) (by omega)
      have j53 : J 125 53 = nI (kn (I 125) 53) := by rw [e125]; exact m1
      have s0 := sp_196 (d := d + 46) (Ls := Ls) (I := J) (L := L) (R := R) (X := X) k3 (by rw [e125]; exact k1)
      obtain ⟨J1, f1, s1⟩ := bars_r (Ls := Ls) (I := J) (L := L) (R := R) (X := X) (D := d + 47) (c := c) (q := q) (by rw [e125]; exact hc) (by rw [e125]; exact vld_env hV q8) (pc_le (kn (I 125) 0)) (by omega)
      rw [e125] at s1
      have nx := ih J1 (frE_tr hJ f1)
      have ea : alS c (I 125) (q + 1) = alS c (I 125) q + (if (!bv c (I 125) q (pc (kn (I 125) 0))) = true then 2 ^ q else 0) := rfl
      have or1 := or_n q q8 (alS c (I 125) q) (bs_lt _ _)
      have sl := shl_n q8
      cases hb : bv c (I 125) q (pc (kn (I 125) 0)) with
      | true =>
        rw [hb, if_neg (by decide), Nat.add_zero] at ea
        rw [ea] at nx
        rw [show hdF c (wEnv (I 125) q (nI (pc (kn (I 125) 0)))) 2 = true from hb, bI_t] at s1
        generalize alS c (I 125) (kn (I 125) 53) = A at *
        generalize alS c (I 125) q = B at *
        generalize pc (kn (I 125) 0) = P at *
        rw [P_run_eq, bk_235_1, pb_235_1]; simp -implicitDefEqProofs (disch := first | omega | decide) only [P_m, ↓P_run_eq _ 235 _ (p_bk 235 3), bk_235_3, pb_235_3, pw_iload_n2, pw_aload_n0, pw_aloadN_n0, pw_getR, pw_bipush, bl_53, pw_iald, pw_cge, pw_iload_n1, pw_iv1, pw_iv3, pw_zeq, pw_iconst, il_0, pw_goto, pw_ior, pw_istore_n1, ps_1, pe_1, po_i1, po_r1, po_n1, po_u1, pw_iinc_2, il_1, po_i2, po_r2, po_n2, po_u2, kd_123, rf_123_1, rf_123_2, rf_123_3, rf_123_4, rf_123_5, rf_123_7, rf_123_11, rf_123_12, rf_123_15, rf_123_16, rf_123_17, rf_123_26, rf_123_29, rf_123_30, rf_123_32, rf_123_34, rf_123_35, rf_123_45, kd_125, n_0, n_1, n_53, nn_lt, nn_nlt, nn_le, nn_nle, nn_ne, nn_sub, nn_mul, nI_add, nn_neg, nm_eq, mn_eq, mm_eq, mn_lt, nm_lt, mn_le, nm_le, nn_sub0, nn_of, implies_true, nn_c, nn_in, nn_div, nat_rem, Nat.reduceMul, Nat.reduceSub, Nat.reduceDiv, Nat.reduceMod, pf_at, pf_ne, mk_s, mk_1, Classical.not_not, b2i_T, b2i_F, false_imp_iff, true_imp_iff, false_and, and_false, p_sw, Int.reduceAdd, Int.zero_add, Option.some.injEq, Value.int.injEq, Value.long.injEq, Value.ref.injEq, exists_eq_left', mk_I, mk_L, mk_wI, mk_wL, rf_s, rf_n, true_and, and_true, and_self, or_true, true_or, or_false, false_or, not_true_eq_false, not_false_eq_true, Option.toList_some, Option.toList_none, List.cons_append, List.nil_append, List.map_nil, List.map_cons, List.sum_nil, List.sum_cons, cat_i, cat_l, cat_r, cat_n, Nat.reduceLeDiff, Nat.reduceAdd, Nat.reduceEqDiff, Nat.zero_le, p_ent, p_u_ne, p_u_at, reduceIte, if_true, if_false, j53, or_0, P_ce s0, P_ce s1]
        exact nx
      | false =>
        rw [hb, if_pos (by decide)] at ea
        rw [ea] at nx
        rw [show hdF c (wEnv (I 125) q (nI (pc (kn (I 125) 0)))) 2 = false from hb, bI_f] at s1
        generalize alS c (I 125) (kn (I 125) 53) = A at *
        generalize alS c (I 125) q = B at *
        generalize pc (kn (I 125) 0) = P at *
        rw [P_run_eq, bk_235_1, pb_235_1]; simp -implicitDefEqProofs (disch := first | omega | decide) only [P_m, ↓P_run_eq _ 235 _ (p_bk 235 2), bk_235_2, pb_235_2, ↓P_run_eq _ 235 _ (p_bk 235 3), bk_235_3, pb_235_3, pw_iload_n2, pw_aload_n0, pw_aloadN_n0, pw_getR, pw_bipush, bl_53, pw_iald, pw_cge, pw_iload_n1, pw_iv1, pw_iv3, pw_zeq, pw_iconst, il_0, pw_goto, il_1, pw_ishl, pw_nop, pw_ior, pw_istore_n1, ps_1, pe_1, po_i1, po_r1, po_n1, po_u1, pw_iinc_2, po_i2, po_r2, po_n2, po_u2, kd_123, rf_123_1, rf_123_2, rf_123_3, rf_123_4, rf_123_5, rf_123_7, rf_123_11, rf_123_12, rf_123_15, rf_123_16, rf_123_17, rf_123_26, rf_123_29, rf_123_30, rf_123_32, rf_123_34, rf_123_35, rf_123_45, kd_125, n_0, n_1, n_53, nn_lt, nn_nlt, nn_le, nn_nle, nn_ne, nn_sub, nn_mul, nI_add, nn_neg, nm_eq, mn_eq, mm_eq, mn_lt, nm_lt, mn_le, nm_le, nn_sub0, nn_of, implies_true, nn_c, nn_in, nn_div, nat_rem, Nat.reduceMul, Nat.reduceSub, Nat.reduceDiv, Nat.reduceMod, pf_at, pf_ne, mk_s, mk_1, Classical.not_not, b2i_T, b2i_F, false_imp_iff, true_imp_iff, false_and, and_false, p_sw, Int.reduceAdd, Int.zero_add, Option.some.injEq, Value.int.injEq, Value.long.injEq, Value.ref.injEq, exists_eq_left', mk_I, mk_L, mk_wI, mk_wL, rf_s, rf_n, true_and, and_true, and_self, or_true, true_or, or_false, false_or, not_true_eq_false, not_false_eq_true, Option.toList_some, Option.toList_none, List.cons_append, List.nil_append, List.map_nil, List.map_cons, List.sum_nil, List.sum_cons, cat_i, cat_l, cat_r, cat_n, Nat.reduceLeDiff, Nat.reduceAdd, Nat.reduceEqDiff, Nat.zero_le, p_ent, p_u_ne, p_u_at, reduceIte, if_true, if_false, j53, sl, or1, P_ce s0, P_ce s1]
        exact nx
  have st := loop 0 (by omega) I frE_rf
  replace st : P_run (d + 48) 235 (p_bk 235 1) 0 0 [.ref 123, .int (nI 0), .int (nI 0)] [] (p_mk Ls I L R X) _ := st
  have all : P_m (d + 48) 235 [.ref 123] (p_mk Ls I L R X) (fun v h' => v = some (.int (nI (alS c (I 125) (kn (I 125) 53)))) ∧ ∃ J', frE I J' ∧ h' = p_mk Ls J' L R X) := by
    generalize alS c (I 125) (kn (I 125) 53) = A at *
    simp -implicitDefEqProofs (disch := first | omega | decide) only [P_m, ↓P_run_eq _ 235 _ (p_bk 235 0), bk_235_0, pb_235_0, pw_iconst, il_0, pw_istore_n1, ps_1, pe_1, po_i1, po_r1, po_n1, po_u1, pw_istore_n2, ps_2, pe_2, po_i2, po_r2, po_n2, po_u2, pw_nop, kd_123, rf_123_1, rf_123_2, rf_123_3, rf_123_4, rf_123_5, rf_123_7, rf_123_11, rf_123_12, rf_123_15, rf_123_16, rf_123_17, rf_123_26, rf_123_29, rf_123_30, rf_123_32, rf_123_34, rf_123_35, rf_123_45, n_0, n_1, nn_lt, nn_nlt, nn_le, nn_nle, nn_ne, nn_sub, nn_mul, nI_add, nn_neg, nm_eq, mn_eq, mm_eq, mn_lt, nm_lt, mn_le, nm_le, nn_sub0, nn_of, implies_true, nn_c, nn_in, nn_div, nat_rem, Nat.reduceMul, Nat.reduceSub, Nat.reduceDiv, Nat.reduceMod, pf_at, pf_ne, mk_s, mk_1, Classical.not_not, b2i_T, b2i_F, false_imp_iff, true_imp_iff, false_and, and_false, p_sw, Int.reduceAdd, Int.zero_add, Option.some.injEq, Value.int.injEq, Value.long.injEq, Value.ref.injEq, exists_eq_left', mk_I, mk_L, mk_wI, mk_wL, rf_s, rf_n, true_and, and_true, and_self, or_true, true_or, or_false, false_or, not_true_eq_false, not_false_eq_true, Option.toList_some, Option.toList_none, List.cons_append, List.nil_append, List.map_nil, List.map_cons, List.sum_nil, List.sum_cons, cat_i, cat_l, cat_r, cat_n, Nat.reduceLeDiff, Nat.reduceAdd, Nat.reduceEqDiff, Nat.zero_le, p_ent, p_u_ne, p_u_at, reduceIte, if_true, if_false]
    exact st
  obtain ⟨v, g, ⟨rfl, J', f, rfl⟩, s⟩ := P_mex all
  exact ⟨J', f, s⟩
theorem pl_237 {S : Nat} (hV : vld (I 125)) (hc : lawOf (I 125) c) (hS : S < 256) : ∃ J, frE I J ∧ P_m (d + 48) 237 [.ref 123, .int (nI S)] (p_mk Ls I L R X) (fun v h' => v = some (.int (nI (ysF (fun q => yv c (I 125) q (pc (kn (I 125) 0))) S (kn (I 125) 53)))) ∧ h' = p_mk Ls J L R X) := by
  obtain ⟨m1, m2⟩ := kn_53 hV
  obtain ⟨k1, k2, k3⟩ := kn_0 hV
  have loop : ∀ q, q ≤ kn (I 125) 53 → ∀ J, frE I J → P_run (d + 48) 237 (p_bk 237 1) 0 0 [.ref 123, .int (nI S), .int (nI (ysF (fun q => yv c (I 125) q (pc (kn (I 125) 0))) S q)), .int (nI q)] [] (p_mk Ls J L R X) (fun v h' => v = some (.int (nI (ysF (fun q => yv c (I 125) q (pc (kn (I 125) 0))) S (kn (I 125) 53)))) ∧ ∃ J', frE I J' ∧ h' = p_mk Ls J' L R X) := by
    refine down_ind ?_ ?_
    · intro J hJ
      have e125 : J 125 = I 125 := hJ.1 125 (by omega) (by omega)
      have j53 : J 125 53 = nI (kn (I 125) 53) := by rw [e125]; exact m1
      generalize ysF (fun q => yv c (I 125) q (pc (kn (I 125) 0))) S (kn (I 125) 53) = A at *
      rw [P_run_eq, bk_237_1, pb_237_1]; simp -implicitDefEqProofs (disch := first | omega | decide) only [P_m, ↓P_run_eq _ 237 _ (p_bk 237 4), bk_237_4, pb_237_4, pw_iload_n3, pw_aload_n0, pw_aloadN_n0, pw_getR, pw_bipush, bl_53, pw_iald, pw_cge, pw_iload_n2, pw_iload_n1, pw_is2, pw_zeq, pw_iv1, pw_iv3, pw_goto, pw_ret0, kd_123, rf_123_1, rf_123_2, rf_123_3, rf_123_4, rf_123_5, rf_123_7, rf_123_11, rf_123_12, rf_123_15, rf_123_16, rf_123_17, rf_123_26, rf_123_29, rf_123_30, rf_123_32, rf_123_34, rf_123_35, rf_123_45, kd_125, n_0, n_1, n_53, nn_lt, nn_nlt, nn_le, nn_nle, nn_ne, nn_sub, nn_mul, nI_add, nn_neg, nm_eq, mn_eq, mm_eq, mn_lt, nm_lt, mn_le, nm_le, nn_sub0, nn_of, implies_true, nn_c, nn_in, nn_div, nat_rem, Nat.reduceMul, Nat.reduceSub, Nat.reduceDiv, Nat.reduceMod, pf_at, pf_ne, mk_s, mk_1, Classical.not_not, b2i_T, b2i_F, false_imp_iff, true_imp_iff, false_and, and_false, p_sw, Int.reduceAdd, Int.zero_add, Option.some.injEq, Value.int.injEq, Value.long.injEq, Value.ref.injEq, exists_eq_left', mk_I, mk_L, mk_wI, mk_wL, rf_s, rf_n, true_and, and_true, and_self, or_true, true_or, or_false, false_or, not_true_eq_false, not_false_eq_true, Option.toList_some, Option.toList_none, List.cons_append, List.nil_append, List.map_nil, List.map_cons, List.sum_nil, List.sum_cons, cat_i, cat_l, cat_r, cat_n, Nat.reduceLeDiff, Nat.reduceAdd, Nat.reduceEqDiff, Nat.zero_le, p_ent, p_u_ne, p_u_at, reduceIte, if_true, if_false, j53]
      exact ⟨J, hJ, rfl⟩
    · intro q hq ih J hJ
      have q8 : q < 8 := by omega
      have e125 : J 125 = I 125 := hJ.1 125 (by omega) (by omega)
      have j53 : J 125 53 = nI (kn (I 125) 53) := by rw [e125]; exact m1
      have s0 := sp_131n (d := d + 47) (h := p_mk Ls J L R X) hS q8
      have es : ysF (fun q => yv c (I 125) q (pc (kn (I 125) 0))) S (q + 1) = ysF (fun q => yv c (I 125) q (pc (kn (I 125) 0))) S q + (if bt S q = 1 then yv c (I 125) q (pc (kn (I 125) 0)) else 0) := rfl
      rcases bt_01 S q with e | e
      · rw [if_neg (by omega), Nat.add_zero] at es
        have nx := ih J hJ
        rw [es] at nx
        rw [e] at s0
        generalize ysF (fun q => yv c (I 125) q (pc (kn (I 125) 0))) S (kn (I 125) 53) = A at *
        generalize ysF (fun q => yv c (I 125) q (pc (kn (I 125) 0))) S q = B at *
        rw [P_run_eq, bk_237_1, pb_237_1]; simp -implicitDefEqProofs (disch := first | omega | decide) only [P_m, ↓P_run_eq _ 237 _ (p_bk 237 2), bk_237_2, pb_237_2, ↓P_run_eq _ 237 _ (p_bk 237 3), bk_237_3, pb_237_3, pw_iload_n3, pw_aload_n0, pw_aloadN_n0, pw_getR, pw_bipush, bl_53, pw_iald, pw_cge, pw_iload_n2, pw_iload_n1, pw_is2, pw_zeq, pw_iv1, pw_iv3, pw_goto, pw_iconst, il_0, pw_nop, pw_iadd, pw_istore_n2, ps_2, pe_2, po_i2, po_r2, po_n2, po_u2, pw_iinc_3, il_1, po_i3, po_r3, po_n3, po_u3, kd_123, rf_123_1, rf_123_2, rf_123_3, rf_123_4, rf_123_5, rf_123_7, rf_123_11, rf_123_12, rf_123_15, rf_123_16, rf_123_17, rf_123_26, rf_123_29, rf_123_30, rf_123_32, rf_123_34, rf_123_35, rf_123_45, kd_125, n_0, n_1, n_53, nn_lt, nn_nlt, nn_le, nn_nle, nn_ne, nn_sub, nn_mul, nI_add, nn_neg, nm_eq, mn_eq, mm_eq, mn_lt, nm_lt, mn_le, nm_le, nn_sub0, nn_of, implies_true, nn_c, nn_in, nn_div, nat_rem, Nat.reduceMul, Nat.reduceSub, Nat.reduceDiv, Nat.reduceMod, pf_at, pf_ne, mk_s, mk_1, Classical.not_not, b2i_T, b2i_F, false_imp_iff, true_imp_iff, false_and, and_false, p_sw, Int.reduceAdd, Int.zero_add, Option.some.injEq, Value.int.injEq, Value.long.injEq, Value.ref.injEq, exists_eq_left', mk_I, mk_L, mk_wI, mk_wL, rf_s, rf_n, true_and, and_true, and_self, or_true, true_or, or_false, false_or, not_true_eq_false, not_false_eq_true, Option.toList_some, Option.toList_none, List.cons_append, List.nil_append, List.map_nil, List.map_cons, List.sum_nil, List.sum_cons, cat_i, cat_l, cat_r, cat_n, Nat.reduceLeDiff, Nat.reduceAdd, Nat.reduceEqDiff, Nat.zero_le, p_ent, p_u_ne, p_u_at, reduceIte, if_true, if_false, j53, Nat.add_zero, P_ce s0]
        exact nx
      · rw [if_pos e] at es
        rw [e] at s0
        have s2 := sp_196 (d := d + 46) (Ls := Ls) (I := J) (L := L) (R := R) (X := X) k3 (by rw [e125]; exact k1)
        obtain ⟨J1, f1, s1⟩ := ages_r (Ls := Ls) (I := J) (L := L) (R := R) (X := X) (D := d + 47) (c := c) (q := q) (by rw [e125]; exact hc) (by rw [e125]; exact vld_env hV q8) (pc_le (kn (I 125) 0)) (by omega)
        rw [e125, (yv_e (vld_env hV q8) (pc_le _)).1] at s1
        have nx := ih J1 (frE_tr hJ f1)
        rw [es] at nx
        generalize ysF (fun q => yv c (I 125) q (pc (kn (I 125) 0))) S (kn (I 125) 53) = A at *
        generalize ysF (fun q => yv c (I 125) q (pc (kn (I 125) 0))) S q = B at *
        generalize yv c (I 125) q (pc (kn (I 125) 0)) = Y at *
        generalize pc (kn (I 125) 0) = P at *
        rw [P_run_eq, bk_237_1, pb_237_1]; simp -implicitDefEqProofs (disch := first | omega | decide) only [P_m, ↓P_run_eq _ 237 _ (p_bk 237 3), bk_237_3, pb_237_3, pw_iload_n3, pw_aload_n0, pw_aloadN_n0, pw_getR, pw_bipush, bl_53, pw_iald, pw_cge, pw_iload_n2, pw_iload_n1, pw_is2, pw_zeq, pw_iv1, pw_iv3, pw_goto, pw_iadd, pw_istore_n2, ps_2, pe_2, po_i2, po_r2, po_n2, po_u2, pw_iinc_3, il_1, po_i3, po_r3, po_n3, po_u3, kd_123, rf_123_1, rf_123_2, rf_123_3, rf_123_4, rf_123_5, rf_123_7, rf_123_11, rf_123_12, rf_123_15, rf_123_16, rf_123_17, rf_123_26, rf_123_29, rf_123_30, rf_123_32, rf_123_34, rf_123_35, rf_123_45, kd_125, n_0, n_1, n_53, nn_lt, nn_nlt, nn_le, nn_nle, nn_ne, nn_sub, nn_mul, nI_add, nn_neg, nm_eq, mn_eq, mm_eq, mn_lt, nm_lt, mn_le, nm_le, nn_sub0, nn_of, implies_true, nn_c, nn_in, nn_div, nat_rem, Nat.reduceMul, Nat.reduceSub, Nat.reduceDiv, Nat.reduceMod, pf_at, pf_ne, mk_s, mk_1, Classical.not_not, b2i_T, b2i_F, false_imp_iff, true_imp_iff, false_and, and_false, p_sw, Int.reduceAdd, Int.zero_add, Option.some.injEq, Value.int.injEq, Value.long.injEq, Value.ref.injEq, exists_eq_left', mk_I, mk_L, mk_wI, mk_wL, rf_s, rf_n, true_and, and_true, and_self, or_true, true_or, or_false, false_or, not_true_eq_false, not_false_eq_true, Option.toList_some, Option.toList_none, List.cons_append, List.nil_append, List.map_nil, List.map_cons, List.sum_nil, List.sum_cons, cat_i, cat_l, cat_r, cat_n, Nat.reduceLeDiff, Nat.reduceAdd, Nat.reduceEqDiff, Nat.zero_le, p_ent, p_u_ne, p_u_at, reduceIte, if_true, if_false, j53, P_ce s0, P_ce s2, P_ce s1]
        exact nx
  have st := loop 0 (by omega) I frE_rf
  replace st : P_run (d + 48) 237 (p_bk 237 1) 0 0 [.ref 123, .int (nI S), .int (nI 0), .int (nI 0)] [] (p_mk Ls I L R X) _ := st
  have all : P_m (d + 48) 237 [.ref 123, .int (nI S)] (p_mk Ls I L R X) (fun v h' => v = some (.int (nI (ysF (fun q => yv c (I 125) q (pc (kn (I 125) 0))) S (kn (I 125) 53)))) ∧ ∃ J', frE I J' ∧ h' = p_mk Ls J' L R X) := by
    generalize ysF (fun q => yv c (I 125) q (pc (kn (I 125) 0))) S (kn (I 125) 53) = A at *
    simp -implicitDefEqProofs (disch := first | omega | decide) only [P_m, ↓P_run_eq _ 237 _ (p_bk 237 0), bk_237_0, pb_237_0, pw_iconst, il_0, pw_istore_n2, ps_2, pe_2, po_i2, po_r2, po_n2, po_u2, pw_istore_n3, ps_3, pe_3, po_i3, po_r3, po_n3, po_u3, pw_nop, kd_123, rf_123_1, rf_123_2, rf_123_3, rf_123_4, rf_123_5, rf_123_7, rf_123_11, rf_123_12, rf_123_15, rf_123_16, rf_123_17, rf_123_26, rf_123_29, rf_123_30, rf_123_32, rf_123_34, rf_123_35, rf_123_45, n_0, n_1, nn_lt, nn_nlt, nn_le, nn_nle, nn_ne, nn_sub, nn_mul, nI_add, nn_neg, nm_eq, mn_eq, mm_eq, mn_lt, nm_lt, mn_le, nm_le, nn_sub0, nn_of, implies_true, nn_c, nn_in, nn_div, nat_rem, Nat.reduceMul, Nat.reduceSub, Nat.reduceDiv, Nat.reduceMod, pf_at, pf_ne, mk_s, mk_1, Classical.not_not, b2i_T, b2i_F, false_imp_iff, true_imp_iff, false_and, and_false, p_sw, Int.reduceAdd, Int.zero_add, Option.some.injEq, Value.int.injEq, Value.long.injEq, Value.ref.injEq, exists_eq_left', mk_I, mk_L, mk_wI, mk_wL, rf_s, rf_n, true_and, and_true, and_self, or_true, true_or, or_false, false_or, not_true_eq_false, not_false_eq_true, Option.toList_some, Option.toList_none, List.cons_append, List.nil_append, List.map_nil, List.map_cons, List.sum_nil, List.sum_cons, cat_i, cat_l, cat_r, cat_n, Nat.reduceLeDiff, Nat.reduceAdd, Nat.reduceEqDiff, Nat.zero_le, p_ent, p_u_ne, p_u_at, reduceIte, if_true, if_false]
    exact st
  obtain ⟨v, g, ⟨rfl, J', f, rfl⟩, s⟩ := P_mex all
  exact ⟨J', f, s⟩
end HW
