section CM
variable {o : Bool} {B : Nat → Nat} {T Ls N : Nat} {L : Nat → Nat → Int64} {R : Nat → Nat → Option Nat} {X : List pKd}
theorem RIf_t {C V : Nat → Nat} (hN : ∀ k, N ≤ k → C k = 0) (h4 : N ≤ 400) {k l c : Nat} (hk : k ≤ N) : okO (RIf o C V k l c) := by
  unfold RIf
  split
  · rename_i c1
    have := kN_of hN (show ¬ C k = 0 by omega)
    exact RB_t hN h4 (by omega) (by omega)
  · exact ⟨_, rfl⟩
theorem cl_tm {x k l m kd fr : Nat} {D sm : tCd} {I J : Nat → Nat → Int32} {f : tDS} {q : Except Nat (Nat × Nat × tCl)} {v3 : Int32} (hN : ∀ k, N ≤ k → tC B T k = 0) (h4 : N ≤ 400) (hk : k ≤ N) (H : rdB o B T I R) (fJ : frS I J) (hS : rdS B T J k l (D ++ sm)) (hm : m < 12) (e0 : I 36 0 = nI m) (hfr : fr = D.length) (hq : (bnd (pTm o (tC B T) (tV B T) k) fun t => bnd (RIf o (tC B T) (tV B T) t.1 l (D.length + sm.length)) fun b => some (.ok (b.1, b.2.1, kd, t.2, sm, b.2.2.2, f, b.2.2.1))) = some q) : P_run (x + 54 + 1) 59 (p_bk 59 8) 0 0 [.ref 35, .int (nI kd), .int (nI fr), .int v3] [] (p_mk Ls J L R X) (fun v h' => v = some (.int (nI (ocV q))) ∧ ∃ J', ocC B T I J' m D q ∧ h' = p_mk Ls J' L R X) := by
  have HJ := rdB_fr H fJ
  have h3 := HJ.2.2
  -- behind the times
  have tail : ∀ k' t J1, k' ≤ N → frS I J1 → rdS B T J1 k' l (D ++ sm) → (bnd (RIf o (tC B T) (tV B T) k' l (D.length + sm.length)) fun b => some (.ok (b.1, b.2.1, kd, t, sm, b.2.2.2, f, b.2.2.1))) = some q → P_run (x + 54 + 1) 59 (p_bk 59 11) 0 0 [.ref 35, .int (nI kd), .int (nI fr), .int v3, .int (nI t)] [] (p_mk Ls J1 L R X) (fun v h' => v = some (.int (nI (ocV q))) ∧ ∃ J', ocC B T I J' m D q ∧ h' = p_mk Ls J' L R X) := by
    intro k' t J1 hk' f1 hS1 hq1
    obtain ⟨b, hb⟩ := RIf_t (o := o) (V := tV B T) (l := l) (c := D.length + sm.length) hN h4 hk'
    have := cl_if (x := x) (kd := kd) (t := t) (fr := fr) (f := f) (v3 := v3) (Ls := Ls) (L := L) (X := X) hN h4 hk' H f1 hS1 hm e0 hb hfr
    rw [hb] at hq1
    match b, hb, hq1, this with
    | .error e, hb, hq1, this => cases hq1; exact this
    | .ok b, hb, hq1, this => cases hq1; exact this
  unfold pTm at hq
  cases o with
  | false =>
    rw [if_neg (fun h => by cases h.1), bnd_ok] at hq
    have nx := tail k 1 J hk fJ hS hq
    rw [bN_f] at h3
    clear tail hq hS
    generalize nI (ocV q) = VQ at *
    rw [P_run_eq, bk_59_8, pb_59_8]; simp -implicitDefEqProofs (disch := first | omega | decide) only [P_m, pw_iconst, il_1, pw_istore, ps_4, pe_4, po_i4, po_r4, po_n4, po_u4, pw_aload_n0, pw_aloadN_n0, pw_getI, pw_zeq, pw_ldcS, pw_iv2, pw_iv1, pw_iload_4, pw_clt, pw_bipush, bl_20, pw_cle, pw_nop, kd_35, rf_35_0, rf_35_1, n_0, n_1, n_20, nn_lt, nn_nlt, nn_le, nn_nle, nn_ne, nn_sub, nn_mul, nI_add, nn_neg, nm_eq, mn_eq, mm_eq, mn_lt, nm_lt, mn_le, nm_le, nn_sub0, nn_of, implies_true, nn_c, nn_in, nn_div, nat_rem, Nat.reduceMul, Nat.reduceSub, Nat.reduceDiv, Nat.reduceMod, pf_at, pf_ne, mk_s, mk_1, Classical.not_not, b2i_T, b2i_F, false_imp_iff, true_imp_iff, false_and, and_false, p_sw, Int.reduceAdd, Int.zero_add, Option.some.injEq, Value.int.injEq, Value.long.injEq, Value.ref.injEq, exists_eq_left', mk_I, mk_L, mk_wI, mk_wL, rf_s, rf_n, true_and, and_true, and_self, or_true, true_or, or_false, false_or, not_true_eq_false, not_false_eq_true, Option.toList_some, Option.toList_none, List.cons_append, List.nil_append, List.map_nil, List.map_cons, List.sum_nil, List.sum_cons, cat_i, cat_l, cat_r, cat_n, Nat.reduceLeDiff, Nat.reduceAdd, Nat.reduceEqDiff, Nat.zero_le, p_ent, p_u_ne, p_u_at, reduceIte, if_true, if_false, h3]
    exact nx
  | true =>
    rw [bN_t] at h3
    have s70 := pl_70 (d := x + 48) (Ls := Ls) (L := L) (X := X) (s := 4) HJ.1 HJ.2.1 hS.1 (by omega) pln_w.2.2.2.2
    replace s70 : P_m (x + 54) 70 [.ref 35, .ref 16] (p_mk Ls J L R X) (fun v h' => v = some (.int (nI (bN (decide (tC B T k = 23))))) ∧ h' = p_mk Ls (if tC B T k = 23 then stp B T J (k + 1) else J) L R X) := s70
    by_cases c23 : tC B T k = 23
    · have kN := kN_of hN (show ¬ tC B T k = 0 by omega)
      rw [if_pos ⟨rfl, c23⟩] at hq
      rw [decide_eq_true c23, bN_t, if_pos c23] at s70
      have f1 : frS I (stp B T J (k + 1)) := frS_tr fJ frS_stp
      have H1 := rdB_fr H f1
      have hS1 := rdS_stp hS
      have s67 := pl_67 (d := x + 54) (Ls := Ls) (L := L) (X := X) H1.2.1 hS1.1
      have s72 := pl_step (d := x + 54) (Ls := Ls) (L := L) (X := X) H1.2.1 hS1.1
      by_cases cc : tC B T (k + 1) = 50 ∧ 1 ≤ tV B T (k + 1) ∧ tV B T (k + 1) ≤ 20
      · have k1N := kN_of hN (show ¬ tC B T (k + 1) = 0 by omega)
        rw [if_pos cc, bnd_ok] at hq
        unfold nmO at s67
        rw [if_pos cc.1, if_pos (by omega)] at s67
        replace s67 : P_m (x + 54) 67 [.ref 35] (p_mk Ls (stp B T J (k + 1)) L R X) (fun v h' => v = some (.int (nI (tV B T (k + 1)))) ∧ h' = p_mk Ls (stp B T J (k + 1)) L R X) := s67
        have nx := tail (k + 2) (tV B T (k + 1)) (stp B T (stp B T J (k + 1)) (k + 1 + 1)) (by omega) (frS_tr f1 frS_stp) (rdS_stp hS1) hq
        obtain ⟨-, c1, c2⟩ := cc
        clear tail hq hS hS1
        generalize stp B T (stp B T J (k + 1)) (k + 1 + 1) = J2 at *
        generalize stp B T J (k + 1) = J1 at *
        generalize tV B T (k + 1) = vv at *
        generalize nI (ocV q) = VQ at *
        rw [P_run_eq, bk_59_8, pb_59_8]; simp -implicitDefEqProofs (disch := first | omega | decide) only [P_m, ↓P_run_eq _ 59 _ (p_bk 59 10), bk_59_10, pb_59_10, pw_iconst, il_1, pw_istore, ps_4, pe_4, po_i4, po_r4, po_n4, po_u4, pw_aload_n0, pw_aloadN_n0, pw_getI, pw_zeq, pw_ldcS, pw_iv2, pw_iv1, pw_iload_4, pw_clt, pw_bipush, bl_20, pw_cle, pw_nop, kd_35, rf_35_0, rf_35_1, n_0, n_1, n_20, nn_lt, nn_nlt, nn_le, nn_nle, nn_ne, nn_sub, nn_mul, nI_add, nn_neg, nm_eq, mn_eq, mm_eq, mn_lt, nm_lt, mn_le, nm_le, nn_sub0, nn_of, implies_true, nn_c, nn_in, nn_div, nat_rem, Nat.reduceMul, Nat.reduceSub, Nat.reduceDiv, Nat.reduceMod, pf_at, pf_ne, mk_s, mk_1, Classical.not_not, b2i_T, b2i_F, false_imp_iff, true_imp_iff, false_and, and_false, p_sw, Int.reduceAdd, Int.zero_add, Option.some.injEq, Value.int.injEq, Value.long.injEq, Value.ref.injEq, exists_eq_left', mk_I, mk_L, mk_wI, mk_wL, rf_s, rf_n, true_and, and_true, and_self, or_true, true_or, or_false, false_or, not_true_eq_false, not_false_eq_true, Option.toList_some, Option.toList_none, List.cons_append, List.nil_append, List.map_nil, List.map_cons, List.sum_nil, List.sum_cons, cat_i, cat_l, cat_r, cat_n, Nat.reduceLeDiff, Nat.reduceAdd, Nat.reduceEqDiff, Nat.zero_le, p_ent, p_u_ne, p_u_at, reduceIte, if_true, if_false, h3, P_ce s70, P_ce s67, P_ce s72]
        exact nx
      · rw [if_neg cc] at hq
        cases hq
        have fin : ocC B T I (stp B T J (k + 1)) m D (.error (k + 1)) := ⟨f1, hS1.1⟩
        show P_run _ _ _ _ _ _ _ _ (fun v h' => v = some (.int (nI 0)) ∧ _)
        unfold nmO at s67
        by_cases c1 : tC B T (k + 1) = 50
        · rw [if_pos c1] at s67
          have g7 : (if tV B T (k + 1) ≤ 1000 then tV B T (k + 1) else 1001) < 1 ∨ 20 < (if tV B T (k + 1) ≤ 1000 then tV B T (k + 1) else 1001) := by
            split
            · rcases Nat.lt_or_ge (tV B T (k + 1)) 1 with h | h
              · exact Or.inl h
              · exact Or.inr (Nat.not_le.mp (fun h2 => cc ⟨c1, h, h2⟩))
            · exact Or.inr (by omega)
          have g9 : (if tV B T (k + 1) ≤ 1000 then tV B T (k + 1) else 1001) ≤ 1001 := by split <;> omega
          clear tail hS hS1 s72
          generalize (if tV B T (k + 1) ≤ 1000 then tV B T (k + 1) else 1001) = vv at *
          generalize stp B T J (k + 1) = J1 at *
          replace s67 : P_m (x + 54) 67 [.ref 35] (p_mk Ls J1 L R X) (fun v h' => v = some (.int (nI vv)) ∧ h' = p_mk Ls J1 L R X) := s67
          rcases g7 with g7 | g7
          · rw [P_run_eq, bk_59_8, pb_59_8]; simp -implicitDefEqProofs (disch := first | omega | decide) only [P_m, ↓P_run_eq _ 59 _ (p_bk 59 9), bk_59_9, pb_59_9, pw_iconst, il_1, pw_istore, ps_4, pe_4, po_i4, po_r4, po_n4, po_u4, pw_aload_n0, pw_aloadN_n0, pw_getI, pw_zeq, pw_ldcS, pw_iv2, pw_iv1, pw_iload_4, pw_clt, pw_bipush, bl_20, pw_cle, pw_nop, il_0, pw_ret1, kd_35, rf_35_0, rf_35_1, n_0, n_1, n_20, nn_lt, nn_nlt, nn_le, nn_nle, nn_ne, nn_sub, nn_mul, nI_add, nn_neg, nm_eq, mn_eq, mm_eq, mn_lt, nm_lt, mn_le, nm_le, nn_sub0, nn_of, implies_true, nn_c, nn_in, nn_div, nat_rem, Nat.reduceMul, Nat.reduceSub, Nat.reduceDiv, Nat.reduceMod, pf_at, pf_ne, mk_s, mk_1, Classical.not_not, b2i_T, b2i_F, false_imp_iff, true_imp_iff, false_and, and_false, p_sw, Int.reduceAdd, Int.zero_add, Option.some.injEq, Value.int.injEq, Value.long.injEq, Value.ref.injEq, exists_eq_left', mk_I, mk_L, mk_wI, mk_wL, rf_s, rf_n, true_and, and_true, and_self, or_true, true_or, or_false, false_or, not_true_eq_false, not_false_eq_true, Option.toList_some, Option.toList_none, List.cons_append, List.nil_append, List.map_nil, List.map_cons, List.sum_nil, List.sum_cons, cat_i, cat_l, cat_r, cat_n, Nat.reduceLeDiff, Nat.reduceAdd, Nat.reduceEqDiff, Nat.zero_le, p_ent, p_u_ne, p_u_at, reduceIte, if_true, if_false, h3, P_ce s70, P_ce s67]
            exact ⟨J1, fin, rfl⟩
          · rw [P_run_eq, bk_59_8, pb_59_8]; simp -implicitDefEqProofs (disch := first | omega | decide) only [P_m, ↓P_run_eq _ 59 _ (p_bk 59 9), bk_59_9, pb_59_9, pw_iconst, il_1, pw_istore, ps_4, pe_4, po_i4, po_r4, po_n4, po_u4, pw_aload_n0, pw_aloadN_n0, pw_getI, pw_zeq, pw_ldcS, pw_iv2, pw_iv1, pw_iload_4, pw_clt, pw_bipush, bl_20, pw_cle, pw_nop, il_0, pw_ret1, kd_35, rf_35_0, rf_35_1, n_0, n_1, n_20, nn_lt, nn_nlt, nn_le, nn_nle, nn_ne, nn_sub, nn_mul, nI_add, nn_neg, nm_eq, mn_eq, mm_eq, mn_lt, nm_lt, mn_le, nm_le, nn_sub0, nn_of, implies_true, nn_c, nn_in, nn_div, nat_rem, Nat.reduceMul, Nat.reduceSub, Nat.reduceDiv, Nat.reduceMod, pf_at, pf_ne, mk_s, mk_1, Classical.not_not, b2i_T, b2i_F, false_imp_iff, true_imp_iff, false_and, and_false, p_sw, Int.reduceAdd, Int.zero_add, Option.some.injEq, Value.int.injEq, Value.long.injEq, Value.ref.injEq, exists_eq_left', mk_I, mk_L, mk_wI, mk_wL, rf_s, rf_n, true_and, and_true, and_self, or_true, true_or, or_false, false_or, not_true_eq_false, not_false_eq_true, Option.toList_some, Option.toList_none, List.cons_append, List.nil_append, List.map_nil, List.map_cons, List.sum_nil, List.sum_cons, cat_i, cat_l, cat_r, cat_n, Nat.reduceLeDiff, Nat.reduceAdd, Nat.reduceEqDiff, Nat.zero_le, p_ent, p_u_ne, p_u_at, reduceIte, if_true, if_false, h3, P_ce s70, P_ce s67]
            exact ⟨J1, fin, rfl⟩
        · rw [if_neg c1] at s67
          replace s67 : P_m (x + 54) 67 [.ref 35] (p_mk Ls (stp B T J (k + 1)) L R X) (fun v h' => v = some (.int (mI 1)) ∧ h' = p_mk Ls (stp B T J (k + 1)) L R X) := s67
          have lm : (mI 1 < nI 1) = True := by decide
          clear tail hS hS1 s72
          generalize stp B T J (k + 1) = J1 at *
          rw [P_run_eq, bk_59_8, pb_59_8]; simp -implicitDefEqProofs (disch := first | omega | decide) only [P_m, ↓P_run_eq _ 59 _ (p_bk 59 9), bk_59_9, pb_59_9, pw_iconst, il_1, pw_istore, ps_4, pe_4, po_i4, po_r4, po_n4, po_u4, pw_aload_n0, pw_aloadN_n0, pw_getI, pw_zeq, pw_ldcS, pw_iv2, pw_iv1, pw_iload_4, pw_clt, pw_bipush, bl_20, pw_cle, pw_nop, il_0, pw_ret1, kd_35, rf_35_0, rf_35_1, n_0, n_1, n_20, nn_lt, nn_nlt, nn_le, nn_nle, nn_ne, nn_sub, nn_mul, nI_add, nn_neg, nm_eq, mn_eq, mm_eq, mn_lt, nm_lt, mn_le, nm_le, nn_sub0, nn_of, implies_true, nn_c, nn_in, nn_div, nat_rem, Nat.reduceMul, Nat.reduceSub, Nat.reduceDiv, Nat.reduceMod, pf_at, pf_ne, mk_s, mk_1, Classical.not_not, b2i_T, b2i_F, false_imp_iff, true_imp_iff, false_and, and_false, p_sw, Int.reduceAdd, Int.zero_add, Option.some.injEq, Value.int.injEq, Value.long.injEq, Value.ref.injEq, exists_eq_left', mk_I, mk_L, mk_wI, mk_wL, rf_s, rf_n, true_and, and_true, and_self, or_true, true_or, or_false, false_or, not_true_eq_false, not_false_eq_true, Option.toList_some, Option.toList_none, List.cons_append, List.nil_append, List.map_nil, List.map_cons, List.sum_nil, List.sum_cons, cat_i, cat_l, cat_r, cat_n, Nat.reduceLeDiff, Nat.reduceAdd, Nat.reduceEqDiff, Nat.zero_le, p_ent, p_u_ne, p_u_at, reduceIte, if_true, if_false, h3, lm, P_ce s70, P_ce s67]
          exact ⟨J1, fin, rfl⟩
    · rw [if_neg (fun h => c23 h.2), bnd_ok] at hq
      rw [decide_eq_false c23, bN_f, if_neg c23] at s70
      have nx := tail k 1 J hk fJ hS hq
      clear tail hq hS
      generalize nI (ocV q) = VQ at *
      rw [P_run_eq, bk_59_8, pb_59_8]; simp -implicitDefEqProofs (disch := first | omega | decide) only [P_m, pw_iconst, il_1, pw_istore, ps_4, pe_4, po_i4, po_r4, po_n4, po_u4, pw_aload_n0, pw_aloadN_n0, pw_getI, pw_zeq, pw_ldcS, pw_iv2, pw_iv1, pw_iload_4, pw_clt, pw_bipush, bl_20, pw_cle, pw_nop, kd_35, rf_35_0, rf_35_1, n_0, n_1, n_20, nn_lt, nn_nlt, nn_le, nn_nle, nn_ne, nn_sub, nn_mul, nI_add, nn_neg, nm_eq, mn_eq, mm_eq, mn_lt, nm_lt, mn_le, nm_le, nn_sub0, nn_of, implies_true, nn_c, nn_in, nn_div, nat_rem, Nat.reduceMul, Nat.reduceSub, Nat.reduceDiv, Nat.reduceMod, pf_at, pf_ne, mk_s, mk_1, Classical.not_not, b2i_T, b2i_F, false_imp_iff, true_imp_iff, false_and, and_false, p_sw, Int.reduceAdd, Int.zero_add, Option.some.injEq, Value.int.injEq, Value.long.injEq, Value.ref.injEq, exists_eq_left', mk_I, mk_L, mk_wI, mk_wL, rf_s, rf_n, true_and, and_true, and_self, or_true, true_or, or_false, false_or, not_true_eq_false, not_false_eq_true, Option.toList_some, Option.toList_none, List.cons_append, List.nil_append, List.map_nil, List.map_cons, List.sum_nil, List.sum_cons, cat_i, cat_l, cat_r, cat_n, Nat.reduceLeDiff, Nat.reduceAdd, Nat.reduceEqDiff, Nat.zero_le, p_ent, p_u_ne, p_u_at, reduceIte, if_true, if_false, h3, P_ce s70]
      exact nx
/-- a clause -/
theorem pl_59 {x k l m : Nat} {D : tCd} {I : Nat → Nat → Int32} {r : Except Nat (Nat × Nat × tCl)} (hN : ∀ k, N ≤ k → tC B T k = 0) (h4 : N ≤ 400) (hk : k ≤ N) (H : rdB o B T I R) (hS : rdS B T I k l D) (hm : m < 12) (e0 : I 36 0 = nI m) (hr : RC o (tC B T) (tV B T) k l D.length = some r) : ∃ J, ocC B T I J m D r ∧ P_m (x + 55) 59 [.ref 35] (p_mk Ls I L R X) (fun v h' => v = some (.int (nI (ocV r))) ∧ h' = p_mk Ls J L R X) := by
  have h3 := H.2.2
  have cl : tC B T k < 356 := by
    have := tC_le (B := B) (T := T) (i := k) (fun j hj => (H.2.1.2.2.2 j hj).2)
    omega
  rw [RC_e] at hr
  have s71 := pl_71t (d := x + 49) (Ls := Ls) (L := L) (X := X) (s := 0) H.1 H.2.1 hS.1 (by omega)
  have s71b := pl_71t (d := x + 49) (Ls := Ls) (L := L) (X := X) (s := 1) H.1 H.2.1 hS.1 (by omega)
  rw [show 12 + 0 = 12 from rfl, (hd_o _ cl).1] at s71
  rw [show 12 + 1 = 13 from rfl, (hd_l _ cl).1] at s71b
  have s72 := pl_step (d := x + 54) (Ls := Ls) (L := L) (X := X) H.2.1 hS.1
  have all : P_m (x + 55) 59 [.ref 35] (p_mk Ls I L R X) (fun v h' => v = some (.int (nI (ocV r))) ∧ ∃ J, ocC B T I J m D r ∧ h' = p_mk Ls J L R X) := by
    by_cases c9 : hdK o (tC B T k) = 9
    · rw [if_pos c9] at hr
      cases hr
      have fin : ocC B T I I m D (.error k) := ⟨frS_rf, hS.1⟩
      show P_m _ _ _ _ (fun v h' => v = some (.int (nI 0)) ∧ _)
      cases o with
      | false =>
        rw [if_pos c9] at s71b
        rw [bN_f] at h3
        replace s71b : P_m (x + 54) 71 [.ref 35, .ref 13] (p_mk Ls I L R X) (fun v h' => v = some (.int (mI 1)) ∧ h' = p_mk Ls I L R X) := s71b
        clear hS s72
        simp -implicitDefEqProofs (disch := first | omega | decide) only [P_m, ↓P_run_eq _ 59 _ (p_bk 59 0), bk_59_0, pb_59_0, ↓P_run_eq _ 59 _ (p_bk 59 1), bk_59_1, pb_59_1, ↓P_run_eq _ 59 _ (p_bk 59 2), bk_59_2, pb_59_2, pw_aload_n0, pw_aloadN_n0, pw_getI, pw_zeq, pw_ldcS, pw_goto, pw_nop, pw_iv2, pw_istore_n1, ps_1, pe_1, po_i1, po_r1, po_n1, po_u1, pw_iload_n1, pw_iconst, il_m1, pw_cne, il_0, pw_ret1, kd_35, rf_35_0, rf_35_1, n_0, n_1, nn_lt, nn_nlt, nn_le, nn_nle, nn_ne, nn_sub, nn_mul, nI_add, nn_neg, nm_eq, mn_eq, mm_eq, mn_lt, nm_lt, mn_le, nm_le, nn_sub0, nn_of, implies_true, nn_c, nn_in, nn_div, nat_rem, Nat.reduceMul, Nat.reduceSub, Nat.reduceDiv, Nat.reduceMod, pf_at, pf_ne, mk_s, mk_1, Classical.not_not, b2i_T, b2i_F, false_imp_iff, true_imp_iff, false_and, and_false, p_sw, Int.reduceAdd, Int.zero_add, Option.some.injEq, Value.int.injEq, Value.long.injEq, Value.ref.injEq, exists_eq_left', mk_I, mk_L, mk_wI, mk_wL, rf_s, rf_n, true_and, and_true, and_self, or_true, true_or, or_false, false_or, not_true_eq_false, not_false_eq_true, Option.toList_some, Option.toList_none, List.cons_append, List.nil_append, List.map_nil, List.map_cons, List.sum_nil, List.sum_cons, cat_i, cat_l, cat_r, cat_n, Nat.reduceLeDiff, Nat.reduceAdd, Nat.reduceEqDiff, Nat.zero_le, p_ent, p_u_ne, p_u_at, reduceIte, if_true, if_false, h3, P_ce s71b]
        exact ⟨I, fin, rfl⟩
      | true =>
        rw [if_pos c9] at s71
        rw [bN_t] at h3
        replace s71 : P_m (x + 54) 71 [.ref 35, .ref 12] (p_mk Ls I L R X) (fun v h' => v = some (.int (mI 1)) ∧ h' = p_mk Ls I L R X) := s71
        clear hS s72
        simp -implicitDefEqProofs (disch := first | omega | decide) only [P_m, ↓P_run_eq _ 59 _ (p_bk 59 0), bk_59_0, pb_59_0, ↓P_run_eq _ 59 _ (p_bk 59 2), bk_59_2, pb_59_2, pw_aload_n0, pw_aloadN_n0, pw_getI, pw_zeq, pw_ldcS, pw_goto, pw_iv2, pw_istore_n1, ps_1, pe_1, po_i1, po_r1, po_n1, po_u1, pw_iload_n1, pw_iconst, il_m1, pw_cne, il_0, pw_ret1, kd_35, rf_35_0, rf_35_1, n_0, n_1, nn_lt, nn_nlt, nn_le, nn_nle, nn_ne, nn_sub, nn_mul, nI_add, nn_neg, nm_eq, mn_eq, mm_eq, mn_lt, nm_lt, mn_le, nm_le, nn_sub0, nn_of, implies_true, nn_c, nn_in, nn_div, nat_rem, Nat.reduceMul, Nat.reduceSub, Nat.reduceDiv, Nat.reduceMod, pf_at, pf_ne, mk_s, mk_1, Classical.not_not, b2i_T, b2i_F, false_imp_iff, true_imp_iff, false_and, and_false, p_sw, Int.reduceAdd, Int.zero_add, Option.some.injEq, Value.int.injEq, Value.long.injEq, Value.ref.injEq, exists_eq_left', mk_I, mk_L, mk_wI, mk_wL, rf_s, rf_n, true_and, and_true, and_self, or_true, true_or, or_false, false_or, not_true_eq_false, not_false_eq_true, Option.toList_some, Option.toList_none, List.cons_append, List.nil_append, List.map_nil, List.map_cons, List.sum_nil, List.sum_cons, cat_i, cat_l, cat_r, cat_n, Nat.reduceLeDiff, Nat.reduceAdd, Nat.reduceEqDiff, Nat.zero_le, p_ent, p_u_ne, p_u_at, reduceIte, if_true, if_false, h3, P_ce s71]
        exact ⟨I, fin, rfl⟩
    · rw [if_neg c9] at hr
      have kN := kN_of hN (show ¬ tC B T k = 0 from fun h => c9 (by rw [h]; exact hdK_0))
      have f1 : frS I (stp B T I (k + 1)) := frS_stp
      have H1 := rdB_fr H f1
      have hS1 := rdS_stp hS
      have e6 := hS1.2.2.2.1
      have h3b := H1.2.2
      -- from the sum on
      have tail : ∀ hs : Bool, hs = hasS o (hdK o (tC B T k)) → P_run (x + 54 + 1) 59 (p_bk 59 7) 0 0 [.ref 35, .int (nI (hdK o (tC B T k))), .int (nI D.length)] [.int (nI (bN hs))] (p_mk Ls (stp B T I (k + 1)) L R X) (fun v h' => v = some (.int (nI (ocV r))) ∧ ∃ J, ocC B T I J m D r ∧ h' = p_mk Ls J L R X) := by
        intro hs ehs
        unfold RSm at hr
        rw [← ehs] at hr
        cases hs with
        | false =>
          rw [if_neg (by decide), bnd_ok] at hr
          have nx := cl_tm (x := x) (fr := D.length) (sm := []) (v3 := nI 0) (Ls := Ls) (L := L) (X := X) hN h4 (show k + 1 ≤ N by omega) H f1 (by rw [List.append_nil]; exact hS1) hm e0 rfl hr
          rw [bN_f]
          clear hr hS hS1
          generalize stp B T I (k + 1) = J1 at *
          generalize D.length = dl at *
          generalize hdK o (tC B T k) = kd at *
          generalize nI (ocV r) = VR at *
          rw [P_run_eq, bk_59_7, pb_59_7]; simp -implicitDefEqProofs (disch := first | omega | decide) only [P_m, pw_istore_n3, ps_3, pe_3, po_i3, po_r3, po_n3, po_u3, pw_iload_n3, pw_zeq, pw_aload_n0, pw_aloadN_n0, pw_iconst, il_0, pw_iv2, pw_zne, pw_ret1, kd_35, rf_35_0, rf_35_1, n_0, n_1, nn_lt, nn_nlt, nn_le, nn_nle, nn_ne, nn_sub, nn_mul, nI_add, nn_neg, nm_eq, mn_eq, mm_eq, mn_lt, nm_lt, mn_le, nm_le, nn_sub0, nn_of, implies_true, nn_c, nn_in, nn_div, nat_rem, Nat.reduceMul, Nat.reduceSub, Nat.reduceDiv, Nat.reduceMod, pf_at, pf_ne, mk_s, mk_1, Classical.not_not, b2i_T, b2i_F, false_imp_iff, true_imp_iff, false_and, and_false, p_sw, Int.reduceAdd, Int.zero_add, Option.some.injEq, Value.int.injEq, Value.long.injEq, Value.ref.injEq, exists_eq_left', mk_I, mk_L, mk_wI, mk_wL, rf_s, rf_n, true_and, and_true, and_self, or_true, true_or, or_false, false_or, not_true_eq_false, not_false_eq_true, Option.toList_some, Option.toList_none, List.cons_append, List.nil_append, List.map_nil, List.map_cons, List.sum_nil, List.sum_cons, cat_i, cat_l, cat_r, cat_n, Nat.reduceLeDiff, Nat.reduceAdd, Nat.reduceEqDiff, Nat.zero_le, p_ent, p_u_ne, p_u_at, reduceIte, if_true, if_false]
          exact nx
        | true =>
          rw [if_pos rfl] at hr
          obtain ⟨q, hq⟩ := RS_t (o := o) (V := tV B T) (md := 1) (d := 0) (l := l) (f := fun _ => none) (cs := []) hN h4 (show k + 1 ≤ N by omega) (by omega)
          obtain ⟨J2, ⟨f2, o2⟩, s64⟩ := sums_c (o := o) (Ls := Ls) (L := L) (R := R) (X := X) hN h4 (k + 1) (by omega) (x + 27) 0 l _ [] D _ q (by omega) H1 hS1 hq
          replace s64 : P_m (x + 54) 64 [.ref 35, .int (nI 0)] (p_mk Ls (stp B T I (k + 1)) L R X) (fun v h' => v = some (.int (nI (ocV q))) ∧ h' = p_mk Ls J2 L R X) := s64
          rw [hq] at hr
          rw [bN_t]
          match q, hq, o2, s64, hr with
          | .error e, hq, o2, s64, hr =>
            cases hr
            have fin : ocC B T I J2 m D (.error e) := ⟨frS_tr f1 f2, o2⟩
            show P_run _ _ _ _ _ _ _ _ (fun v h' => v = some (.int (nI 0)) ∧ _)
            replace s64 : P_m (x + 54) 64 [.ref 35, .int (nI 0)] (p_mk Ls (stp B T I (k + 1)) L R X) (fun v h' => v = some (.int (nI 0)) ∧ h' = p_mk Ls J2 L R X) := s64
            clear hS hS1
            generalize stp B T I (k + 1) = J1 at *
            generalize D.length = dl at *
            generalize hdK o (tC B T k) = kd at *
            rw [P_run_eq, bk_59_7, pb_59_7]; simp -implicitDefEqProofs (disch := first | omega | decide) only [P_m, pw_istore_n3, ps_3, pe_3, po_i3, po_r3, po_n3, po_u3, pw_iload_n3, pw_zeq, pw_aload_n0, pw_aloadN_n0, pw_iconst, il_0, pw_iv2, pw_zne, pw_ret1, kd_35, rf_35_0, rf_35_1, n_0, n_1, nn_lt, nn_nlt, nn_le, nn_nle, nn_ne, nn_sub, nn_mul, nI_add, nn_neg, nm_eq, mn_eq, mm_eq, mn_lt, nm_lt, mn_le, nm_le, nn_sub0, nn_of, implies_true, nn_c, nn_in, nn_div, nat_rem, Nat.reduceMul, Nat.reduceSub, Nat.reduceDiv, Nat.reduceMod, pf_at, pf_ne, mk_s, mk_1, Classical.not_not, b2i_T, b2i_F, false_imp_iff, true_imp_iff, false_and, and_false, p_sw, Int.reduceAdd, Int.zero_add, Option.some.injEq, Value.int.injEq, Value.long.injEq, Value.ref.injEq, exists_eq_left', mk_I, mk_L, mk_wI, mk_wL, rf_s, rf_n, true_and, and_true, and_self, or_true, true_or, or_false, false_or, not_true_eq_false, not_false_eq_true, Option.toList_some, Option.toList_none, List.cons_append, List.nil_append, List.map_nil, List.map_cons, List.sum_nil, List.sum_cons, cat_i, cat_l, cat_r, cat_n, Nat.reduceLeDiff, Nat.reduceAdd, Nat.reduceEqDiff, Nat.zero_le, p_ent, p_u_ne, p_u_at, reduceIte, if_true, if_false, P_ce s64]
            exact ⟨J2, fin, rfl⟩
          | .ok q, hq, o2, s64, hr =>
            have o2 : rdS B T J2 q.1 q.2.1 (D ++ q.2.2.2) := o2
            replace s64 : P_m (x + 54) 64 [.ref 35, .int (nI 0)] (p_mk Ls (stp B T I (k + 1)) L R X) (fun v h' => v = some (.int (nI 1)) ∧ h' = p_mk Ls J2 L R X) := s64
            rw [bnd_ok] at hr
            have nx := cl_tm (x := x) (fr := D.length) (sm := q.2.2.2) (v3 := nI 1) (Ls := Ls) (L := L) (X := X) hN h4 (RS_pr hN hq (by omega)).1 H (frS_tr f1 f2) o2 hm e0 rfl hr
            clear hr hS hS1 o2 hq
            generalize stp B T I (k + 1) = J1 at *
            generalize D.length = dl at *
            generalize hdK o (tC B T k) = kd at *
            generalize nI (ocV r) = VR at *
            rw [P_run_eq, bk_59_7, pb_59_7]; simp -implicitDefEqProofs (disch := first | omega | decide) only [P_m, pw_istore_n3, ps_3, pe_3, po_i3, po_r3, po_n3, po_u3, pw_iload_n3, pw_zeq, pw_aload_n0, pw_aloadN_n0, pw_iconst, il_0, pw_iv2, pw_zne, pw_ret1, kd_35, rf_35_0, rf_35_1, n_0, n_1, nn_lt, nn_nlt, nn_le, nn_nle, nn_ne, nn_sub, nn_mul, nI_add, nn_neg, nm_eq, mn_eq, mm_eq, mn_lt, nm_lt, mn_le, nm_le, nn_sub0, nn_of, implies_true, nn_c, nn_in, nn_div, nat_rem, Nat.reduceMul, Nat.reduceSub, Nat.reduceDiv, Nat.reduceMod, pf_at, pf_ne, mk_s, mk_1, Classical.not_not, b2i_T, b2i_F, false_imp_iff, true_imp_iff, false_and, and_false, p_sw, Int.reduceAdd, Int.zero_add, Option.some.injEq, Value.int.injEq, Value.long.injEq, Value.ref.injEq, exists_eq_left', mk_I, mk_L, mk_wI, mk_wL, rf_s, rf_n, true_and, and_true, and_self, or_true, true_or, or_false, false_or, not_true_eq_false, not_false_eq_true, Option.toList_some, Option.toList_none, List.cons_append, List.nil_append, List.map_nil, List.map_cons, List.sum_nil, List.sum_cons, cat_i, cat_l, cat_r, cat_n, Nat.reduceLeDiff, Nat.reduceAdd, Nat.reduceEqDiff, Nat.zero_le, p_ent, p_u_ne, p_u_at, reduceIte, if_true, if_false, P_ce s64]
            exact nx
      cases o with
      | false =>
        rw [if_neg c9] at s71b
        rw [bN_f] at h3 h3b
        have k2 := (hd_l _ cl).2.2 c9
        replace s71b : P_m (x + 54) 71 [.ref 35, .ref 13] (p_mk Ls I L R X) (fun v h' => v = some (.int (nI (hdK false (tC B T k)))) ∧ h' = p_mk Ls I L R X) := s71b
        clear s71 hr hS hS1
        by_cases z : hdK false (tC B T k) = 0
        · have nx := tail true (by rw [z]; rfl)
          rw [bN_t] at nx
          rw [z] at nx s71b
          clear tail
          generalize stp B T I (k + 1) = J1 at *
          generalize D.length = dl at *
          generalize nI (ocV r) = VR at *
          simp -implicitDefEqProofs (disch := first | omega | decide) only [P_m, ↓P_run_eq _ 59 _ (p_bk 59 0), bk_59_0, pb_59_0, ↓P_run_eq _ 59 _ (p_bk 59 1), bk_59_1, pb_59_1, ↓P_run_eq _ 59 _ (p_bk 59 2), bk_59_2, pb_59_2, ↓P_run_eq _ 59 _ (p_bk 59 3), bk_59_3, pb_59_3, ↓P_run_eq _ 59 _ (p_bk 59 5), bk_59_5, pb_59_5, pw_aload_n0, pw_aloadN_n0, pw_getI, pw_zeq, pw_ldcS, pw_goto, pw_nop, pw_iv2, pw_istore_n1, ps_1, pe_1, po_i1, po_r1, po_n1, po_u1, pw_iload_n1, pw_iconst, il_m1, pw_cne, il_0, pw_ret1, pw_iv1, pw_getR, pw_istore_n2, ps_2, pe_2, po_i2, po_r2, po_n2, po_u2, il_2, pw_ceq, il_1, pw_zne, kd_35, rf_35_0, rf_35_1, kd_36, rf_36_1, rf_36_2, rf_36_3, rf_36_4, rf_36_5, rf_36_7, rf_36_8, n_0, n_1, n_2, nn_lt, nn_nlt, nn_le, nn_nle, nn_ne, nn_sub, nn_mul, nI_add, nn_neg, nm_eq, mn_eq, mm_eq, mn_lt, nm_lt, mn_le, nm_le, nn_sub0, nn_of, implies_true, nn_c, nn_in, nn_div, nat_rem, Nat.reduceMul, Nat.reduceSub, Nat.reduceDiv, Nat.reduceMod, pf_at, pf_ne, mk_s, mk_1, Classical.not_not, b2i_T, b2i_F, false_imp_iff, true_imp_iff, false_and, and_false, p_sw, Int.reduceAdd, Int.zero_add, Option.some.injEq, Value.int.injEq, Value.long.injEq, Value.ref.injEq, exists_eq_left', mk_I, mk_L, mk_wI, mk_wL, rf_s, rf_n, true_and, and_true, and_self, or_true, true_or, or_false, false_or, not_true_eq_false, not_false_eq_true, Option.toList_some, Option.toList_none, List.cons_append, List.nil_append, List.map_nil, List.map_cons, List.sum_nil, List.sum_cons, cat_i, cat_l, cat_r, cat_n, Nat.reduceLeDiff, Nat.reduceAdd, Nat.reduceEqDiff, Nat.zero_le, p_ent, p_u_ne, p_u_at, reduceIte, if_true, if_false, h3, h3b, e6, P_ce s71b, P_ce s72]
          exact nx
        · have nx := tail false (by unfold hasS; rw [if_neg (by decide), decide_eq_false z])
          rw [bN_f] at nx
          clear tail
          generalize stp B T I (k + 1) = J1 at *
          generalize D.length = dl at *
          generalize nI (ocV r) = VR at *
          generalize hdK false (tC B T k) = kd at *
          simp -implicitDefEqProofs (disch := first | omega | decide) only [P_m, ↓P_run_eq _ 59 _ (p_bk 59 0), bk_59_0, pb_59_0, ↓P_run_eq _ 59 _ (p_bk 59 1), bk_59_1, pb_59_1, ↓P_run_eq _ 59 _ (p_bk 59 2), bk_59_2, pb_59_2, ↓P_run_eq _ 59 _ (p_bk 59 3), bk_59_3, pb_59_3, ↓P_run_eq _ 59 _ (p_bk 59 5), bk_59_5, pb_59_5, ↓P_run_eq _ 59 _ (p_bk 59 6), bk_59_6, pb_59_6, pw_aload_n0, pw_aloadN_n0, pw_getI, pw_zeq, pw_ldcS, pw_goto, pw_nop, pw_iv2, pw_istore_n1, ps_1, pe_1, po_i1, po_r1, po_n1, po_u1, pw_iload_n1, pw_iconst, il_m1, pw_cne, il_0, pw_ret1, pw_iv1, pw_getR, pw_istore_n2, ps_2, pe_2, po_i2, po_r2, po_n2, po_u2, il_2, pw_ceq, il_1, pw_zne, kd_35, rf_35_0, rf_35_1, kd_36, rf_36_1, rf_36_2, rf_36_3, rf_36_4, rf_36_5, rf_36_7, rf_36_8, n_0, n_1, n_2, nn_lt, nn_nlt, nn_le, nn_nle, nn_ne, nn_sub, nn_mul, nI_add, nn_neg, nm_eq, mn_eq, mm_eq, mn_lt, nm_lt, mn_le, nm_le, nn_sub0, nn_of, implies_true, nn_c, nn_in, nn_div, nat_rem, Nat.reduceMul, Nat.reduceSub, Nat.reduceDiv, Nat.reduceMod, pf_at, pf_ne, mk_s, mk_1, Classical.not_not, b2i_T, b2i_F, false_imp_iff, true_imp_iff, false_and, and_false, p_sw, Int.reduceAdd, Int.zero_add, Option.some.injEq, Value.int.injEq, Value.long.injEq, Value.ref.injEq, exists_eq_left', mk_I, mk_L, mk_wI, mk_wL, rf_s, rf_n, true_and, and_true, and_self, or_true, true_or, or_false, false_or, not_true_eq_false, not_false_eq_true, Option.toList_some, Option.toList_none, List.cons_append, List.nil_append, List.map_nil, List.map_cons, List.sum_nil, List.sum_cons, cat_i, cat_l, cat_r, cat_n, Nat.reduceLeDiff, Nat.reduceAdd, Nat.reduceEqDiff, Nat.zero_le, p_ent, p_u_ne, p_u_at, reduceIte, if_true, if_false, h3, h3b, e6, P_ce s71b, P_ce s72]
          exact nx
      | true =>
        rw [if_neg c9] at s71
        rw [bN_t] at h3 h3b
        have k2 := (hd_o _ cl).2.2 c9
        replace s71 : P_m (x + 54) 71 [.ref 35, .ref 12] (p_mk Ls I L R X) (fun v h' => v = some (.int (nI (hdK true (tC B T k)))) ∧ h' = p_mk Ls I L R X) := s71
        clear s71b hr hS hS1
        by_cases z : hdK true (tC B T k) = 2
        · have nx := tail false (by rw [z]; rfl)
          rw [bN_f] at nx
          rw [z] at nx s71
          clear tail
          generalize stp B T I (k + 1) = J1 at *
          generalize D.length = dl at *
          generalize nI (ocV r) = VR at *
          simp -implicitDefEqProofs (disch := first | omega | decide) only [P_m, ↓P_run_eq _ 59 _ (p_bk 59 0), bk_59_0, pb_59_0, ↓P_run_eq _ 59 _ (p_bk 59 2), bk_59_2, pb_59_2, ↓P_run_eq _ 59 _ (p_bk 59 3), bk_59_3, pb_59_3, ↓P_run_eq _ 59 _ (p_bk 59 4), bk_59_4, pb_59_4, pw_aload_n0, pw_aloadN_n0, pw_getI, pw_zeq, pw_ldcS, pw_goto, pw_iv2, pw_istore_n1, ps_1, pe_1, po_i1, po_r1, po_n1, po_u1, pw_iload_n1, pw_iconst, il_m1, pw_cne, il_0, pw_ret1, pw_iv1, pw_getR, pw_istore_n2, ps_2, pe_2, po_i2, po_r2, po_n2, po_u2, il_2, pw_ceq, il_1, kd_35, rf_35_0, rf_35_1, kd_36, rf_36_1, rf_36_2, rf_36_3, rf_36_4, rf_36_5, rf_36_7, rf_36_8, n_0, n_1, n_2, nn_lt, nn_nlt, nn_le, nn_nle, nn_ne, nn_sub, nn_mul, nI_add, nn_neg, nm_eq, mn_eq, mm_eq, mn_lt, nm_lt, mn_le, nm_le, nn_sub0, nn_of, implies_true, nn_c, nn_in, nn_div, nat_rem, Nat.reduceMul, Nat.reduceSub, Nat.reduceDiv, Nat.reduceMod, pf_at, pf_ne, mk_s, mk_1, Classical.not_not, b2i_T, b2i_F, false_imp_iff, true_imp_iff, false_and, and_false, p_sw, Int.reduceAdd, Int.zero_add, Option.some.injEq, Value.int.injEq, Value.long.injEq, Value.ref.injEq, exists_eq_left', mk_I, mk_L, mk_wI, mk_wL, rf_s, rf_n, true_and, and_true, and_self, or_true, true_or, or_false, false_or, not_true_eq_false, not_false_eq_true, Option.toList_some, Option.toList_none, List.cons_append, List.nil_append, List.map_nil, List.map_cons, List.sum_nil, List.sum_cons, cat_i, cat_l, cat_r, cat_n, Nat.reduceLeDiff, Nat.reduceAdd, Nat.reduceEqDiff, Nat.zero_le, p_ent, p_u_ne, p_u_at, reduceIte, if_true, if_false, h3, h3b, e6, P_ce s71, P_ce s72]
          exact nx
        · have nx := tail true (by unfold hasS; rw [if_pos rfl, decide_eq_true z])
          rw [bN_t] at nx
          clear tail
          generalize stp B T I (k + 1) = J1 at *
          generalize D.length = dl at *
          generalize nI (ocV r) = VR at *
          generalize hdK true (tC B T k) = kd at *
          simp -implicitDefEqProofs (disch := first | omega | decide) only [P_m, ↓P_run_eq _ 59 _ (p_bk 59 0), bk_59_0, pb_59_0, ↓P_run_eq _ 59 _ (p_bk 59 2), bk_59_2, pb_59_2, ↓P_run_eq _ 59 _ (p_bk 59 3), bk_59_3, pb_59_3, pw_aload_n0, pw_aloadN_n0, pw_getI, pw_zeq, pw_ldcS, pw_goto, pw_iv2, pw_istore_n1, ps_1, pe_1, po_i1, po_r1, po_n1, po_u1, pw_iload_n1, pw_iconst, il_m1, pw_cne, il_0, pw_ret1, pw_iv1, pw_getR, pw_istore_n2, ps_2, pe_2, po_i2, po_r2, po_n2, po_u2, il_2, pw_ceq, il_1, kd_35, rf_35_0, rf_35_1, kd_36, rf_36_1, rf_36_2, rf_36_3, rf_36_4, rf_36_5, rf_36_7, rf_36_8, n_0, n_1, n_2, nn_lt, nn_nlt, nn_le, nn_nle, nn_ne, nn_sub, nn_mul, nI_add, nn_neg, nm_eq, mn_eq, mm_eq, mn_lt, nm_lt, mn_le, nm_le, nn_sub0, nn_of, implies_true, nn_c, nn_in, nn_div, nat_rem, Nat.reduceMul, Nat.reduceSub, Nat.reduceDiv, Nat.reduceMod, pf_at, pf_ne, mk_s, mk_1, Classical.not_not, b2i_T, b2i_F, false_imp_iff, true_imp_iff, false_and, and_false, p_sw, Int.reduceAdd, Int.zero_add, Option.some.injEq, Value.int.injEq, Value.long.injEq, Value.ref.injEq, exists_eq_left', mk_I, mk_L, mk_wI, mk_wL, rf_s, rf_n, true_and, and_true, and_self, or_true, true_or, or_false, false_or, not_true_eq_false, not_false_eq_true, Option.toList_some, Option.toList_none, List.cons_append, List.nil_append, List.map_nil, List.map_cons, List.sum_nil, List.sum_cons, cat_i, cat_l, cat_r, cat_n, Nat.reduceLeDiff, Nat.reduceAdd, Nat.reduceEqDiff, Nat.zero_le, p_ent, p_u_ne, p_u_at, reduceIte, if_true, if_false, h3, h3b, e6, P_ce s71, P_ce s72]
          exact nx
  obtain ⟨v, g', ⟨rfl, J', f1, rfl⟩, s⟩ := P_mex all
  exact ⟨J', f1, s⟩
end CM
