section CQ
variable {d Ls : Nat} {I : Nat → Nat → Int32} {L : Nat → Nat → Int64} {R : Nat → Nat → Option Nat} {X : List pKd} {h : pHp}
theorem q_compare (x : Int32) (H : Inv I R X) : Same (d + 60) 109 233 [.int x] Ls (p_mk Ls I L R X) := by
  obtain ⟨c, hx⟩ := Inv_cx (Ls := Ls) H
  have hV := hx.2.2.1
  obtain ⟨n1, n2⟩ := kn_52 hV
  obtain ⟨m1, m2⟩ := kn_53 hV
  have e55 := kn_e hV (j := 55) (by omega) (by omega) (by omega)
  have l55 : kn (I 125) 55 ≤ 6 := e55.2
  have hg0 : ∀ k, (none : Option Nat) = some k → k < 256 := fun k hk => by cases hk
  have go : ((x = mI 1 ∧ fRef R 71 (upd (I 125) 56 x) = none) ∨ ∃ f, f < kn (I 125) 55 ∧ x = nI f ∧ fRef R 71 (upd (I 125) 56 x) = R 79 f) → (-1 ≤ x ∧ x ≤ nI (kn (I 125) 55) - 1) → Same (d + 60) 109 233 [.int x] Ls (p_mk Ls I L R X) := by
    intro hr hb
    have hx2 : x = -1 ∨ ∃ f, f < kn (I 125) 55 ∧ x = nI f := by
      rcases hr with ⟨e, -⟩ | ⟨f, f1, f2, -⟩
      · exact Or.inl e
      · exact Or.inr ⟨f, f1, f2⟩
    obtain ⟨c', hc1, hc2⟩ := law_56 (Ls := Ls) H hx2
    obtain ⟨J, fJ, s1⟩ := cmp_c (d := d + 54) (L := L) hx hc2 (lawOf_c hc1) hr
    have H1 := Inv_Q (r := fRef R 71 (upd (I 125) 56 x)) H fJ
    have e125 : J 125 = I 125 := fJ 125 (by omega) (by omega) (by omega) (by omega) (by omega) (by omega)
    generalize layR R (fRef R 71 (upd (I 125) 56 x)) = RR at *
    have e2 : p_u J 125 56 x 125 = upd (I 125) 56 x := by
      funext k
      rw [p_u_at, e125]; rfl
    obtain ⟨J2, f2, s2⟩ := pl_230 (d := d + 9) (Ls := Ls) (I := p_u J 125 56 x) (L := L) (R := RR) (X := X) (c := c') (so := false) (md := false) (fi := false) (g := none) (by rw [e2]; exact vld_56 hV hx2) (by rw [e2]; exact hc1) hg0 (by
      rw [e2, kn_56 (by omega)]
      have : ∀ k, k ≤ 8 → inG k (pnI none) := by unfold inG pnI; decide
      exact this _ n2)
    rw [e2, plV_56 m2 n2] at s2
    have s3 := sp_183 (d := d + 58) (Ls := Ls) (I := J) (L := L) (R := RR) (X := X) x
    rw [e125, e55.1, b2i_t hb] at s3
    replace s3 : P_m (d + 58 + 1) 183 [.ref 123, .int x] (p_mk Ls J L RR X) (fun v h' => v = some (.int (nI 1)) ∧ h' = p_mk Ls J L RR X) := s3
    generalize pnI (rsV false (plV c' (I 125) false false none)) = V at *
    replace s2 : P_m (d + 9 + 50) 230 [.ref 123, .int (mI 1), .int (nI 0), .int (nI 0), .int (nI 1)] (p_mk Ls (p_u J 125 56 x) L RR X) (fun v h' => v = some (.int V) ∧ h' = p_mk Ls J2 L RR X) := s2
    have fin : InvH Ls (p_mk Ls (p_u J2 125 56 (J 125 56)) L RR X) := by
      refine ⟨_, _, _, _, rfl, Inv_F H1 (J := p_u J2 125 56 (J 125 56)) ⟨fun a a1 a2 a3 => ?_, fun k b1 b2 b3 b4 b5 => ?_⟩⟩
      · by_cases e : a = 125
        · subst e
          funext k
          rw [p_u_at, f2.1 125 (by omega) (by omega) (by omega), p_u_at]
          by_cases ek : k = 56
          · subst ek; rw [if_pos rfl]
          · rw [if_neg ek, if_neg ek]
        · rw [p_u_ne e, f2.1 a a1 a2 a3, p_u_ne e]
      · rw [p_u_ne (by omega), f2.2 k b1 b2 b3 b4 b5, p_u_ne (by omega)]
    unfold Same
    refine p_run_Q s1 ?_
    rintro _ _ ⟨rfl, rfl⟩
    refine ⟨_, rfl, ?_⟩
    simp -implicitDefEqProofs (disch := first | omega | decide) only [P_m, ↓P_run_eq _ 233 _ (p_bk 233 0), bk_233_0, pb_233_0, ↓P_run_eq _ 233 _ (p_bk 233 1), bk_233_1, pb_233_1, pw_aload_n0, pw_aloadN_n0, pw_iload_n1, pw_iv2, pw_zne, pw_iconst, il_m1, pw_ret0, pw_getR, pw_bipush, bl_56, pw_iald, pw_istore_n2, ps_2, pe_2, po_i2, po_r2, po_n2, po_u2, pw_iast, il_0, il_1, pw_iv5, pw_istore_n3, ps_3, pe_3, po_i3, po_r3, po_n3, po_u3, pw_iload_n2, pw_iload_n3, kd_123, rf_123_1, rf_123_2, rf_123_3, rf_123_4, rf_123_5, rf_123_7, rf_123_11, rf_123_12, rf_123_15, rf_123_16, rf_123_17, rf_123_26, rf_123_29, rf_123_30, rf_123_32, rf_123_34, rf_123_35, rf_123_45, kd_125, n_0, n_1, n_56, nn_lt, nn_nlt, nn_le, nn_nle, nn_ne, nn_sub, nn_mul, nI_add, nn_neg, nm_eq, mn_eq, mm_eq, mn_lt, nm_lt, mn_le, nm_le, nn_sub0, nn_of, implies_true, nn_c, nn_in, nn_div, nat_rem, Nat.reduceMul, Nat.reduceSub, Nat.reduceDiv, Nat.reduceMod, pf_at, pf_ne, mk_s, mk_1, Classical.not_not, b2i_T, b2i_F, false_imp_iff, true_imp_iff, false_and, and_false, p_sw, Int.reduceAdd, Int.zero_add, Option.some.injEq, Value.int.injEq, Value.long.injEq, Value.ref.injEq, exists_eq_left', mk_I, mk_L, mk_wI, mk_wL, rf_s, rf_n, true_and, and_true, and_self, or_true, true_or, or_false, false_or, not_true_eq_false, not_false_eq_true, Option.toList_some, Option.toList_none, List.cons_append, List.nil_append, List.map_nil, List.map_cons, List.sum_nil, List.sum_cons, cat_i, cat_l, cat_r, cat_n, Nat.reduceLeDiff, Nat.reduceAdd, Nat.reduceEqDiff, Nat.zero_le, p_ent, p_u_ne, p_u_at, reduceIte, if_true, if_false, P_ce s3, P_ce s2]
    exact fin
  rcases rg_n x (m := kn (I 125) 55) (by omega) with ⟨f, hf, rfl⟩ | ⟨n3, n4⟩
  · refine go (Or.inr ⟨f, hf, rfl, ?_⟩) ?_
    · unfold fRef
      rw [upd_eq, if_neg, nI_clamp (by omega)]
      have : ∀ f, f < 6 → ¬ nI f = -1 := by decide
      exact this f (by omega)
    · have : ∀ m, m ≤ 6 → ∀ f, f < m → (-1 ≤ nI f ∧ nI f ≤ nI m - 1) := by decide
      exact this _ l55 f hf
  · by_cases hm : x = mI 1
    · subst hm
      refine go (Or.inl ⟨rfl, ?_⟩) ?_
      · unfold fRef
        rw [upd_eq, if_pos (by decide)]
      · have : ∀ m, m ≤ 6 → ((-1 : Int32) ≤ mI 1 ∧ mI 1 ≤ nI m - 1) := by decide
        exact this _ l55
    · have n5 : ¬ (-1 ≤ x ∧ x ≤ nI (kn (I 125) 55) - 1) := by
        rintro ⟨h1, h2⟩
        refine n4 ⟨?_, h2⟩
        rw [Int32.le_iff_toInt_le] at h1 ⊢
        have e1 : (-1 : Int32).toInt = -1 := by decide
        have e0 : (0 : Int32).toInt = 0 := rfl
        have ne : ¬ x.toInt = -1 := fun e => hm (Int32.toInt_inj.mp (by rw [e, mI_toInt (by omega)]; rfl))
        omega
      obtain ⟨⟨r1, r2, r3, r4, r5, r6, r7, r8⟩, -⟩ := hutR_at hx.1
      have s9 := sp_9 (d := d + 59) (Ls := Ls) (I := I) (L := L) (R := R) (X := X) x
      rw [r7.trans e55.1, b2i_f n3] at s9
      have s3 := sp_183 (d := d + 58) (Ls := Ls) (I := I) (L := L) (R := R) (X := X) x
      rw [e55.1, b2i_f n5] at s3
      replace s3 : P_m (d + 58 + 1) 183 [.ref 123, .int x] (p_mk Ls I L R X) (fun v h' => v = some (.int (nI 0)) ∧ h' = p_mk Ls I L R X) := s3
      replace s9 : P_m (d + 59) 9 [.ref 71, .int x] (p_mk Ls I L R X) (fun v h' => v = some (.int (nI 0)) ∧ h' = p_mk Ls I L R X) := s9
      simp -implicitDefEqProofs (disch := first | omega | decide) only [P_m, ↓P_run_eq _ 109 _ (p_bk 109 0), bk_109_0, pb_109_0, ↓P_run_eq _ 233 _ (p_bk 233 0), bk_233_0, pb_233_0, pw_iload_n1, pw_iconst, il_m1, pw_ceq, pw_aload_n0, pw_aloadN_n0, pw_getR, pw_iv2, pw_zne, pw_ret0, kd_32, rf_32_0, rf_32_1, rf_32_2, rf_32_3, rf_32_4, rf_32_5, rf_32_6, rf_32_7, rf_32_8, rf_32_9, rf_32_11, rf_32_12, rf_32_13, kd_71, rf_71_1, rf_71_3, rf_71_4, rf_71_5, rf_71_6, rf_71_11, rf_71_12, rf_71_14, kd_123, rf_123_1, rf_123_2, rf_123_3, rf_123_4, rf_123_5, rf_123_7, rf_123_11, rf_123_12, rf_123_15, rf_123_16, rf_123_17, rf_123_26, rf_123_29, rf_123_30, rf_123_32, rf_123_34, rf_123_35, rf_123_45, n_0, n_1, nn_lt, nn_nlt, nn_le, nn_nle, nn_ne, nn_sub, nn_mul, nI_add, nn_neg, nm_eq, mn_eq, mm_eq, mn_lt, nm_lt, mn_le, nm_le, nn_sub0, nn_of, implies_true, nn_c, nn_in, nn_div, nat_rem, Nat.reduceMul, Nat.reduceSub, Nat.reduceDiv, Nat.reduceMod, pf_at, pf_ne, mk_s, mk_1, Classical.not_not, b2i_T, b2i_F, false_imp_iff, true_imp_iff, false_and, and_false, p_sw, Int.reduceAdd, Int.zero_add, Option.some.injEq, Value.int.injEq, Value.long.injEq, Value.ref.injEq, exists_eq_left', mk_I, mk_L, mk_wI, mk_wL, rf_s, rf_n, true_and, and_true, and_self, or_true, true_or, or_false, false_or, not_true_eq_false, not_false_eq_true, Option.toList_some, Option.toList_none, List.cons_append, List.nil_append, List.map_nil, List.map_cons, List.sum_nil, List.sum_cons, cat_i, cat_l, cat_r, cat_n, Nat.reduceLeDiff, Nat.reduceAdd, Nat.reduceEqDiff, Nat.zero_le, p_ent, p_u_ne, p_u_at, reduceIte, if_true, if_false, Same, hm, P_ce s9, P_ce s3]
      exact ⟨_, _, _, _, rfl, H⟩
end CQ
