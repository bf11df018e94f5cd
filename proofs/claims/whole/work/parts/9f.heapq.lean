section HX
variable {d Ls : Nat} {I : Nat → Nat → Int32} {L : Nat → Nat → Int64} {R : Nat → Nat → Option Nat} {X : List pKd} {h : pHp} {c : Option (List tCl)}
theorem lp_238 {fi : Bool} (hV : vld (I 125)) (hc : lawOf (I 125) c) : ∀ S, S ≤ alS c (I 125) (kn (I 125) 53) + 1 → ∀ J, frE I J → P_run (d + 49) 238 (p_bk 238 2) 0 0 [.ref 123, .int (nI (bN fi)), .int (nI (alS c (I 125) (kn (I 125) 53))), .int (pnI ((hpF (vH c (I 125)) S).map Prod.snd)), .int (pfI ((hpF (vH c (I 125)) S).map Prod.fst)), .int (nI S)] [] (p_mk Ls J L R X) (fun v h' => v = some (.int (pnI (rsV fi (hpF (vH c (I 125)) (alS c (I 125) (kn (I 125) 53) + 1))))) ∧ ∃ J', frE I J' ∧ h' = p_mk Ls J' L R X) := by
  obtain ⟨m1, m2⟩ := kn_53 hV
  have al2 : alS c (I 125) (kn (I 125) 53) < 2 ^ kn (I 125) 53 := bs_lt _ _
  have p2 : 2 ^ kn (I 125) 53 ≤ 2 ^ 8 := Nat.pow_le_pow_right (by omega) m2
  refine down_ind ?_ ?_
  · intro J hJ
    have fl := hpF_le (vH_le (c := c) hV) (alS c (I 125) (kn (I 125) 53) + 1)
    generalize alS c (I 125) (kn (I 125) 53) = A at *
    cases hF : hpF (vH c (I 125)) (A + 1) with
    | none =>
      show P_run (d + 49) 238 (p_bk 238 2) 0 0 [.ref 123, .int (nI (bN fi)), .int (nI A), .int (mI 1), .int (nI 1000000), .int (nI (A + 1))] [] (p_mk Ls J L R X) (fun v h' => v = some (.int (mI 1)) ∧ _)
      rw [P_run_eq, bk_238_2, pb_238_2]; simp -implicitDefEqProofs (disch := first | omega | decide) only [P_m, ↓P_run_eq _ 238 _ (p_bk 238 6), bk_238_6, pb_238_6, ↓P_run_eq _ 238 _ (p_bk 238 7), bk_238_7, pb_238_7, ↓P_run_eq _ 238 _ (p_bk 238 9), bk_238_9, pb_238_9, pw_iload_5, pw_iload_n2, pw_cgt, pw_iconst, il_m1, pw_ixor, pw_iand, pw_zne, pw_aload_n0, pw_aloadN_n0, pw_iv2, pw_goto, pw_iload_n3, pw_ceq, pw_iload_n1, il_1, pw_cne, pw_nop, pw_ret0, kd_123, rf_123_1, rf_123_2, rf_123_3, rf_123_4, rf_123_5, rf_123_7, rf_123_11, rf_123_12, rf_123_15, rf_123_16, rf_123_17, rf_123_26, rf_123_29, rf_123_30, rf_123_32, rf_123_34, rf_123_35, rf_123_45, n_0, n_1, nn_lt, nn_nlt, nn_le, nn_nle, nn_ne, nn_sub, nn_mul, nI_add, nn_neg, nm_eq, mn_eq, mm_eq, mn_lt, nm_lt, mn_le, nm_le, nn_sub0, nn_of, implies_true, nn_c, nn_in, nn_div, nat_rem, Nat.reduceMul, Nat.reduceSub, Nat.reduceDiv, Nat.reduceMod, pf_at, pf_ne, mk_s, mk_1, Classical.not_not, b2i_T, b2i_F, false_imp_iff, true_imp_iff, false_and, and_false, p_sw, Int.reduceAdd, Int.zero_add, Option.some.injEq, Value.int.injEq, Value.long.injEq, Value.ref.injEq, exists_eq_left', mk_I, mk_L, mk_wI, mk_wL, rf_s, rf_n, true_and, and_true, and_self, or_true, true_or, or_false, false_or, not_true_eq_false, not_false_eq_true, Option.toList_some, Option.toList_none, List.cons_append, List.nil_append, List.map_nil, List.map_cons, List.sum_nil, List.sum_cons, cat_i, cat_l, cat_r, cat_n, Nat.reduceLeDiff, Nat.reduceAdd, Nat.reduceEqDiff, Nat.zero_le, p_ent, p_u_ne, p_u_at, reduceIte, if_true, if_false]
      exact ⟨J, hJ, rfl⟩
    | some b =>
      obtain ⟨f1, f2⟩ := fl b hF
      cases fi with
      | false =>
        show P_run (d + 49) 238 (p_bk 238 2) 0 0 [.ref 123, .int (nI 0), .int (nI A), .int (nI b.2), .int (nI b.1), .int (nI (A + 1))] [] (p_mk Ls J L R X) (fun v h' => v = some (.int (nI b.1)) ∧ _)
        rw [P_run_eq, bk_238_2, pb_238_2]; simp -implicitDefEqProofs (disch := first | omega | decide) only [P_m, ↓P_run_eq _ 238 _ (p_bk 238 6), bk_238_6, pb_238_6, ↓P_run_eq _ 238 _ (p_bk 238 8), bk_238_8, pb_238_8, ↓P_run_eq _ 238 _ (p_bk 238 9), bk_238_9, pb_238_9, pw_iload_5, pw_iload_n2, pw_cgt, pw_iconst, il_m1, pw_ixor, pw_iand, pw_zne, pw_aload_n0, pw_aloadN_n0, pw_iv2, pw_goto, pw_iload_n3, pw_ceq, pw_iload_n1, il_1, pw_cne, pw_nop, pw_iload_4, pw_ret0, kd_123, rf_123_1, rf_123_2, rf_123_3, rf_123_4, rf_123_5, rf_123_7, rf_123_11, rf_123_12, rf_123_15, rf_123_16, rf_123_17, rf_123_26, rf_123_29, rf_123_30, rf_123_32, rf_123_34, rf_123_35, rf_123_45, n_0, n_1, nn_lt, nn_nlt, nn_le, nn_nle, nn_ne, nn_sub, nn_mul, nI_add, nn_neg, nm_eq, mn_eq, mm_eq, mn_lt, nm_lt, mn_le, nm_le, nn_sub0, nn_of, implies_true, nn_c, nn_in, nn_div, nat_rem, Nat.reduceMul, Nat.reduceSub, Nat.reduceDiv, Nat.reduceMod, pf_at, pf_ne, mk_s, mk_1, Classical.not_not, b2i_T, b2i_F, false_imp_iff, true_imp_iff, false_and, and_false, p_sw, Int.reduceAdd, Int.zero_add, Option.some.injEq, Value.int.injEq, Value.long.injEq, Value.ref.injEq, exists_eq_left', mk_I, mk_L, mk_wI, mk_wL, rf_s, rf_n, true_and, and_true, and_self, or_true, true_or, or_false, false_or, not_true_eq_false, not_false_eq_true, Option.toList_some, Option.toList_none, List.cons_append, List.nil_append, List.map_nil, List.map_cons, List.sum_nil, List.sum_cons, cat_i, cat_l, cat_r, cat_n, Nat.reduceLeDiff, Nat.reduceAdd, Nat.reduceEqDiff, Nat.zero_le, p_ent, p_u_ne, p_u_at, reduceIte, if_true, if_false]
        exact ⟨J, hJ, rfl⟩
      | true =>
        show P_run (d + 49) 238 (p_bk 238 2) 0 0 [.ref 123, .int (nI 1), .int (nI A), .int (nI b.2), .int (nI b.1), .int (nI (A + 1))] [] (p_mk Ls J L R X) (fun v h' => v = some (.int (nI b.2)) ∧ _)
        rw [P_run_eq, bk_238_2, pb_238_2]; simp -implicitDefEqProofs (disch := first | omega | decide) only [P_m, ↓P_run_eq _ 238 _ (p_bk 238 6), bk_238_6, pb_238_6, ↓P_run_eq _ 238 _ (p_bk 238 7), bk_238_7, pb_238_7, ↓P_run_eq _ 238 _ (p_bk 238 9), bk_238_9, pb_238_9, pw_iload_5, pw_iload_n2, pw_cgt, pw_iconst, il_m1, pw_ixor, pw_iand, pw_zne, pw_aload_n0, pw_aloadN_n0, pw_iv2, pw_goto, pw_iload_n3, pw_ceq, pw_iload_n1, il_1, pw_cne, pw_nop, pw_ret0, kd_123, rf_123_1, rf_123_2, rf_123_3, rf_123_4, rf_123_5, rf_123_7, rf_123_11, rf_123_12, rf_123_15, rf_123_16, rf_123_17, rf_123_26, rf_123_29, rf_123_30, rf_123_32, rf_123_34, rf_123_35, rf_123_45, n_0, n_1, nn_lt, nn_nlt, nn_le, nn_nle, nn_ne, nn_sub, nn_mul, nI_add, nn_neg, nm_eq, mn_eq, mm_eq, mn_lt, nm_lt, mn_le, nm_le, nn_sub0, nn_of, implies_true, nn_c, nn_in, nn_div, nat_rem, Nat.reduceMul, Nat.reduceSub, Nat.reduceDiv, Nat.reduceMod, pf_at, pf_ne, mk_s, mk_1, Classical.not_not, b2i_T, b2i_F, false_imp_iff, true_imp_iff, false_and, and_false, p_sw, Int.reduceAdd, Int.zero_add, Option.some.injEq, Value.int.injEq, Value.long.injEq, Value.ref.injEq, exists_eq_left', mk_I, mk_L, mk_wI, mk_wL, rf_s, rf_n, true_and, and_true, and_self, or_true, true_or, or_false, false_or, not_true_eq_false, not_false_eq_true, Option.toList_some, Option.toList_none, List.cons_append, List.nil_append, List.map_nil, List.map_cons, List.sum_nil, List.sum_cons, cat_i, cat_l, cat_r, cat_n, Nat.reduceLeDiff, Nat.reduceAdd, Nat.reduceEqDiff, Nat.zero_le, p_ent, p_u_ne, p_u_at, reduceIte, if_true, if_false]
        exact ⟨J, hJ, rfl⟩
  · intro S hS ih J hJ
    have e125 : J 125 = I 125 := hJ.1 125 (by omega) (by omega)
    have hs : S < 256 := by omega
    have e1 := dn_n (s := S) (g := alS c (I 125) (kn (I 125) 53)) hs (by omega)
    have e2 := dn_lt (g := alS c (I 125) (kn (I 125) 53)) hs
    have fl := hpF_le (vH_le (c := c) hV) S
    have es : hpF (vH c (I 125)) (S + 1) = (match vH c (I 125) S with
      | none => hpF (vH c (I 125)) S
      | some v => match hpF (vH c (I 125)) S with
        | none => some (v, S)
        | some b => if v < b.1 then some (v, S) else some b) := rfl
    by_cases hd : dn S (alS c (I 125) (kn (I 125) 53)) = 0
    · obtain ⟨f, hf, s6⟩ := pl_236 (d := d + 46) (Ls := Ls) (I := J) (L := L) (R := R) (X := X) (S := S) (by rw [e125]; exact hV) hs
      rw [e125] at hf
      rw [hd] at e1
      cases f with
      | false =>
        have hv := vH_no (c := c) (S := S) hV (by omega) (Or.inr (fun t => absurd (hf.mpr t) (by decide)))
        rw [hv] at es
        rw [es] at ih
        have nx := ih J hJ
        rw [bN_f] at s6
        generalize rsV fi (hpF (vH c (I 125)) (alS c (I 125) (kn (I 125) 53) + 1)) = Z at *
        generalize alS c (I 125) (kn (I 125) 53) = A at *
        generalize pnI ((hpF (vH c (I 125)) S).map Prod.snd) = P at *
        generalize pfI ((hpF (vH c (I 125)) S).map Prod.fst) = P2 at *
        rw [P_run_eq, bk_238_2, pb_238_2]; simp -implicitDefEqProofs (disch := first | omega | decide) only [P_m, ↓P_run_eq _ 238 _ (p_bk 238 5), bk_238_5, pb_238_5, pw_iload_5, pw_iload_n2, pw_cgt, pw_iconst, il_m1, pw_ixor, pw_iand, pw_zne, pw_aload_n0, pw_aloadN_n0, pw_iv2, pw_goto, pw_iinc_5, il_1, po_i5, po_r5, po_n5, po_u5, kd_123, rf_123_1, rf_123_2, rf_123_3, rf_123_4, rf_123_5, rf_123_7, rf_123_11, rf_123_12, rf_123_15, rf_123_16, rf_123_17, rf_123_26, rf_123_29, rf_123_30, rf_123_32, rf_123_34, rf_123_35, rf_123_45, n_0, n_1, nn_lt, nn_nlt, nn_le, nn_nle, nn_ne, nn_sub, nn_mul, nI_add, nn_neg, nm_eq, mn_eq, mm_eq, mn_lt, nm_lt, mn_le, nm_le, nn_sub0, nn_of, implies_true, nn_c, nn_in, nn_div, nat_rem, Nat.reduceMul, Nat.reduceSub, Nat.reduceDiv, Nat.reduceMod, pf_at, pf_ne, mk_s, mk_1, Classical.not_not, b2i_T, b2i_F, false_imp_iff, true_imp_iff, false_and, and_false, p_sw, Int.reduceAdd, Int.zero_add, Option.some.injEq, Value.int.injEq, Value.long.injEq, Value.ref.injEq, exists_eq_left', mk_I, mk_L, mk_wI, mk_wL, rf_s, rf_n, true_and, and_true, and_self, or_true, true_or, or_false, false_or, not_true_eq_false, not_false_eq_true, Option.toList_some, Option.toList_none, List.cons_append, List.nil_append, List.map_nil, List.map_cons, List.sum_nil, List.sum_cons, cat_i, cat_l, cat_r, cat_n, Nat.reduceLeDiff, Nat.reduceAdd, Nat.reduceEqDiff, Nat.zero_le, p_ent, p_u_ne, p_u_at, reduceIte, if_true, if_false, e1, P_ce s6]
        exact nx
      | true =>
        have hv := vH_yes (c := c) (S := S) hV (by omega) hd (hf.mp rfl)
        have vl := vH_le hV S _ hv
        rw [hv] at es
        rw [bN_t] at s6
        obtain ⟨J1, f1, s7⟩ := pl_237 (d := d) (Ls := Ls) (I := J) (L := L) (R := R) (X := X) (S := S) (c := c) (by rw [e125]; exact hV) (by rw [e125]; exact hc) hs
        rw [e125] at s7
        have nx := ih J1 (frE_tr hJ f1)
        generalize rsV fi (hpF (vH c (I 125)) (alS c (I 125) (kn (I 125) 53) + 1)) = Z at *
        generalize alS c (I 125) (kn (I 125) 53) = A at *
        generalize ysF (fun q => yv c (I 125) q (pc (kn (I 125) 0))) S (kn (I 125) 53) = v at *
        dsimp only at es
        cases hF : hpF (vH c (I 125)) S with
        | none =>
          rw [hF] at es
          rw [es] at nx
          replace nx : P_run (d + 49) 238 (p_bk 238 2) 0 0 [.ref 123, .int (nI (bN fi)), .int (nI A), .int (nI S), .int (nI v), .int (nI (S + 1))] [] (p_mk Ls J1 L R X) _ := nx
          show P_run (d + 49) 238 (p_bk 238 2) 0 0 [.ref 123, .int (nI (bN fi)), .int (nI A), .int (mI 1), .int (nI 1000000), .int (nI S)] [] (p_mk Ls J L R X) _
          rw [P_run_eq, bk_238_2, pb_238_2]; simp -implicitDefEqProofs (disch := first | omega | decide) only [P_m, ↓P_run_eq _ 238 _ (p_bk 238 3), bk_238_3, pb_238_3, ↓P_run_eq _ 238 _ (p_bk 238 4), bk_238_4, pb_238_4, ↓P_run_eq _ 238 _ (p_bk 238 5), bk_238_5, pb_238_5, pw_iload_5, pw_iload_n2, pw_cgt, pw_iconst, il_m1, pw_ixor, pw_iand, pw_zne, pw_aload_n0, pw_aloadN_n0, pw_iv2, pw_goto, pw_istore, ps_6, pe_6, po_i6, po_r6, po_n6, po_u6, pw_iload_6, pw_iload_4, pw_clt, ps_4, pe_4, po_i4, po_r4, po_n4, po_u4, pw_istore_n3, ps_3, pe_3, po_i3, po_r3, po_n3, po_u3, pw_nop, pw_iinc_5, il_1, po_i5, po_r5, po_n5, po_u5, kd_123, rf_123_1, rf_123_2, rf_123_3, rf_123_4, rf_123_5, rf_123_7, rf_123_11, rf_123_12, rf_123_15, rf_123_16, rf_123_17, rf_123_26, rf_123_29, rf_123_30, rf_123_32, rf_123_34, rf_123_35, rf_123_45, n_0, n_1, nn_lt, nn_nlt, nn_le, nn_nle, nn_ne, nn_sub, nn_mul, nI_add, nn_neg, nm_eq, mn_eq, mm_eq, mn_lt, nm_lt, mn_le, nm_le, nn_sub0, nn_of, implies_true, nn_c, nn_in, nn_div, nat_rem, Nat.reduceMul, Nat.reduceSub, Nat.reduceDiv, Nat.reduceMod, pf_at, pf_ne, mk_s, mk_1, Classical.not_not, b2i_T, b2i_F, false_imp_iff, true_imp_iff, false_and, and_false, p_sw, Int.reduceAdd, Int.zero_add, Option.some.injEq, Value.int.injEq, Value.long.injEq, Value.ref.injEq, exists_eq_left', mk_I, mk_L, mk_wI, mk_wL, rf_s, rf_n, true_and, and_true, and_self, or_true, true_or, or_false, false_or, not_true_eq_false, not_false_eq_true, Option.toList_some, Option.toList_none, List.cons_append, List.nil_append, List.map_nil, List.map_cons, List.sum_nil, List.sum_cons, cat_i, cat_l, cat_r, cat_n, Nat.reduceLeDiff, Nat.reduceAdd, Nat.reduceEqDiff, Nat.zero_le, p_ent, p_u_ne, p_u_at, reduceIte, if_true, if_false, e1, P_ce s6, P_ce s7]
          exact P_ls nx one_l
        | some b =>
          obtain ⟨b1, b2⟩ := fl b hF
          rw [hF] at es
          show P_run (d + 49) 238 (p_bk 238 2) 0 0 [.ref 123, .int (nI (bN fi)), .int (nI A), .int (nI b.2), .int (nI b.1), .int (nI S)] [] (p_mk Ls J L R X) _
          by_cases lt : v < b.1
          · dsimp only at es
            rw [if_pos lt] at es
            rw [es] at nx
            replace nx : P_run (d + 49) 238 (p_bk 238 2) 0 0 [.ref 123, .int (nI (bN fi)), .int (nI A), .int (nI S), .int (nI v), .int (nI (S + 1))] [] (p_mk Ls J1 L R X) _ := nx
            rw [P_run_eq, bk_238_2, pb_238_2]; simp -implicitDefEqProofs (disch := first | omega | decide) only [P_m, ↓P_run_eq _ 238 _ (p_bk 238 3), bk_238_3, pb_238_3, ↓P_run_eq _ 238 _ (p_bk 238 4), bk_238_4, pb_238_4, ↓P_run_eq _ 238 _ (p_bk 238 5), bk_238_5, pb_238_5, pw_iload_5, pw_iload_n2, pw_cgt, pw_iconst, il_m1, pw_ixor, pw_iand, pw_zne, pw_aload_n0, pw_aloadN_n0, pw_iv2, pw_goto, pw_istore, ps_6, pe_6, po_i6, po_r6, po_n6, po_u6, pw_iload_6, pw_iload_4, pw_clt, ps_4, pe_4, po_i4, po_r4, po_n4, po_u4, pw_istore_n3, ps_3, pe_3, po_i3, po_r3, po_n3, po_u3, pw_nop, pw_iinc_5, il_1, po_i5, po_r5, po_n5, po_u5, kd_123, rf_123_1, rf_123_2, rf_123_3, rf_123_4, rf_123_5, rf_123_7, rf_123_11, rf_123_12, rf_123_15, rf_123_16, rf_123_17, rf_123_26, rf_123_29, rf_123_30, rf_123_32, rf_123_34, rf_123_35, rf_123_45, n_0, n_1, nn_lt, nn_nlt, nn_le, nn_nle, nn_ne, nn_sub, nn_mul, nI_add, nn_neg, nm_eq, mn_eq, mm_eq, mn_lt, nm_lt, mn_le, nm_le, nn_sub0, nn_of, implies_true, nn_c, nn_in, nn_div, nat_rem, Nat.reduceMul, Nat.reduceSub, Nat.reduceDiv, Nat.reduceMod, pf_at, pf_ne, mk_s, mk_1, Classical.not_not, b2i_T, b2i_F, false_imp_iff, true_imp_iff, false_and, and_false, p_sw, Int.reduceAdd, Int.zero_add, Option.some.injEq, Value.int.injEq, Value.long.injEq, Value.ref.injEq, exists_eq_left', mk_I, mk_L, mk_wI, mk_wL, rf_s, rf_n, true_and, and_true, and_self, or_true, true_or, or_false, false_or, not_true_eq_false, not_false_eq_true, Option.toList_some, Option.toList_none, List.cons_append, List.nil_append, List.map_nil, List.map_cons, List.sum_nil, List.sum_cons, cat_i, cat_l, cat_r, cat_n, Nat.reduceLeDiff, Nat.reduceAdd, Nat.reduceEqDiff, Nat.zero_le, p_ent, p_u_ne, p_u_at, reduceIte, if_true, if_false, e1, P_ce s6, P_ce s7]
            exact P_ls nx one_l
          · dsimp only at es
            rw [if_neg lt] at es
            rw [es] at nx
            replace nx : P_run (d + 49) 238 (p_bk 238 2) 0 0 [.ref 123, .int (nI (bN fi)), .int (nI A), .int (nI b.2), .int (nI b.1), .int (nI (S + 1))] [] (p_mk Ls J1 L R X) _ := nx
            rw [P_run_eq, bk_238_2, pb_238_2]; simp -implicitDefEqProofs (disch := first | omega | decide) only [P_m, ↓P_run_eq _ 238 _ (p_bk 238 3), bk_238_3, pb_238_3, ↓P_run_eq _ 238 _ (p_bk 238 5), bk_238_5, pb_238_5, pw_iload_5, pw_iload_n2, pw_cgt, pw_iconst, il_m1, pw_ixor, pw_iand, pw_zne, pw_aload_n0, pw_aloadN_n0, pw_iv2, pw_goto, pw_istore, ps_6, pe_6, po_i6, po_r6, po_n6, po_u6, pw_iload_6, pw_iload_4, pw_clt, pw_iinc_5, il_1, po_i5, po_r5, po_n5, po_u5, kd_123, rf_123_1, rf_123_2, rf_123_3, rf_123_4, rf_123_5, rf_123_7, rf_123_11, rf_123_12, rf_123_15, rf_123_16, rf_123_17, rf_123_26, rf_123_29, rf_123_30, rf_123_32, rf_123_34, rf_123_35, rf_123_45, n_0, n_1, nn_lt, nn_nlt, nn_le, nn_nle, nn_ne, nn_sub, nn_mul, nI_add, nn_neg, nm_eq, mn_eq, mm_eq, mn_lt, nm_lt, mn_le, nm_le, nn_sub0, nn_of, implies_true, nn_c, nn_in, nn_div, nat_rem, Nat.reduceMul, Nat.reduceSub, Nat.reduceDiv, Nat.reduceMod, pf_at, pf_ne, mk_s, mk_1, Classical.not_not, b2i_T, b2i_F, false_imp_iff, true_imp_iff, false_and, and_false, p_sw, Int.reduceAdd, Int.zero_add, Option.some.injEq, Value.int.injEq, Value.long.injEq, Value.ref.injEq, exists_eq_left', mk_I, mk_L, mk_wI, mk_wL, rf_s, rf_n, true_and, and_true, and_self, or_true, true_or, or_false, false_or, not_true_eq_false, not_false_eq_true, Option.toList_some, Option.toList_none, List.cons_append, List.nil_append, List.map_nil, List.map_cons, List.sum_nil, List.sum_cons, cat_i, cat_l, cat_r, cat_n, Nat.reduceLeDiff, Nat.reduceAdd, Nat.reduceEqDiff, Nat.zero_le, p_ent, p_u_ne, p_u_at, reduceIte, if_true, if_false, e1, P_ce s6, P_ce s7]
            exact P_ls nx one_l
    · have hv := vH_no (c := c) (S := S) hV (by omega) (Or.inl hd)
      rw [hv] at es
      rw [es] at ih
      have nx := ih J hJ
      generalize dn S (alS c (I 125) (kn (I 125) 53)) = D at *
      generalize rsV fi (hpF (vH c (I 125)) (alS c (I 125) (kn (I 125) 53) + 1)) = Z at *
      generalize alS c (I 125) (kn (I 125) 53) = A at *
      generalize pnI ((hpF (vH c (I 125)) S).map Prod.snd) = P at *
      generalize pfI ((hpF (vH c (I 125)) S).map Prod.fst) = P2 at *
      rw [P_run_eq, bk_238_2, pb_238_2]; simp -implicitDefEqProofs (disch := first | omega | decide) only [P_m, ↓P_run_eq _ 238 _ (p_bk 238 5), bk_238_5, pb_238_5, pw_iload_5, pw_iload_n2, pw_cgt, pw_iconst, il_m1, pw_ixor, pw_iand, pw_zne, pw_aload_n0, pw_aloadN_n0, pw_iv2, pw_goto, pw_iinc_5, il_1, po_i5, po_r5, po_n5, po_u5, kd_123, rf_123_1, rf_123_2, rf_123_3, rf_123_4, rf_123_5, rf_123_7, rf_123_11, rf_123_12, rf_123_15, rf_123_16, rf_123_17, rf_123_26, rf_123_29, rf_123_30, rf_123_32, rf_123_34, rf_123_35, rf_123_45, n_0, n_1, nn_lt, nn_nlt, nn_le, nn_nle, nn_ne, nn_sub, nn_mul, nI_add, nn_neg, nm_eq, mn_eq, mm_eq, mn_lt, nm_lt, mn_le, nm_le, nn_sub0, nn_of, implies_true, nn_c, nn_in, nn_div, nat_rem, Nat.reduceMul, Nat.reduceSub, Nat.reduceDiv, Nat.reduceMod, pf_at, pf_ne, mk_s, mk_1, Classical.not_not, b2i_T, b2i_F, false_imp_iff, true_imp_iff, false_and, and_false, p_sw, Int.reduceAdd, Int.zero_add, Option.some.injEq, Value.int.injEq, Value.long.injEq, Value.ref.injEq, exists_eq_left', mk_I, mk_L, mk_wI, mk_wL, rf_s, rf_n, true_and, and_true, and_self, or_true, true_or, or_false, false_or, not_true_eq_false, not_false_eq_true, Option.toList_some, Option.toList_none, List.cons_append, List.nil_append, List.map_nil, List.map_cons, List.sum_nil, List.sum_cons, cat_i, cat_l, cat_r, cat_n, Nat.reduceLeDiff, Nat.reduceAdd, Nat.reduceEqDiff, Nat.zero_le, p_ent, p_u_ne, p_u_at, reduceIte, if_true, if_false, e1]
      exact nx
theorem Inv_G {J : Nat → Nat → Int32} {r : Option Nat} (H : Inv I R X) (h : frG I J) : Inv J (layR R r) X := by
  refine Inv_R (Inv_sc H (fun a ha => ?_) (fun k _ => by rw [h 32 (by omega) (by omega) (by omega) (by omega) (by omega)]) (fun k _ => by rw [h 123 (by omega) (by omega) (by omega) (by omega) (by omega)])) (fun a ha => layR_ne (by omega))
  unfold kcell at ha
  exact h a (by omega) (by omega) (by omega) (by omega) (by omega)
theorem q_heap (x : Int32) (H : Inv I R X) : Same (d + 60) 104 238 [.int x] Ls (p_mk Ls I L R X) := by
  obtain ⟨c, hx⟩ := Inv_cx (Ls := Ls) H
  have hV := hx.2.2.1
  have sx := sp_125 (d := d + 59) (h := p_mk Ls I L R X) x (nI 0) (nI 1)
  by_cases hi : nI 0 ≤ x ∧ x ≤ nI 1
  · obtain ⟨fi, rfl⟩ := in01 hi
    obtain ⟨J, fJ, fb, s1⟩ := pl_41 (d := d + 55) (L := L) hx
    have H1 := Inv_G (r := fRef R 71 (I 125)) H fJ
    have e125 : J 125 = I 125 := fJ 125 (by omega) (by omega) (by omega) (by omega) (by omega)
    generalize layR R (fRef R 71 (I 125)) = RR at *
    have fl := hpF_le (vH_le (c := c) hV) (2 ^ kn (I 125) 53)
    have cl : P_m (d + 60) 104 [.ref 32, .int (nI (bN fi))] (p_mk Ls I L R X) (fun v h' => v = some (.int (pnI (rsV fi (hpF (vH c (I 125)) (2 ^ kn (I 125) 53))))) ∧ h' = p_mk Ls J L RR X) := by
      cases hF : hpF (vH c (I 125)) (2 ^ kn (I 125) 53) with
      | none =>
        rw [hF] at s1
        replace s1 : P_m (d + 59) 41 [.ref 48, .ref 71] (p_mk Ls I L R X) (fun v h' => v = some (.int (nI 0)) ∧ h' = p_mk Ls J L RR X) := s1
        show P_m _ _ _ _ (fun v h' => v = some (.int (mI 1)) ∧ _)
        cases fi with
        | false =>
          rw [bN_f]
          simp -implicitDefEqProofs (disch := first | omega | decide) only [P_m, ↓P_run_eq _ 104 _ (p_bk 104 0), bk_104_0, pb_104_0, ↓P_run_eq _ 104 _ (p_bk 104 1), bk_104_1, pb_104_1, pw_iload_n1, pw_zlt, pw_iconst, il_1, pw_cgt, pw_aload_n0, pw_aloadN_n0, pw_getR, pw_iv2, pw_zne, pw_nop, il_m1, pw_ret0, kd_32, rf_32_0, rf_32_1, rf_32_2, rf_32_3, rf_32_4, rf_32_5, rf_32_6, rf_32_7, rf_32_8, rf_32_9, rf_32_11, rf_32_12, rf_32_13, kd_48, rf_48_0, rf_48_6, rf_48_7, rf_48_8, rf_48_9, rf_48_10, rf_48_12, rf_48_13, rf_48_14, rf_48_15, rf_48_1, rf_48_2, kd_71, rf_71_1, rf_71_3, rf_71_4, rf_71_5, rf_71_6, rf_71_11, rf_71_12, rf_71_14, n_0, n_1, nn_lt, nn_nlt, nn_le, nn_nle, nn_ne, nn_sub, nn_mul, nI_add, nn_neg, nm_eq, mn_eq, mm_eq, mn_lt, nm_lt, mn_le, nm_le, nn_sub0, nn_of, implies_true, nn_c, nn_in, nn_div, nat_rem, Nat.reduceMul, Nat.reduceSub, Nat.reduceDiv, Nat.reduceMod, pf_at, pf_ne, mk_s, mk_1, Classical.not_not, b2i_T, b2i_F, false_imp_iff, true_imp_iff, false_and, and_false, p_sw, Int.reduceAdd, Int.zero_add, Option.some.injEq, Value.int.injEq, Value.long.injEq, Value.ref.injEq, exists_eq_left', mk_I, mk_L, mk_wI, mk_wL, rf_s, rf_n, true_and, and_true, and_self, or_true, true_or, or_false, false_or, not_true_eq_false, not_false_eq_true, Option.toList_some, Option.toList_none, List.cons_append, List.nil_append, List.map_nil, List.map_cons, List.sum_nil, List.sum_cons, cat_i, cat_l, cat_r, cat_n, Nat.reduceLeDiff, Nat.reduceAdd, Nat.reduceEqDiff, Nat.zero_le, p_ent, p_u_ne, p_u_at, reduceIte, if_true, if_false, P_ce s1]
        | true =>
          rw [bN_t]
          simp -implicitDefEqProofs (disch := first | omega | decide) only [P_m, ↓P_run_eq _ 104 _ (p_bk 104 0), bk_104_0, pb_104_0, ↓P_run_eq _ 104 _ (p_bk 104 1), bk_104_1, pb_104_1, pw_iload_n1, pw_zlt, pw_iconst, il_1, pw_cgt, pw_aload_n0, pw_aloadN_n0, pw_getR, pw_iv2, pw_zne, pw_nop, il_m1, pw_ret0, kd_32, rf_32_0, rf_32_1, rf_32_2, rf_32_3, rf_32_4, rf_32_5, rf_32_6, rf_32_7, rf_32_8, rf_32_9, rf_32_11, rf_32_12, rf_32_13, kd_48, rf_48_0, rf_48_6, rf_48_7, rf_48_8, rf_48_9, rf_48_10, rf_48_12, rf_48_13, rf_48_14, rf_48_15, rf_48_1, rf_48_2, kd_71, rf_71_1, rf_71_3, rf_71_4, rf_71_5, rf_71_6, rf_71_11, rf_71_12, rf_71_14, n_0, n_1, nn_lt, nn_nlt, nn_le, nn_nle, nn_ne, nn_sub, nn_mul, nI_add, nn_neg, nm_eq, mn_eq, mm_eq, mn_lt, nm_lt, mn_le, nm_le, nn_sub0, nn_of, implies_true, nn_c, nn_in, nn_div, nat_rem, Nat.reduceMul, Nat.reduceSub, Nat.reduceDiv, Nat.reduceMod, pf_at, pf_ne, mk_s, mk_1, Classical.not_not, b2i_T, b2i_F, false_imp_iff, true_imp_iff, false_and, and_false, p_sw, Int.reduceAdd, Int.zero_add, Option.some.injEq, Value.int.injEq, Value.long.injEq, Value.ref.injEq, exists_eq_left', mk_I, mk_L, mk_wI, mk_wL, rf_s, rf_n, true_and, and_true, and_self, or_true, true_or, or_false, false_or, not_true_eq_false, not_false_eq_true, Option.toList_some, Option.toList_none, List.cons_append, List.nil_append, List.map_nil, List.map_cons, List.sum_nil, List.sum_cons, cat_i, cat_l, cat_r, cat_n, Nat.reduceLeDiff, Nat.reduceAdd, Nat.reduceEqDiff, Nat.zero_le, p_ent, p_u_ne, p_u_at, reduceIte, if_true, if_false, P_ce s1]
      | some b =>
        obtain ⟨f3, f5⟩ := fb b hF
        rw [hF] at s1
        replace s1 : P_m (d + 59) 41 [.ref 48, .ref 71] (p_mk Ls I L R X) (fun v h' => v = some (.int (nI 1)) ∧ h' = p_mk Ls J L RR X) := s1
        cases fi with
        | false =>
          show P_m _ _ _ _ (fun v h' => v = some (.int (nI b.1)) ∧ _)
          rw [bN_f]
          simp -implicitDefEqProofs (disch := first | omega | decide) only [P_m, ↓P_run_eq _ 104 _ (p_bk 104 0), bk_104_0, pb_104_0, ↓P_run_eq _ 104 _ (p_bk 104 2), bk_104_2, pb_104_2, ↓P_run_eq _ 104 _ (p_bk 104 4), bk_104_4, pb_104_4, pw_iload_n1, pw_zlt, pw_iconst, il_1, pw_cgt, pw_aload_n0, pw_aloadN_n0, pw_getR, pw_iv2, pw_zne, pw_nop, pw_getI, pw_goto, pw_ret0, kd_32, rf_32_0, rf_32_1, rf_32_2, rf_32_3, rf_32_4, rf_32_5, rf_32_6, rf_32_7, rf_32_8, rf_32_9, rf_32_11, rf_32_12, rf_32_13, kd_48, rf_48_0, rf_48_6, rf_48_7, rf_48_8, rf_48_9, rf_48_10, rf_48_12, rf_48_13, rf_48_14, rf_48_15, rf_48_1, rf_48_2, kd_71, rf_71_1, rf_71_3, rf_71_4, rf_71_5, rf_71_6, rf_71_11, rf_71_12, rf_71_14, n_0, n_1, nn_lt, nn_nlt, nn_le, nn_nle, nn_ne, nn_sub, nn_mul, nI_add, nn_neg, nm_eq, mn_eq, mm_eq, mn_lt, nm_lt, mn_le, nm_le, nn_sub0, nn_of, implies_true, nn_c, nn_in, nn_div, nat_rem, Nat.reduceMul, Nat.reduceSub, Nat.reduceDiv, Nat.reduceMod, pf_at, pf_ne, mk_s, mk_1, Classical.not_not, b2i_T, b2i_F, false_imp_iff, true_imp_iff, false_and, and_false, p_sw, Int.reduceAdd, Int.zero_add, Option.some.injEq, Value.int.injEq, Value.long.injEq, Value.ref.injEq, exists_eq_left', mk_I, mk_L, mk_wI, mk_wL, rf_s, rf_n, true_and, and_true, and_self, or_true, true_or, or_false, false_or, not_true_eq_false, not_false_eq_true, Option.toList_some, Option.toList_none, List.cons_append, List.nil_append, List.map_nil, List.map_cons, List.sum_nil, List.sum_cons, cat_i, cat_l, cat_r, cat_n, Nat.reduceLeDiff, Nat.reduceAdd, Nat.reduceEqDiff, Nat.zero_le, p_ent, p_u_ne, p_u_at, reduceIte, if_true, if_false, f3, P_ce s1]
        | true =>
          show P_m _ _ _ _ (fun v h' => v = some (.int (nI b.2)) ∧ _)
          rw [bN_t]
          simp -implicitDefEqProofs (disch := first | omega | decide) only [P_m, ↓P_run_eq _ 104 _ (p_bk 104 0), bk_104_0, pb_104_0, ↓P_run_eq _ 104 _ (p_bk 104 2), bk_104_2, pb_104_2, ↓P_run_eq _ 104 _ (p_bk 104 3), bk_104_3, pb_104_3, ↓P_run_eq _ 104 _ (p_bk 104 4), bk_104_4, pb_104_4, pw_iload_n1, pw_zlt, pw_iconst, il_1, pw_cgt, pw_aload_n0, pw_aloadN_n0, pw_getR, pw_iv2, pw_zne, pw_nop, pw_getI, pw_goto, pw_ret0, kd_32, rf_32_0, rf_32_1, rf_32_2, rf_32_3, rf_32_4, rf_32_5, rf_32_6, rf_32_7, rf_32_8, rf_32_9, rf_32_11, rf_32_12, rf_32_13, kd_48, rf_48_0, rf_48_6, rf_48_7, rf_48_8, rf_48_9, rf_48_10, rf_48_12, rf_48_13, rf_48_14, rf_48_15, rf_48_1, rf_48_2, kd_71, rf_71_1, rf_71_3, rf_71_4, rf_71_5, rf_71_6, rf_71_11, rf_71_12, rf_71_14, n_0, n_1, nn_lt, nn_nlt, nn_le, nn_nle, nn_ne, nn_sub, nn_mul, nI_add, nn_neg, nm_eq, mn_eq, mm_eq, mn_lt, nm_lt, mn_le, nm_le, nn_sub0, nn_of, implies_true, nn_c, nn_in, nn_div, nat_rem, Nat.reduceMul, Nat.reduceSub, Nat.reduceDiv, Nat.reduceMod, pf_at, pf_ne, mk_s, mk_1, Classical.not_not, b2i_T, b2i_F, false_imp_iff, true_imp_iff, false_and, and_false, p_sw, Int.reduceAdd, Int.zero_add, Option.some.injEq, Value.int.injEq, Value.long.injEq, Value.ref.injEq, exists_eq_left', mk_I, mk_L, mk_wI, mk_wL, rf_s, rf_n, true_and, and_true, and_self, or_true, true_or, or_false, false_or, not_true_eq_false, not_false_eq_true, Option.toList_some, Option.toList_none, List.cons_append, List.nil_append, List.map_nil, List.map_cons, List.sum_nil, List.sum_cons, cat_i, cat_l, cat_r, cat_n, Nat.reduceLeDiff, Nat.reduceAdd, Nat.reduceEqDiff, Nat.zero_le, p_ent, p_u_ne, p_u_at, reduceIte, if_true, if_false, f5, P_ce s1]
    unfold Same
    refine p_run_Q cl ?_
    rintro _ _ ⟨rfl, rfl⟩
    refine ⟨_, rfl, ?_⟩
    have sx := sp_125 (d := d + 59) (h := p_mk Ls J L RR X) (nI (bN fi)) (nI 0) (nI 1)
    rw [show b2i (nI 0 ≤ nI (bN fi) ∧ nI (bN fi) ≤ nI 1) = nI 1 from b2i_t hi] at sx
    obtain ⟨J1, f1, s5⟩ := pl_235 (d := d + 11) (Ls := Ls) (I := J) (L := L) (R := RR) (X := X) (c := c) (by rw [e125]; exact hV) (by rw [e125]; exact hx.2.2.2.1)
    have e1 : J1 125 = I 125 := (f1.1 125 (by omega) (by omega)).trans e125
    have lp := lp_238 (d := d + 11) (Ls := Ls) (I := J1) (L := L) (R := RR) (X := X) (c := c) (fi := fi) (by rw [e1]; exact hV) (by rw [e1]; exact hx.2.2.2.1) 0 (by omega) J1 frE_rf
    rw [e1] at lp
    rw [e125] at s5
    rw [← hpF_al hV] at lp
    have fin := p_run_Q (Q2 := fun v2 h2 => v2 = some (.int (pnI (rsV fi (hpF (vH c (I 125)) (2 ^ kn (I 125) 53))))) ∧ InvH Ls h2) lp (by
      rintro _ _ ⟨rfl, J', f', rfl⟩
      exact ⟨rfl, _, _, _, _, rfl, Inv_E (Inv_E H1 f1) f'⟩)
    replace fin : P_run (d + 11 + 49) 238 (p_bk 238 2) 0 0 [.ref 123, .int (nI (bN fi)), .int (nI (alS c (I 125) (kn (I 125) 53))), .int (mI 1), .int (nI 1000000), .int (nI 0)] [] (p_mk Ls J1 L RR X) _ := fin
    generalize pnI (rsV fi (hpF (vH c (I 125)) (2 ^ kn (I 125) 53))) = V at *
    generalize alS c (I 125) (kn (I 125) 53) = A at *
    simp -implicitDefEqProofs (disch := first | omega | decide) only [P_m, ↓P_run_eq _ 238 _ (p_bk 238 0), bk_238_0, pb_238_0, ↓P_run_eq _ 238 _ (p_bk 238 1), bk_238_1, pb_238_1, pw_iload_n1, pw_iconst, il_0, il_1, pw_is3, pw_zne, il_m1, pw_ret0, pw_aload_n0, pw_aloadN_n0, pw_iv1, pw_istore_n2, ps_2, pe_2, po_i2, po_r2, po_n2, po_u2, pw_istore_n3, ps_3, pe_3, po_i3, po_r3, po_n3, po_u3, pw_ldc, cn_6, pw_istore, ps_4, pe_4, po_i4, po_r4, po_n4, po_u4, ps_5, pe_5, po_i5, po_r5, po_n5, po_u5, pw_nop, kd_123, rf_123_1, rf_123_2, rf_123_3, rf_123_4, rf_123_5, rf_123_7, rf_123_11, rf_123_12, rf_123_15, rf_123_16, rf_123_17, rf_123_26, rf_123_29, rf_123_30, rf_123_32, rf_123_34, rf_123_35, rf_123_45, n_0, n_1, nn_lt, nn_nlt, nn_le, nn_nle, nn_ne, nn_sub, nn_mul, nI_add, nn_neg, nm_eq, mn_eq, mm_eq, mn_lt, nm_lt, mn_le, nm_le, nn_sub0, nn_of, implies_true, nn_c, nn_in, nn_div, nat_rem, Nat.reduceMul, Nat.reduceSub, Nat.reduceDiv, Nat.reduceMod, pf_at, pf_ne, mk_s, mk_1, Classical.not_not, b2i_T, b2i_F, false_imp_iff, true_imp_iff, false_and, and_false, p_sw, Int.reduceAdd, Int.zero_add, Option.some.injEq, Value.int.injEq, Value.long.injEq, Value.ref.injEq, exists_eq_left', mk_I, mk_L, mk_wI, mk_wL, rf_s, rf_n, true_and, and_true, and_self, or_true, true_or, or_false, false_or, not_true_eq_false, not_false_eq_true, Option.toList_some, Option.toList_none, List.cons_append, List.nil_append, List.map_nil, List.map_cons, List.sum_nil, List.sum_cons, cat_i, cat_l, cat_r, cat_n, Nat.reduceLeDiff, Nat.reduceAdd, Nat.reduceEqDiff, Nat.zero_le, p_ent, p_u_ne, p_u_at, reduceIte, if_true, if_false, n_1000000, P_ce sx, P_ce s5]
    exact fin
  · rw [show b2i (nI 0 ≤ x ∧ x ≤ nI 1) = nI 0 from b2i_f hi] at sx
    by_cases x0 : x < nI 0
    · simp -implicitDefEqProofs (disch := first | omega | decide) only [P_m, ↓P_run_eq _ 104 _ (p_bk 104 0), bk_104_0, pb_104_0, ↓P_run_eq _ 104 _ (p_bk 104 1), bk_104_1, pb_104_1, ↓P_run_eq _ 238 _ (p_bk 238 0), bk_238_0, pb_238_0, pw_iload_n1, pw_zlt, pw_iconst, il_1, pw_cgt, pw_aload_n0, pw_aloadN_n0, pw_getR, pw_iv2, pw_zne, pw_nop, il_m1, pw_ret0, il_0, pw_is3, kd_32, rf_32_0, rf_32_1, rf_32_2, rf_32_3, rf_32_4, rf_32_5, rf_32_6, rf_32_7, rf_32_8, rf_32_9, rf_32_11, rf_32_12, rf_32_13, kd_123, rf_123_1, rf_123_2, rf_123_3, rf_123_4, rf_123_5, rf_123_7, rf_123_11, rf_123_12, rf_123_15, rf_123_16, rf_123_17, rf_123_26, rf_123_29, rf_123_30, rf_123_32, rf_123_34, rf_123_35, rf_123_45, n_0, n_1, nn_lt, nn_nlt, nn_le, nn_nle, nn_ne, nn_sub, nn_mul, nI_add, nn_neg, nm_eq, mn_eq, mm_eq, mn_lt, nm_lt, mn_le, nm_le, nn_sub0, nn_of, implies_true, nn_c, nn_in, nn_div, nat_rem, Nat.reduceMul, Nat.reduceSub, Nat.reduceDiv, Nat.reduceMod, pf_at, pf_ne, mk_s, mk_1, Classical.not_not, b2i_T, b2i_F, false_imp_iff, true_imp_iff, false_and, and_false, p_sw, Int.reduceAdd, Int.zero_add, Option.some.injEq, Value.int.injEq, Value.long.injEq, Value.ref.injEq, exists_eq_left', mk_I, mk_L, mk_wI, mk_wL, rf_s, rf_n, true_and, and_true, and_self, or_true, true_or, or_false, false_or, not_true_eq_false, not_false_eq_true, Option.toList_some, Option.toList_none, List.cons_append, List.nil_append, List.map_nil, List.map_cons, List.sum_nil, List.sum_cons, cat_i, cat_l, cat_r, cat_n, Nat.reduceLeDiff, Nat.reduceAdd, Nat.reduceEqDiff, Nat.zero_le, p_ent, p_u_ne, p_u_at, reduceIte, if_true, if_false, Same, x0, P_ce sx]
      exact ⟨_, _, _, _, rfl, H⟩
    · have x1 : nI 1 < x := Int32.not_le.mp (fun h => hi ⟨Int32.not_lt.mp x0, h⟩)
      simp -implicitDefEqProofs (disch := first | omega | decide) only [P_m, ↓P_run_eq _ 104 _ (p_bk 104 0), bk_104_0, pb_104_0, ↓P_run_eq _ 104 _ (p_bk 104 1), bk_104_1, pb_104_1, ↓P_run_eq _ 238 _ (p_bk 238 0), bk_238_0, pb_238_0, pw_iload_n1, pw_zlt, pw_iconst, il_1, pw_cgt, pw_aload_n0, pw_aloadN_n0, pw_getR, pw_iv2, pw_zne, pw_nop, il_m1, pw_ret0, il_0, pw_is3, kd_32, rf_32_0, rf_32_1, rf_32_2, rf_32_3, rf_32_4, rf_32_5, rf_32_6, rf_32_7, rf_32_8, rf_32_9, rf_32_11, rf_32_12, rf_32_13, kd_123, rf_123_1, rf_123_2, rf_123_3, rf_123_4, rf_123_5, rf_123_7, rf_123_11, rf_123_12, rf_123_15, rf_123_16, rf_123_17, rf_123_26, rf_123_29, rf_123_30, rf_123_32, rf_123_34, rf_123_35, rf_123_45, n_0, n_1, nn_lt, nn_nlt, nn_le, nn_nle, nn_ne, nn_sub, nn_mul, nI_add, nn_neg, nm_eq, mn_eq, mm_eq, mn_lt, nm_lt, mn_le, nm_le, nn_sub0, nn_of, implies_true, nn_c, nn_in, nn_div, nat_rem, Nat.reduceMul, Nat.reduceSub, Nat.reduceDiv, Nat.reduceMod, pf_at, pf_ne, mk_s, mk_1, Classical.not_not, b2i_T, b2i_F, false_imp_iff, true_imp_iff, false_and, and_false, p_sw, Int.reduceAdd, Int.zero_add, Option.some.injEq, Value.int.injEq, Value.long.injEq, Value.ref.injEq, exists_eq_left', mk_I, mk_L, mk_wI, mk_wL, rf_s, rf_n, true_and, and_true, and_self, or_true, true_or, or_false, false_or, not_true_eq_false, not_false_eq_true, Option.toList_some, Option.toList_none, List.cons_append, List.nil_append, List.map_nil, List.map_cons, List.sum_nil, List.sum_cons, cat_i, cat_l, cat_r, cat_n, Nat.reduceLeDiff, Nat.reduceAdd, Nat.reduceEqDiff, Nat.zero_le, p_ent, p_u_ne, p_u_at, reduceIte, if_true, if_false, Same, x0, x1, P_ce sx]
      exact ⟨_, _, _, _, rfl, H⟩
end HX
