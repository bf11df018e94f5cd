section SW
variable {o : Bool} {B : Nat → Nat} {T Ls N : Nat} {L : Nat → Nat → Int64} {R : Nat → Nat → Option Nat} {X : List pKd}
theorem lp_64 {k0 x d : Nat} {D0 : tCd} {I : Nat → Nat → Int32} {r : Except Nat (Nat × Nat × tDS × tCd)} (hN : ∀ k, N ≤ k → tC B T k = 0) (h4 : N ≤ 400) (d8 : d ≤ 8) (H : rdB o B T I R) (hP : ∀ k, k0 ≤ k → k ≤ N → okPart o B T Ls L R X k) : ∀ M k, N - k ≤ M → k0 ≤ k → k ≤ N → ∀ a f3 cs3 m f2 cs2 f l n J, (a = 0 ∨ a = 5 ∨ a = 6) → (m = 0 ∨ m = 7 ∨ m = 8 ∨ m = 9) → 2 * n ≤ k → frS I J → rdS B T J k l (D0 ++ (pa a cs3 ++ pa m cs2)) → (D0 ++ (pa a cs3 ++ pa m cs2)).length + (if a = 0 then 0 else 1) + (if m = 0 then 0 else 1) ≤ k → LPr o (tC B T) (tV B T) a f3 cs3 m f2 cs2 f d k l = some r → P_run (x + 2 * (8 - d) + 11) 64 (p_bk 64 1) 0 0 [.ref 35, .int (nI d), .int (pz a), .int (pz m), .int (nI n)] [] (p_mk Ls J L R X) (fun v h' => v = some (.int (nI (ocV r))) ∧ ∃ J', (frS I J' ∧ ocS B T J' D0 r) ∧ h' = p_mk Ls J' L R X) := by
  intro M
  induction M with
  | zero =>
    intro k hM hk0 hkN a f3 cs3 m f2 cs2 f l n J ha hm hn fJ hS hD hr
    have kN : k = N := by omega
    have c0 := hN k (by omega)
    obtain ⟨q, hq⟩ := RS_t (o := o) (V := tV B T) (md := 0) (d := d) (l := l) (f := f) (cs := []) hN h4 hkN (by omega)
    obtain ⟨J1, ⟨f1, o1⟩, s65⟩ := hP k hk0 hkN x d l f _ J q d8 (rdB_fr H fJ) hS hq
    unfold LPr at hr
    rw [hq] at hr
    match q, hq, o1, s65, hr with
    | .error e, hq, o1, s65, hr =>
      cases hr
      show P_run _ _ _ _ _ _ _ _ (fun v h' => v = some (.int (nI 0)) ∧ _)
      replace s65 : P_m (x + 2 * (8 - d) + 10) 65 [.ref 35, .int (nI d)] (p_mk Ls J L R X) (fun v h' => v = some (.int (nI 0)) ∧ h' = p_mk Ls J1 L R X) := s65
      clear hS hD
      generalize pz a = A at *
      generalize pz m = Mm at *
      rw [P_run_eq, bk_64_1, pb_64_1]; simp -implicitDefEqProofs (disch := first | omega | decide) only [P_m, pw_iload_4, pw_sipush, sl_400, pw_cge, pw_aload_n0, pw_aloadN_n0, pw_iload_n1, pw_iv2, pw_zne, pw_iconst, il_0, pw_ret1, kd_35, rf_35_0, rf_35_1, n_0, n_1, n_400, nn_lt, nn_nlt, nn_le, nn_nle, nn_ne, nn_sub, nn_mul, nI_add, nn_neg, nm_eq, mn_eq, mm_eq, mn_lt, nm_lt, mn_le, nm_le, nn_sub0, nn_of, implies_true, nn_c, nn_in, nn_div, nat_rem, Nat.reduceMul, Nat.reduceSub, Nat.reduceDiv, Nat.reduceMod, pf_at, pf_ne, mk_s, mk_1, Classical.not_not, b2i_T, b2i_F, false_imp_iff, true_imp_iff, false_and, and_false, p_sw, Int.reduceAdd, Int.zero_add, Option.some.injEq, Value.int.injEq, Value.long.injEq, Value.ref.injEq, exists_eq_left', mk_I, mk_L, mk_wI, mk_wL, rf_s, rf_n, true_and, and_true, and_self, or_true, true_or, or_false, false_or, not_true_eq_false, not_false_eq_true, Option.toList_some, Option.toList_none, List.cons_append, List.nil_append, List.map_nil, List.map_cons, List.sum_nil, List.sum_cons, cat_i, cat_l, cat_r, cat_n, Nat.reduceLeDiff, Nat.reduceAdd, Nat.reduceEqDiff, Nat.zero_le, p_ent, p_u_ne, p_u_at, reduceIte, if_true, if_false, P_ce s65]
      exact ⟨J1, ⟨frS_tr fJ f1, o1⟩, rfl⟩
    | .ok q, hq, o1, s65, hr =>
      have pr := RS_pr hN hq hkN
      have := pr.2.1 (by omega)
      omega
  | succ M ih =>
    intro k hM hk0 hkN a f3 cs3 m f2 cs2 f l n J ha hm hn fJ hS hD hr
    obtain ⟨q, hq⟩ := RS_t (o := o) (V := tV B T) (md := 0) (d := d) (l := l) (f := f) (cs := []) hN h4 hkN (by omega)
    obtain ⟨J1, ⟨f1, o1⟩, s65⟩ := hP k hk0 hkN x d l f _ J q d8 (rdB_fr H fJ) hS hq
    unfold LPr at hr
    rw [hq] at hr
    match q, hq, o1, s65, hr with
    | .error e, hq, o1, s65, hr =>
      cases hr
      show P_run _ _ _ _ _ _ _ _ (fun v h' => v = some (.int (nI 0)) ∧ _)
      replace s65 : P_m (x + 2 * (8 - d) + 10) 65 [.ref 35, .int (nI d)] (p_mk Ls J L R X) (fun v h' => v = some (.int (nI 0)) ∧ h' = p_mk Ls J1 L R X) := s65
      clear hS hD ih
      generalize pz a = A at *
      generalize pz m = Mm at *
      rw [P_run_eq, bk_64_1, pb_64_1]; simp -implicitDefEqProofs (disch := first | omega | decide) only [P_m, pw_iload_4, pw_sipush, sl_400, pw_cge, pw_aload_n0, pw_aloadN_n0, pw_iload_n1, pw_iv2, pw_zne, pw_iconst, il_0, pw_ret1, kd_35, rf_35_0, rf_35_1, n_0, n_1, n_400, nn_lt, nn_nlt, nn_le, nn_nle, nn_ne, nn_sub, nn_mul, nI_add, nn_neg, nm_eq, mn_eq, mm_eq, mn_lt, nm_lt, mn_le, nm_le, nn_sub0, nn_of, implies_true, nn_c, nn_in, nn_div, nat_rem, Nat.reduceMul, Nat.reduceSub, Nat.reduceDiv, Nat.reduceMod, pf_at, pf_ne, mk_s, mk_1, Classical.not_not, b2i_T, b2i_F, false_imp_iff, true_imp_iff, false_and, and_false, p_sw, Int.reduceAdd, Int.zero_add, Option.some.injEq, Value.int.injEq, Value.long.injEq, Value.ref.injEq, exists_eq_left', mk_I, mk_L, mk_wI, mk_wL, rf_s, rf_n, true_and, and_true, and_self, or_true, true_or, or_false, false_or, not_true_eq_false, not_false_eq_true, Option.toList_some, Option.toList_none, List.cons_append, List.nil_append, List.map_nil, List.map_cons, List.sum_nil, List.sum_cons, cat_i, cat_l, cat_r, cat_n, Nat.reduceLeDiff, Nat.reduceAdd, Nat.reduceEqDiff, Nat.zero_le, p_ent, p_u_ne, p_u_at, reduceIte, if_true, if_false, P_ce s65]
      exact ⟨J1, ⟨frS_tr fJ f1, o1⟩, rfl⟩
    | .ok q, hq, o1, s65, hr =>
      have o1 : rdS B T J1 q.1 q.2.1 (D0 ++ (pa a cs3 ++ pa m cs2) ++ q.2.2.2) := o1
      replace s65 : P_m (x + 2 * (8 - d) + 10) 65 [.ref 35, .int (nI d)] (p_mk Ls J L R X) (fun v h' => v = some (.int (nI 1)) ∧ h' = p_mk Ls J1 L R X) := s65
      obtain ⟨q1, q2, -⟩ := RS_pr hN hq hkN
      obtain ⟨q3, q4⟩ := q2 (by omega)
      rw [bnd_ok] at hr
      -- behind the part and its sign
      have tail : ∀ (J2 : Nat → Nat → Int32) (f2' : tDS) (cs2' : tCd), frS I J2 → rdS B T J2 q.1 q.2.1 (D0 ++ (pa a cs3 ++ cs2')) → (D0 ++ (pa a cs3 ++ cs2')).length + (if a = 0 then 0 else 1) ≤ q.1 → bnd (RS o (tC B T) (tV B T) 2 d q.1 q.2.1 f2' cs2') (fun r => K3 o (tC B T) (tV B T) a f3 cs3 d r) = some r → P_run (x + 2 * (8 - d) + 10 + 1) 64 (p_bk 64 3) 0 0 [.ref 35, .int (nI d), .int (pz a), .int (pz m), .int (nI n)] [] (p_mk Ls J2 L R X) (fun v h' => v = some (.int (nI (ocV r))) ∧ ∃ J', (frS I J' ∧ ocS B T J' D0 r) ∧ h' = p_mk Ls J' L R X) := by
        intro J2 f2' cs2' fJ2 hS2 hD2 hr2
        have H2 := rdB_fr H fJ2
        have cl : tC B T q.1 < 356 := by
          have := tC_le (B := B) (T := T) (i := q.1) (fun j hj => (H2.2.1.2.2.2 j hj).2)
          omega
        obtain ⟨mm, -, -, -, -, aa, -⟩ := mul_c _ cl
        refine bl_mul H2.2.1 hS2.1 ?_
        rw [RS_2 hN h4] at hr2
        have s72 := pl_step (d := x + 2 * (8 - d) + 10) (Ls := Ls) (L := L) (X := X) H2.2.1 hS2.1
        by_cases m0 : mulOp (tC B T q.1) = 0
        · rw [if_pos m0, bnd_ok] at hr2
          rw [m0, pz_0]
          -- behind the term
          have tail2 : ∀ (J3 : Nat → Nat → Int32) (f3' : tDS) (cs3' : tCd), frS I J3 → rdS B T J3 q.1 q.2.1 (D0 ++ cs3') → RS o (tC B T) (tV B T) 3 d q.1 q.2.1 f3' cs3' = some r → P_run (x + 2 * (8 - d) + 10 + 1) 64 (p_bk 64 8) 0 0 [.ref 35, .int (nI d), .int (pz a), .int (pz 0), .int (nI n)] [] (p_mk Ls J3 L R X) (fun v h' => v = some (.int (nI (ocV r))) ∧ ∃ J', (frS I J' ∧ ocS B T J' D0 r) ∧ h' = p_mk Ls J' L R X) := by
            intro J3 f3' cs3' fJ3 hS3 hr3
            have H3 := rdB_fr H fJ3
            refine bl_add H3.2.1 hS3.1 ?_
            rw [RS_3 hN h4] at hr3
            have s72 := pl_step (d := x + 2 * (8 - d) + 10) (Ls := Ls) (L := L) (X := X) H3.2.1 hS3.1
            by_cases a0 : addOp (tC B T q.1) = 0
            · rw [if_pos a0] at hr3
              cases hr3
              rw [a0, pz_0]
              show P_run _ _ _ _ _ _ _ _ (fun v h' => v = some (.int (nI 1)) ∧ _)
              clear ih hS2 hD2 hr hr2
              generalize pz a = A at *
              rw [P_run_eq, bk_64_11, pb_64_11]; simp -implicitDefEqProofs (disch := first | omega | decide) only [P_m, pw_istore_n2, ps_2, pe_2, po_i2, po_r2, po_n2, po_u2, pw_iload_n2, pw_iconst, il_m1, pw_cne, il_1, pw_ret1, kd_35, rf_35_0, rf_35_1, n_0, n_1, nn_lt, nn_nlt, nn_le, nn_nle, nn_ne, nn_sub, nn_mul, nI_add, nn_neg, nm_eq, mn_eq, mm_eq, mn_lt, nm_lt, mn_le, nm_le, nn_sub0, nn_of, implies_true, nn_c, nn_in, nn_div, nat_rem, Nat.reduceMul, Nat.reduceSub, Nat.reduceDiv, Nat.reduceMod, pf_at, pf_ne, mk_s, mk_1, Classical.not_not, b2i_T, b2i_F, false_imp_iff, true_imp_iff, false_and, and_false, p_sw, Int.reduceAdd, Int.zero_add, Option.some.injEq, Value.int.injEq, Value.long.injEq, Value.ref.injEq, exists_eq_left', mk_I, mk_L, mk_wI, mk_wL, rf_s, rf_n, true_and, and_true, and_self, or_true, true_or, or_false, false_or, not_true_eq_false, not_false_eq_true, Option.toList_some, Option.toList_none, List.cons_append, List.nil_append, List.map_nil, List.map_cons, List.sum_nil, List.sum_cons, cat_i, cat_l, cat_r, cat_n, Nat.reduceLeDiff, Nat.reduceAdd, Nat.reduceEqDiff, Nat.zero_le, p_ent, p_u_ne, p_u_at, reduceIte, if_true, if_false]
              exact ⟨J3, ⟨fJ3, hS3⟩, rfl⟩
            · rw [if_neg a0] at hr3
              have qN := kN_of hN (show ¬ tC B T q.1 = 0 from fun h => a0 (by rw [h]; rfl))
              have ex : D0 ++ cs3' = D0 ++ (pa (addOp (tC B T q.1)) cs3' ++ pa 0 []) := by unfold pa; rw [if_neg a0, if_pos rfl, List.append_nil]
              have hS4 := rdS_stp hS3
              have lb := hS3.2.2.2.2.1
              rw [ex] at hS4 lb
              have nx := ih (q.1 + 1) (by omega) (by omega) (by omega) (addOp (tC B T q.1)) f3' cs3' 0 f3' [] f3' q.2.1 (n + 1) (stp B T J3 (q.1 + 1)) aa (Or.inl rfl) (by omega) (frS_tr fJ3 frS_stp) hS4 (by rw [if_neg a0, if_pos rfl]; omega) (by
                unfold LPr K2 K3
                simp only [if_neg a0, if_pos]
                exact hr3)
              rw [pz_0] at nx ⊢
              rw [pz_n a0] at nx ⊢
              clear ih hS2 hD2 hr hr2 hS4 hS3
              generalize stp B T J3 (q.1 + 1) = J4 at *
              generalize pz a = A at *
              generalize addOp (tC B T q.1) = aO at *
              have ab : aO < 10 := by omega
              rw [P_run_eq, bk_64_11, pb_64_11]; simp -implicitDefEqProofs (disch := first | omega | decide) only [P_m, ↓P_run_eq _ 64 _ (p_bk 64 12), bk_64_12, pb_64_12, pw_istore_n2, ps_2, pe_2, po_i2, po_r2, po_n2, po_u2, pw_iload_n2, pw_iconst, il_m1, pw_cne, il_1, pw_ret1, pw_aload_n0, pw_aloadN_n0, pw_iv1, pw_iinc_4, po_i4, po_r4, po_n4, po_u4, pw_goto, kd_35, rf_35_0, rf_35_1, n_0, n_1, nn_lt, nn_nlt, nn_le, nn_nle, nn_ne, nn_sub, nn_mul, nI_add, nn_neg, nm_eq, mn_eq, mm_eq, mn_lt, nm_lt, mn_le, nm_le, nn_sub0, nn_of, implies_true, nn_c, nn_in, nn_div, nat_rem, Nat.reduceMul, Nat.reduceSub, Nat.reduceDiv, Nat.reduceMod, pf_at, pf_ne, mk_s, mk_1, Classical.not_not, b2i_T, b2i_F, false_imp_iff, true_imp_iff, false_and, and_false, p_sw, Int.reduceAdd, Int.zero_add, Option.some.injEq, Value.int.injEq, Value.long.injEq, Value.ref.injEq, exists_eq_left', mk_I, mk_L, mk_wI, mk_wL, rf_s, rf_n, true_and, and_true, and_self, or_true, true_or, or_false, false_or, not_true_eq_false, not_false_eq_true, Option.toList_some, Option.toList_none, List.cons_append, List.nil_append, List.map_nil, List.map_cons, List.sum_nil, List.sum_cons, cat_i, cat_l, cat_r, cat_n, Nat.reduceLeDiff, Nat.reduceAdd, Nat.reduceEqDiff, Nat.zero_le, p_ent, p_u_ne, p_u_at, reduceIte, if_true, if_false, P_ce s72]
              exact nx
          have Dl : (D0 ++ (pa a cs3 ++ cs2')).length ≤ q.1 := hS2.2.2.2.2.1
          rcases Nat.eq_zero_or_pos a with a0 | a0
          · subst a0
            have ex : D0 ++ (pa 0 cs3 ++ cs2') = D0 ++ cs2' := by unfold pa; rw [if_pos rfl, List.nil_append]
            rw [ex] at hS2
            unfold K3 at hr2
            rw [if_pos rfl] at hr2
            have nx := tail2 J2 f2' cs2' fJ2 hS2 hr2
            rw [pz_0] at nx ⊢
            clear ih hS2 hD2 hr hr2 tail2
            generalize pz m = Mm at *
            rw [P_run_eq, bk_64_7, pb_64_7]; simp -implicitDefEqProofs (disch := first | omega | decide) only [P_m, pw_istore_n3, ps_3, pe_3, po_i3, po_r3, po_n3, po_u3, pw_iload_n3, pw_iconst, il_m1, pw_cne, pw_iload_n2, pw_ceq, pw_aload_n0, pw_aloadN_n0, pw_getR, il_0, pw_iv3, pw_popi, pw_popr, pw_nop, kd_35, rf_35_0, rf_35_1, n_0, n_1, nn_lt, nn_nlt, nn_le, nn_nle, nn_ne, nn_sub, nn_mul, nI_add, nn_neg, nm_eq, mn_eq, mm_eq, mn_lt, nm_lt, mn_le, nm_le, nn_sub0, nn_of, implies_true, nn_c, nn_in, nn_div, nat_rem, Nat.reduceMul, Nat.reduceSub, Nat.reduceDiv, Nat.reduceMod, pf_at, pf_ne, mk_s, mk_1, Classical.not_not, b2i_T, b2i_F, false_imp_iff, true_imp_iff, false_and, and_false, p_sw, Int.reduceAdd, Int.zero_add, Option.some.injEq, Value.int.injEq, Value.long.injEq, Value.ref.injEq, exists_eq_left', mk_I, mk_L, mk_wI, mk_wL, rf_s, rf_n, true_and, and_true, and_self, or_true, true_or, or_false, false_or, not_true_eq_false, not_false_eq_true, Option.toList_some, Option.toList_none, List.cons_append, List.nil_append, List.map_nil, List.map_cons, List.sum_nil, List.sum_cons, cat_i, cat_l, cat_r, cat_n, Nat.reduceLeDiff, Nat.reduceAdd, Nat.reduceEqDiff, Nat.zero_le, p_ent, p_u_ne, p_u_at, reduceIte, if_true, if_false]
            exact nx
          · have a0' : ¬ a = 0 := by omega
            unfold K3 at hr2
            rw [if_neg a0'] at hr2
            rw [if_neg a0'] at hD2
            have e400 : (D0 ++ (pa a cs3 ++ cs2')).length < 400 := by omega
            have s77 := pl_77 (d := x + 2 * (8 - d) + 10) (Ls := Ls) (L := L) (R := R) (X := X) (o := a) (v := 0) e400 hS2.2.2.2.1
            have hS3 := rdS_em (op := a) (v := 0) hS2 (by omega)
            have ex : D0 ++ (pa a cs3 ++ cs2') ++ [(a, 0)] = D0 ++ (cs3 ++ (cs2' ++ [(a, 0)])) := by unfold pa; rw [if_neg a0']; simp only [List.append_assoc]
            rw [ex] at hS3
            have nx := tail2 _ _ _ (frS_tr fJ2 frS_em) hS3 hr2
            rw [pz_0] at nx
            rw [pz_n a0'] at nx ⊢
            clear ih hS2 hD2 hr hr2 tail2 hS3
            generalize emW J2 (D0 ++ (pa a cs3 ++ cs2')).length a 0 = J3 at *
            generalize (D0 ++ (pa a cs3 ++ cs2')).length = dl at *
            generalize pz m = Mm at *
            have ab : a < 10 := by omega
            rw [P_run_eq, bk_64_7, pb_64_7]; simp -implicitDefEqProofs (disch := first | omega | decide) only [P_m, pw_istore_n3, ps_3, pe_3, po_i3, po_r3, po_n3, po_u3, pw_iload_n3, pw_iconst, il_m1, pw_cne, pw_iload_n2, pw_ceq, pw_aload_n0, pw_aloadN_n0, pw_getR, il_0, pw_iv3, pw_popi, pw_popr, pw_nop, kd_35, rf_35_0, rf_35_1, kd_36, rf_36_1, rf_36_2, rf_36_3, rf_36_4, rf_36_5, rf_36_7, rf_36_8, n_0, n_1, nn_lt, nn_nlt, nn_le, nn_nle, nn_ne, nn_sub, nn_mul, nI_add, nn_neg, nm_eq, mn_eq, mm_eq, mn_lt, nm_lt, mn_le, nm_le, nn_sub0, nn_of, implies_true, nn_c, nn_in, nn_div, nat_rem, Nat.reduceMul, Nat.reduceSub, Nat.reduceDiv, Nat.reduceMod, pf_at, pf_ne, mk_s, mk_1, Classical.not_not, b2i_T, b2i_F, false_imp_iff, true_imp_iff, false_and, and_false, p_sw, Int.reduceAdd, Int.zero_add, Option.some.injEq, Value.int.injEq, Value.long.injEq, Value.ref.injEq, exists_eq_left', mk_I, mk_L, mk_wI, mk_wL, rf_s, rf_n, true_and, and_true, and_self, or_true, true_or, or_false, false_or, not_true_eq_false, not_false_eq_true, Option.toList_some, Option.toList_none, List.cons_append, List.nil_append, List.map_nil, List.map_cons, List.sum_nil, List.sum_cons, cat_i, cat_l, cat_r, cat_n, Nat.reduceLeDiff, Nat.reduceAdd, Nat.reduceEqDiff, Nat.zero_le, p_ent, p_u_ne, p_u_at, reduceIte, if_true, if_false, P_ce s77]
            exact nx
        · rw [if_neg m0, bnd_as] at hr2
          have qN := kN_of hN (show ¬ tC B T q.1 = 0 from fun h => m0 (by rw [h]; rfl))
          have ex : D0 ++ (pa a cs3 ++ cs2') = D0 ++ (pa a cs3 ++ pa (mulOp (tC B T q.1)) cs2') := by unfold pa; rw [if_neg m0]
          have hS4 := rdS_stp hS2
          rw [ex] at hS4 hD2
          have nx := ih (q.1 + 1) (by omega) (by omega) (by omega) a f3 cs3 (mulOp (tC B T q.1)) f2' cs2' f2' q.2.1 (n + 1) (stp B T J2 (q.1 + 1)) ha mm (by omega) (frS_tr fJ2 frS_stp) hS4 (by rw [if_neg m0]; omega) (by
            unfold LPr K2
            simp only [if_neg m0]
            exact hr2)
          rw [pz_n m0] at nx ⊢
          clear ih hS2 hD2 hr hr2 hS4
          generalize stp B T J2 (q.1 + 1) = J4 at *
          generalize pz a = A at *
          generalize pz m = Mm at *
          generalize mulOp (tC B T q.1) = mO at *
          have ab : mO < 10 := by omega
          rw [P_run_eq, bk_64_7, pb_64_7]; simp -implicitDefEqProofs (disch := first | omega | decide) only [P_m, ↓P_run_eq _ 64 _ (p_bk 64 12), bk_64_12, pb_64_12, pw_istore_n3, ps_3, pe_3, po_i3, po_r3, po_n3, po_u3, pw_iload_n3, pw_iconst, il_m1, pw_cne, pw_iload_n2, pw_ceq, pw_aload_n0, pw_aloadN_n0, pw_getR, il_0, pw_iv3, pw_popi, pw_popr, pw_nop, pw_iv1, pw_iinc_4, il_1, po_i4, po_r4, po_n4, po_u4, pw_goto, kd_35, rf_35_0, rf_35_1, n_0, n_1, nn_lt, nn_nlt, nn_le, nn_nle, nn_ne, nn_sub, nn_mul, nI_add, nn_neg, nm_eq, mn_eq, mm_eq, mn_lt, nm_lt, mn_le, nm_le, nn_sub0, nn_of, implies_true, nn_c, nn_in, nn_div, nat_rem, Nat.reduceMul, Nat.reduceSub, Nat.reduceDiv, Nat.reduceMod, pf_at, pf_ne, mk_s, mk_1, Classical.not_not, b2i_T, b2i_F, false_imp_iff, true_imp_iff, false_and, and_false, p_sw, Int.reduceAdd, Int.zero_add, Option.some.injEq, Value.int.injEq, Value.long.injEq, Value.ref.injEq, exists_eq_left', mk_I, mk_L, mk_wI, mk_wL, rf_s, rf_n, true_and, and_true, and_self, or_true, true_or, or_false, false_or, not_true_eq_false, not_false_eq_true, Option.toList_some, Option.toList_none, List.cons_append, List.nil_append, List.map_nil, List.map_cons, List.sum_nil, List.sum_cons, cat_i, cat_l, cat_r, cat_n, Nat.reduceLeDiff, Nat.reduceAdd, Nat.reduceEqDiff, Nat.zero_le, p_ent, p_u_ne, p_u_at, reduceIte, if_true, if_false, P_ce s72]
          exact nx
      have n400 : n < 400 := by omega
      rcases Nat.eq_zero_or_pos m with m0 | m0
      · subst m0
        have ex : D0 ++ (pa a cs3 ++ pa 0 cs2) ++ q.2.2.2 = D0 ++ (pa a cs3 ++ q.2.2.2) := by unfold pa; rw [if_pos rfl, List.append_nil, List.append_assoc]
        have ex0 : (D0 ++ (pa a cs3 ++ pa 0 cs2)).length = (D0 ++ pa a cs3).length := by unfold pa; rw [if_pos rfl, List.append_nil]
        rw [ex] at o1
        unfold K2 at hr
        rw [if_pos rfl] at hr
        have nx := tail J1 q.2.2.1 q.2.2.2 (frS_tr fJ f1) o1 (by
          rw [if_pos rfl, ex0] at hD
          rw [← List.append_assoc, List.length_append]
          omega) hr
        rw [pz_0] at nx ⊢
        clear ih hS hD hr tail o1
        generalize pz a = A at *
        rw [P_run_eq, bk_64_1, pb_64_1]; simp -implicitDefEqProofs (disch := first | omega | decide) only [P_m, ↓P_run_eq _ 64 _ (p_bk 64 2), bk_64_2, pb_64_2, pw_iload_4, pw_sipush, sl_400, pw_cge, pw_aload_n0, pw_aloadN_n0, pw_iload_n1, pw_iv2, pw_zne, pw_iconst, il_0, pw_ret1, pw_iload_n3, il_m1, pw_ceq, pw_getR, pw_iv3, pw_popi, pw_popr, pw_nop, kd_35, rf_35_0, rf_35_1, n_0, n_1, n_400, nn_lt, nn_nlt, nn_le, nn_nle, nn_ne, nn_sub, nn_mul, nI_add, nn_neg, nm_eq, mn_eq, mm_eq, mn_lt, nm_lt, mn_le, nm_le, nn_sub0, nn_of, implies_true, nn_c, nn_in, nn_div, nat_rem, Nat.reduceMul, Nat.reduceSub, Nat.reduceDiv, Nat.reduceMod, pf_at, pf_ne, mk_s, mk_1, Classical.not_not, b2i_T, b2i_F, false_imp_iff, true_imp_iff, false_and, and_false, p_sw, Int.reduceAdd, Int.zero_add, Option.some.injEq, Value.int.injEq, Value.long.injEq, Value.ref.injEq, exists_eq_left', mk_I, mk_L, mk_wI, mk_wL, rf_s, rf_n, true_and, and_true, and_self, or_true, true_or, or_false, false_or, not_true_eq_false, not_false_eq_true, Option.toList_some, Option.toList_none, List.cons_append, List.nil_append, List.map_nil, List.map_cons, List.sum_nil, List.sum_cons, cat_i, cat_l, cat_r, cat_n, Nat.reduceLeDiff, Nat.reduceAdd, Nat.reduceEqDiff, Nat.zero_le, p_ent, p_u_ne, p_u_at, reduceIte, if_true, if_false, P_ce s65]
        exact nx
      · have m0' : ¬ m = 0 := by omega
        unfold K2 at hr
        rw [if_neg m0'] at hr
        rw [if_neg m0'] at hD
        have ll : (D0 ++ (pa a cs3 ++ pa m cs2) ++ q.2.2.2).length = (D0 ++ (pa a cs3 ++ pa m cs2)).length + q.2.2.2.length := List.length_append
        have s77 := pl_77 (d := x + 2 * (8 - d) + 10) (Ls := Ls) (L := L) (R := R) (X := X) (o := m) (v := 0) (n := (D0 ++ (pa a cs3 ++ pa m cs2) ++ q.2.2.2).length) (by omega) o1.2.2.2.1
        have hS3 := rdS_em (op := m) (v := 0) o1 (by omega)
        have ex : D0 ++ (pa a cs3 ++ pa m cs2) ++ q.2.2.2 ++ [(m, 0)] = D0 ++ (pa a cs3 ++ (cs2 ++ (q.2.2.2 ++ [(m, 0)]))) := by
          have : pa m cs2 = cs2 := by unfold pa; rw [if_neg m0']
          rw [this]
          simp only [List.append_assoc]
        have exl : (D0 ++ (pa a cs3 ++ (cs2 ++ (q.2.2.2 ++ [(m, 0)])))).length = (D0 ++ (pa a cs3 ++ pa m cs2) ++ q.2.2.2).length + 1 := by rw [← ex, List.length_append]; rfl
        rw [ex] at hS3
        have nx := tail _ _ _ (frS_tr fJ (frS_tr f1 frS_em)) hS3 (by omega) hr
        rw [pz_n m0'] at nx ⊢
        clear ih hS hD hr tail o1 hS3
        generalize emW J1 (D0 ++ (pa a cs3 ++ pa m cs2) ++ q.2.2.2).length m 0 = J3 at *
        generalize (D0 ++ (pa a cs3 ++ pa m cs2) ++ q.2.2.2).length = dl at *
        generalize pz a = A at *
        have ab : m < 10 := by omega
        rw [P_run_eq, bk_64_1, pb_64_1]; simp -implicitDefEqProofs (disch := first | omega | decide) only [P_m, ↓P_run_eq _ 64 _ (p_bk 64 2), bk_64_2, pb_64_2, pw_iload_4, pw_sipush, sl_400, pw_cge, pw_aload_n0, pw_aloadN_n0, pw_iload_n1, pw_iv2, pw_zne, pw_iconst, il_0, pw_ret1, pw_iload_n3, il_m1, pw_ceq, pw_getR, pw_iv3, pw_popi, pw_popr, pw_nop, kd_35, rf_35_0, rf_35_1, kd_36, rf_36_1, rf_36_2, rf_36_3, rf_36_4, rf_36_5, rf_36_7, rf_36_8, n_0, n_1, n_400, nn_lt, nn_nlt, nn_le, nn_nle, nn_ne, nn_sub, nn_mul, nI_add, nn_neg, nm_eq, mn_eq, mm_eq, mn_lt, nm_lt, mn_le, nm_le, nn_sub0, nn_of, implies_true, nn_c, nn_in, nn_div, nat_rem, Nat.reduceMul, Nat.reduceSub, Nat.reduceDiv, Nat.reduceMod, pf_at, pf_ne, mk_s, mk_1, Classical.not_not, b2i_T, b2i_F, false_imp_iff, true_imp_iff, false_and, and_false, p_sw, Int.reduceAdd, Int.zero_add, Option.some.injEq, Value.int.injEq, Value.long.injEq, Value.ref.injEq, exists_eq_left', mk_I, mk_L, mk_wI, mk_wL, rf_s, rf_n, true_and, and_true, and_self, or_true, true_or, or_false, false_or, not_true_eq_false, not_false_eq_true, Option.toList_some, Option.toList_none, List.cons_append, List.nil_append, List.map_nil, List.map_cons, List.sum_nil, List.sum_cons, cat_i, cat_l, cat_r, cat_n, Nat.reduceLeDiff, Nat.reduceAdd, Nat.reduceEqDiff, Nat.zero_le, p_ent, p_u_ne, p_u_at, reduceIte, if_true, if_false, P_ce s65, P_ce s77]
        exact nx
theorem sum_s {k0 : Nat} (hN : ∀ k, N ≤ k → tC B T k = 0) (h4 : N ≤ 400) (hk : k0 ≤ N) (hP : ∀ k, k0 ≤ k → k ≤ N → okPart o B T Ls L R X k) : okSum o B T Ls L R X k0 := by
  intro x d l f cs D I r d8 H hS hR
  rw [RS_1 hN h4 hk] at hR
  have ex : D = D ++ (pa 0 [] ++ pa 0 []) := by unfold pa; rw [if_pos rfl, List.append_nil, List.append_nil]
  have hS' := hS
  rw [ex] at hS'
  have st := lp_64 (x := x) (D0 := D) (I := I) (r := r) hN h4 d8 H hP (N - k0) k0 (Nat.le_refl _) (Nat.le_refl _) hk 0 f [] 0 f [] f l 0 I (Or.inl rfl) (Or.inl rfl) (by omega) frS_rf hS' (by rw [← ex, if_pos rfl]; exact hS.2.2.2.2.1) hR
  rw [pz_0] at st
  have all : P_m (x + 2 * (8 - d) + 11) 64 [.ref 35, .int (nI d)] (p_mk Ls I L R X) (fun v h' => v = some (.int (nI (ocV r))) ∧ ∃ J', (frS I J' ∧ ocS B T J' D r) ∧ h' = p_mk Ls J' L R X) := by
    clear hS hS'
    generalize nI (ocV r) = VV at *
    simp -implicitDefEqProofs (disch := first | omega | decide) only [P_m, ↓P_run_eq _ 64 _ (p_bk 64 0), bk_64_0, pb_64_0, pw_iconst, il_m1, pw_istore_n2, ps_2, pe_2, po_i2, po_r2, po_n2, po_u2, pw_istore_n3, ps_3, pe_3, po_i3, po_r3, po_n3, po_u3, il_0, pw_istore, ps_4, pe_4, po_i4, po_r4, po_n4, po_u4, pw_nop, kd_35, rf_35_0, rf_35_1, n_0, n_1, nn_lt, nn_nlt, nn_le, nn_nle, nn_ne, nn_sub, nn_mul, nI_add, nn_neg, nm_eq, mn_eq, mm_eq, mn_lt, nm_lt, mn_le, nm_le, nn_sub0, nn_of, implies_true, nn_c, nn_in, nn_div, nat_rem, Nat.reduceMul, Nat.reduceSub, Nat.reduceDiv, Nat.reduceMod, pf_at, pf_ne, mk_s, mk_1, Classical.not_not, b2i_T, b2i_F, false_imp_iff, true_imp_iff, false_and, and_false, p_sw, Int.reduceAdd, Int.zero_add, Option.some.injEq, Value.int.injEq, Value.long.injEq, Value.ref.injEq, exists_eq_left', mk_I, mk_L, mk_wI, mk_wL, rf_s, rf_n, true_and, and_true, and_self, or_true, true_or, or_false, false_or, not_true_eq_false, not_false_eq_true, Option.toList_some, Option.toList_none, List.cons_append, List.nil_append, List.map_nil, List.map_cons, List.sum_nil, List.sum_cons, cat_i, cat_l, cat_r, cat_n, Nat.reduceLeDiff, Nat.reduceAdd, Nat.reduceEqDiff, Nat.zero_le, p_ent, p_u_ne, p_u_at, reduceIte, if_true, if_false]
    exact st
  obtain ⟨v, g, ⟨rfl, J', f1, rfl⟩, s⟩ := P_mex all
  exact ⟨J', f1, s⟩
/-- the class reads every part and every sum as the language says -/
theorem sums_c (hN : ∀ k, N ≤ k → tC B T k = 0) (h4 : N ≤ 400) : ∀ k, k ≤ N → okSum o B T Ls L R X k := by
  have main : ∀ M k, k ≤ N → N - k ≤ M → okPart o B T Ls L R X k ∧ okSum o B T Ls L R X k := by
    intro M
    induction M with
    | zero =>
      intro k hk hM
      have hp : okPart o B T Ls L R X k := part_s hN h4 (fun h => absurd h (by omega))
      refine ⟨hp, sum_s hN h4 hk (fun k' h1 h2 => ?_)⟩
      have : k' = k := by omega
      subst this; exact hp
    | succ M ih =>
      intro k hk hM
      have hp : okPart o B T Ls L R X k := part_s hN h4 (fun h => (ih (k + 1) (by omega) (by omega)).2)
      refine ⟨hp, sum_s hN h4 hk (fun k' h1 h2 => ?_)⟩
      by_cases e : k' = k
      · subst e; exact hp
      · exact (ih k' h2 (by omega)).1
  exact fun k hk => (main (N - k) k hk (Nat.le_refl _)).2
end SW
