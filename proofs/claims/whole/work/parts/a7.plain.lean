section PL
variable {o : Bool} {B : Nat → Nat} {T Ls N : Nat} {L : Nat → Nat → Int64} {R : Nat → Nat → Option Nat} {X : List pKd}
theorem pln_w : (∀ c, pln (12 + 6) c = if c = 7 then some 0 else none) ∧ (∀ c, pln (12 + 7) c = if c = 6 then some 0 else none) ∧ (∀ c, pln (12 + 8) c = if c = 5 then some 0 else none) ∧ (∀ c, pln (12 + 5) c = if c = 4 then some 0 else none) ∧ ∀ c, pln (12 + 4) c = if c = 23 then some 0 else none := ⟨fun _ => rfl, fun _ => rfl, fun _ => rfl, fun _ => rfl, fun _ => rfl⟩
theorem Rpl_t {C V : Nat → Nat} (hN : ∀ k, N ≤ k → C k = 0) (h4 : N ≤ 400) {d k l c : Nat} {g : tDB} (hk : k ≤ N) : okO (Rpl o C V d k l c g) := by
  unfold Rpl
  split
  · rename_i c1
    have := kN_of hN (show ¬ C k = 0 by omega)
    unfold R62
    split
    · exact ⟨_, rfl⟩
    · refine bnd_t (RB_t hN h4 (by omega) (by omega)) (fun a _ => ?_)
      split <;> exact ⟨_, rfl⟩
  · unfold R63
    refine bnd_t (RS_t hN h4 hk (by omega)) (fun a ha => ?_)
    split
    · exact ⟨_, rfl⟩
    · rename_i c2
      have := kN_of hN (show ¬ C a.1 = 0 from fun h => c2 (by rw [h]; rfl))
      exact bnd_t (RS_t hN h4 (by omega) (by omega)) (fun s _ => ⟨_, rfl⟩)
theorem tl_61 {x d k l c n : Nat} {p : Bool} {g : tDB} {cs D : tCd} {I J : Nat → Nat → Int32} {r : Except Nat (Nat × Nat × tDB × tCd)} (hN : ∀ k, N ≤ k → tC B T k = 0) (h4 : N ≤ 400) (d8 : d ≤ 8) (hk : k ≤ N) (hT : k < N → okTest o B T Ls L R X (k + 1)) (h7 : ¬ tC B T k = 7) (H : rdB o B T I R) (fJ : frS I J) (hS : rdS B T J k l D) (hc : c = D.length) (hD : D.length + bN p ≤ k) (hr : RB o (tC B T) (tV B T) 0 p d k l c g cs = some r) : P_run (x + 5 * (8 - d) + 12 + 1) 61 (p_bk 61 4) 0 0 [.ref 35, .int (nI d), .int (nI (bN p)), .int (nI n)] [] (p_mk Ls J L R X) (fun v h' => v = some (.int (nI (ocV r))) ∧ ∃ J', (frS I J' ∧ ocS B T J' D r) ∧ h' = p_mk Ls J' L R X) := by
  have hr0 := hr
  rw [RB_pl hN h4 hk h7] at hr
  have HJ := rdB_fr H fJ
  have s68 := pl_68 (d := x + 5 * (8 - d) + 12) (Ls := Ls) (L := L) (X := X) (c := 40) HJ.2.1 hS.1 (by omega) sg3.2.2.2.1.1 sg3.2.2.2.1.2
  obtain ⟨q, hq⟩ := Rpl_t (o := o) (V := tV B T) (d := d) (l := l) (c := c) (g := g) hN h4 hk
  -- behind what it stands for
  have tail : ∀ J1, frS J J1 → ocS B T J1 D q → P_run (x + 5 * (8 - d) + 12 + 1) 61 (p_bk 61 6) 0 0 [.ref 35, .int (nI d), .int (nI (bN p)), .int (nI n)] [.int (nI (ocV q))] (p_mk Ls J1 L R X) (fun v h' => v = some (.int (nI (ocV r))) ∧ ∃ J', (frS I J' ∧ ocS B T J' D r) ∧ h' = p_mk Ls J' L R X) := by
    intro J1 f1 o1
    rw [hq] at hr
    match q, hq, o1, hr with
    | .error e, hq, o1, hr =>
      cases hr
      show P_run _ _ _ _ _ _ [.int (nI 0)] _ (fun v h' => v = some (.int (nI 0)) ∧ _)
      generalize nI (bN p) = P at *
      rw [P_run_eq, bk_61_6, pb_61_6]; simp -implicitDefEqProofs (disch := first | omega | decide) only [P_m, ↓P_run_eq _ 61 _ (p_bk 61 7), bk_61_7, pb_61_7, pw_istore_n3, ps_3, pe_3, po_i3, po_r3, po_n3, po_u3, pw_iload_n3, pw_zeq, pw_iload_n2, pw_aload_n0, pw_aloadN_n0, pw_getR, pw_iconst, il_2, il_0, pw_iv3, pw_popi, pw_popr, pw_nop, pw_ret1, kd_35, rf_35_0, rf_35_1, n_0, n_1, n_2, nn_lt, nn_nlt, nn_le, nn_nle, nn_ne, nn_sub, nn_mul, nI_add, nn_neg, nm_eq, mn_eq, mm_eq, mn_lt, nm_lt, mn_le, nm_le, nn_sub0, nn_of, implies_true, nn_c, nn_in, nn_div, nat_rem, Nat.reduceMul, Nat.reduceSub, Nat.reduceDiv, Nat.reduceMod, pf_at, pf_ne, mk_s, mk_1, Classical.not_not, b2i_T, b2i_F, false_imp_iff, true_imp_iff, false_and, and_false, p_sw, Int.reduceAdd, Int.zero_add, Option.some.injEq, Value.int.injEq, Value.long.injEq, Value.ref.injEq, exists_eq_left', mk_I, mk_L, mk_wI, mk_wL, rf_s, rf_n, true_and, and_true, and_self, or_true, true_or, or_false, false_or, not_true_eq_false, not_false_eq_true, Option.toList_some, Option.toList_none, List.cons_append, List.nil_append, List.map_nil, List.map_cons, List.sum_nil, List.sum_cons, cat_i, cat_l, cat_r, cat_n, Nat.reduceLeDiff, Nat.reduceAdd, Nat.reduceEqDiff, Nat.zero_le, p_ent, p_u_ne, p_u_at, reduceIte, if_true, if_false]
      exact ⟨J1, ⟨frS_tr fJ f1, o1⟩, rfl⟩
    | .ok q, hq, o1, hr =>
      cases hr
      have o1 : rdS B T J1 q.1 q.2.1 (D ++ q.2.2.2) := o1
      obtain ⟨p1, p2, -⟩ := RB_pr hN hr0 hk
      obtain ⟨p3, p4⟩ := p2 rfl
      replace p3 : k < q.1 := p3
      replace p1 : q.1 ≤ N := p1
      replace p4 : (q.2.2.2 ++ notC p).length ≤ q.1 - k + (if p = true then 1 else 0) := p4
      show P_run _ _ _ _ _ _ [.int (nI 1)] _ (fun v h' => v = some (.int (nI 1)) ∧ _)
      cases p with
      | false =>
        rw [bN_f]
        rw [P_run_eq, bk_61_6, pb_61_6]; simp -implicitDefEqProofs (disch := first | omega | decide) only [P_m, ↓P_run_eq _ 61 _ (p_bk 61 7), bk_61_7, pb_61_7, pw_istore_n3, ps_3, pe_3, po_i3, po_r3, po_n3, po_u3, pw_iload_n3, pw_zeq, pw_iload_n2, pw_aload_n0, pw_aloadN_n0, pw_getR, pw_iconst, il_2, il_0, pw_iv3, pw_popi, pw_popr, pw_nop, pw_ret1, kd_35, rf_35_0, rf_35_1, n_0, n_1, n_2, nn_lt, nn_nlt, nn_le, nn_nle, nn_ne, nn_sub, nn_mul, nI_add, nn_neg, nm_eq, mn_eq, mm_eq, mn_lt, nm_lt, mn_le, nm_le, nn_sub0, nn_of, implies_true, nn_c, nn_in, nn_div, nat_rem, Nat.reduceMul, Nat.reduceSub, Nat.reduceDiv, Nat.reduceMod, pf_at, pf_ne, mk_s, mk_1, Classical.not_not, b2i_T, b2i_F, false_imp_iff, true_imp_iff, false_and, and_false, p_sw, Int.reduceAdd, Int.zero_add, Option.some.injEq, Value.int.injEq, Value.long.injEq, Value.ref.injEq, exists_eq_left', mk_I, mk_L, mk_wI, mk_wL, rf_s, rf_n, true_and, and_true, and_self, or_true, true_or, or_false, false_or, not_true_eq_false, not_false_eq_true, Option.toList_some, Option.toList_none, List.cons_append, List.nil_append, List.map_nil, List.map_cons, List.sum_nil, List.sum_cons, cat_i, cat_l, cat_r, cat_n, Nat.reduceLeDiff, Nat.reduceAdd, Nat.reduceEqDiff, Nat.zero_le, p_ent, p_u_ne, p_u_at, reduceIte, if_true, if_false]
        refine ⟨J1, ⟨frS_tr fJ f1, ?_⟩, rfl⟩
        show rdS B T J1 q.1 q.2.1 (D ++ (q.2.2.2 ++ notC false))
        rw [show notC false = [] from rfl, List.append_nil]
        exact o1
      | true =>
        rw [bN_t] at hD ⊢
        rw [if_pos rfl, List.length_append, show (notC true).length = 1 from rfl] at p4
        have ll : (D ++ q.2.2.2).length = D.length + q.2.2.2.length := List.length_append
        have s77 := pl_77 (d := x + 5 * (8 - d) + 12) (Ls := Ls) (L := L) (R := R) (X := X) (o := 2) (v := 0) (n := (D ++ q.2.2.2).length) (by omega) o1.2.2.2.1
        have o2 := rdS_em (op := 2) (v := 0) o1 (by omega)
        rw [List.append_assoc] at o2
        have f2 : frS I (emW J1 (D ++ q.2.2.2).length 2 0) := frS_tr fJ (frS_tr f1 frS_em)
        have fin : frS I (emW J1 (D ++ q.2.2.2).length 2 0) ∧ ocS B T (emW J1 (D ++ q.2.2.2).length 2 0) D (.ok (q.1, q.2.1, notD true q.2.2.1, q.2.2.2 ++ notC true)) := ⟨f2, o2⟩
        clear o2 f2 hr0 hq
        generalize (Except.ok (q.1, q.2.1, notD true q.2.2.1, q.2.2.2 ++ notC true) : Except Nat (Nat × Nat × tDB × tCd)) = RR at *
        generalize emW J1 (D ++ q.2.2.2).length 2 0 = J2 at *
        generalize (D ++ q.2.2.2).length = dl at *
        rw [P_run_eq, bk_61_6, pb_61_6]; simp -implicitDefEqProofs (disch := first | omega | decide) only [P_m, ↓P_run_eq _ 61 _ (p_bk 61 7), bk_61_7, pb_61_7, pw_istore_n3, ps_3, pe_3, po_i3, po_r3, po_n3, po_u3, pw_iload_n3, pw_zeq, pw_iload_n2, pw_aload_n0, pw_aloadN_n0, pw_getR, pw_iconst, il_2, il_0, pw_iv3, pw_popi, pw_popr, pw_nop, pw_ret1, kd_35, rf_35_0, rf_35_1, kd_36, rf_36_1, rf_36_2, rf_36_3, rf_36_4, rf_36_5, rf_36_7, rf_36_8, n_0, n_1, n_2, nn_lt, nn_nlt, nn_le, nn_nle, nn_ne, nn_sub, nn_mul, nI_add, nn_neg, nm_eq, mn_eq, mm_eq, mn_lt, nm_lt, mn_le, nm_le, nn_sub0, nn_of, implies_true, nn_c, nn_in, nn_div, nat_rem, Nat.reduceMul, Nat.reduceSub, Nat.reduceDiv, Nat.reduceMod, pf_at, pf_ne, mk_s, mk_1, Classical.not_not, b2i_T, b2i_F, false_imp_iff, true_imp_iff, false_and, and_false, p_sw, Int.reduceAdd, Int.zero_add, Option.some.injEq, Value.int.injEq, Value.long.injEq, Value.ref.injEq, exists_eq_left', mk_I, mk_L, mk_wI, mk_wL, rf_s, rf_n, true_and, and_true, and_self, or_true, true_or, or_false, false_or, not_true_eq_false, not_false_eq_true, Option.toList_some, Option.toList_none, List.cons_append, List.nil_append, List.map_nil, List.map_cons, List.sum_nil, List.sum_cons, cat_i, cat_l, cat_r, cat_n, Nat.reduceLeDiff, Nat.reduceAdd, Nat.reduceEqDiff, Nat.zero_le, p_ent, p_u_ne, p_u_at, reduceIte, if_true, if_false, P_ce s77]
        exact ⟨J2, fin, rfl⟩
  have hq0 := hq
  unfold Rpl at hq
  by_cases c1 : tC B T k = 140
  · rw [if_pos c1] at hq
    have kN := kN_of hN (show ¬ tC B T k = 0 by omega)
    rw [decide_eq_true (show tC B T k = 100 + 40 from c1), bN_t] at s68
    obtain ⟨J1, ⟨f1, o1⟩, s62⟩ := pl_62 (x := x) hN h4 d8 kN HJ hS hc (hT kN) hq
    have nx := tail J1 f1 o1
    clear tail hr0 hr hq hq0
    generalize nI (bN p) = P at *
    generalize nI (ocV q) = VQ at *
    generalize nI (ocV r) = VR at *
    rw [P_run_eq, bk_61_4, pb_61_4]; simp -implicitDefEqProofs (disch := first | omega | decide) only [P_m, pw_aload_n0, pw_aloadN_n0, pw_bipush, bl_40, pw_iv2, pw_zeq, pw_iload_n1, pw_goto, kd_35, rf_35_0, rf_35_1, n_0, n_1, n_40, nn_lt, nn_nlt, nn_le, nn_nle, nn_ne, nn_sub, nn_mul, nI_add, nn_neg, nm_eq, mn_eq, mm_eq, mn_lt, nm_lt, mn_le, nm_le, nn_sub0, nn_of, implies_true, nn_c, nn_in, nn_div, nat_rem, Nat.reduceMul, Nat.reduceSub, Nat.reduceDiv, Nat.reduceMod, pf_at, pf_ne, mk_s, mk_1, Classical.not_not, b2i_T, b2i_F, false_imp_iff, true_imp_iff, false_and, and_false, p_sw, Int.reduceAdd, Int.zero_add, Option.some.injEq, Value.int.injEq, Value.long.injEq, Value.ref.injEq, exists_eq_left', mk_I, mk_L, mk_wI, mk_wL, rf_s, rf_n, true_and, and_true, and_self, or_true, true_or, or_false, false_or, not_true_eq_false, not_false_eq_true, Option.toList_some, Option.toList_none, List.cons_append, List.nil_append, List.map_nil, List.map_cons, List.sum_nil, List.sum_cons, cat_i, cat_l, cat_r, cat_n, Nat.reduceLeDiff, Nat.reduceAdd, Nat.reduceEqDiff, Nat.zero_le, p_ent, p_u_ne, p_u_at, reduceIte, if_true, if_false, P_ce s68, P_ce s62]
    exact nx
  · rw [if_neg c1] at hq
    rw [decide_eq_false (show ¬ tC B T k = 100 + 40 from c1), bN_f] at s68
    obtain ⟨J1, ⟨f1, o1⟩, s63⟩ := pl_63 (Ls := Ls) (L := L) (X := X) (x := x + 3 * (8 - d)) hN h4 d8 hk HJ hS hq
    rw [show x + 3 * (8 - d) + 2 * (8 - d) + 12 = x + 5 * (8 - d) + 12 by omega] at s63
    have nx := tail J1 f1 o1
    clear tail hr0 hr hq hq0
    generalize nI (bN p) = P at *
    generalize nI (ocV q) = VQ at *
    generalize nI (ocV r) = VR at *
    rw [P_run_eq, bk_61_4, pb_61_4]; simp -implicitDefEqProofs (disch := first | omega | decide) only [P_m, ↓P_run_eq _ 61 _ (p_bk 61 5), bk_61_5, pb_61_5, pw_aload_n0, pw_aloadN_n0, pw_bipush, bl_40, pw_iv2, pw_zeq, pw_iload_n1, pw_goto, pw_nop, kd_35, rf_35_0, rf_35_1, n_0, n_1, n_40, nn_lt, nn_nlt, nn_le, nn_nle, nn_ne, nn_sub, nn_mul, nI_add, nn_neg, nm_eq, mn_eq, mm_eq, mn_lt, nm_lt, mn_le, nm_le, nn_sub0, nn_of, implies_true, nn_c, nn_in, nn_div, nat_rem, Nat.reduceMul, Nat.reduceSub, Nat.reduceDiv, Nat.reduceMod, pf_at, pf_ne, mk_s, mk_1, Classical.not_not, b2i_T, b2i_F, false_imp_iff, true_imp_iff, false_and, and_false, p_sw, Int.reduceAdd, Int.zero_add, Option.some.injEq, Value.int.injEq, Value.long.injEq, Value.ref.injEq, exists_eq_left', mk_I, mk_L, mk_wI, mk_wL, rf_s, rf_n, true_and, and_true, and_self, or_true, true_or, or_false, false_or, not_true_eq_false, not_false_eq_true, Option.toList_some, Option.toList_none, List.cons_append, List.nil_append, List.map_nil, List.map_cons, List.sum_nil, List.sum_cons, cat_i, cat_l, cat_r, cat_n, Nat.reduceLeDiff, Nat.reduceAdd, Nat.reduceEqDiff, Nat.zero_le, p_ent, p_u_ne, p_u_at, reduceIte, if_true, if_false, P_ce s68, P_ce s63]
    exact nx
theorem lp_61 {x d l c k0 : Nat} {g : tDB} {D : tCd} {I : Nat → Nat → Int32} {r : Except Nat (Nat × Nat × tDB × tCd)} (hN : ∀ k, N ≤ k → tC B T k = 0) (h4 : N ≤ 400) (d8 : d ≤ 8) (H : rdB o B T I R) (hc : c = D.length) (hT : ∀ k, k0 ≤ k → k < N → okTest o B T Ls L R X (k + 1)) : ∀ M k, N - k ≤ M → k0 ≤ k → k ≤ N → ∀ p cs n J, n ≤ k → frS I J → rdS B T J k l D → D.length + bN p ≤ k → RB o (tC B T) (tV B T) 0 p d k l c g cs = some r → P_run (x + 5 * (8 - d) + 12 + 1) 61 (p_bk 61 1) 0 0 [.ref 35, .int (nI d), .int (nI (bN p)), .int (nI n)] [] (p_mk Ls J L R X) (fun v h' => v = some (.int (nI (ocV r))) ∧ ∃ J', (frS I J' ∧ ocS B T J' D r) ∧ h' = p_mk Ls J' L R X) := by
  intro M
  induction M with
  | zero =>
    intro k hM hk0 hk p cs n J hn fJ hS hD hr
    have c0 := hN k (by omega)
    have nx := tl_61 (x := x) (n := n) hN h4 d8 hk (hT k hk0) (by omega) H fJ hS hc hD hr
    have HJ := rdB_fr H fJ
    have s70 := pl_70 (d := x + 5 * (8 - d) + 6) (Ls := Ls) (L := L) (X := X) (s := 6) HJ.1 HJ.2.1 hS.1 (by omega) pln_w.1
    rw [decide_eq_false (show ¬ tC B T k = 7 by omega), bN_f, if_neg (show ¬ tC B T k = 7 by omega)] at s70
    replace s70 : P_m (x + 5 * (8 - d) + 12) 70 [.ref 35, .ref 18] (p_mk Ls J L R X) (fun v h' => v = some (.int (nI 0)) ∧ h' = p_mk Ls J L R X) := s70
    clear hr
    generalize nI (bN p) = P at *
    generalize nI (ocV r) = VR at *
    by_cases n4 : n < 400
    · rw [P_run_eq, bk_61_1, pb_61_1]; simp -implicitDefEqProofs (disch := first | omega | decide) only [P_m, pw_iload_n3, pw_sipush, sl_400, pw_cge, pw_aload_n0, pw_aloadN_n0, pw_ldcS, pw_iv2, pw_zeq, pw_iload_n2, pw_zne, pw_iconst, il_1, pw_goto, kd_35, rf_35_0, rf_35_1, n_0, n_1, n_400, nn_lt, nn_nlt, nn_le, nn_nle, nn_ne, nn_sub, nn_mul, nI_add, nn_neg, nm_eq, mn_eq, mm_eq, mn_lt, nm_lt, mn_le, nm_le, nn_sub0, nn_of, implies_true, nn_c, nn_in, nn_div, nat_rem, Nat.reduceMul, Nat.reduceSub, Nat.reduceDiv, Nat.reduceMod, pf_at, pf_ne, mk_s, mk_1, Classical.not_not, b2i_T, b2i_F, false_imp_iff, true_imp_iff, false_and, and_false, p_sw, Int.reduceAdd, Int.zero_add, Option.some.injEq, Value.int.injEq, Value.long.injEq, Value.ref.injEq, exists_eq_left', mk_I, mk_L, mk_wI, mk_wL, rf_s, rf_n, true_and, and_true, and_self, or_true, true_or, or_false, false_or, not_true_eq_false, not_false_eq_true, Option.toList_some, Option.toList_none, List.cons_append, List.nil_append, List.map_nil, List.map_cons, List.sum_nil, List.sum_cons, cat_i, cat_l, cat_r, cat_n, Nat.reduceLeDiff, Nat.reduceAdd, Nat.reduceEqDiff, Nat.zero_le, p_ent, p_u_ne, p_u_at, reduceIte, if_true, if_false, P_ce s70]
      exact nx
    · rw [P_run_eq, bk_61_1, pb_61_1]; simp -implicitDefEqProofs (disch := first | omega | decide) only [P_m, pw_iload_n3, pw_sipush, sl_400, pw_cge, pw_aload_n0, pw_aloadN_n0, pw_ldcS, pw_iv2, pw_zeq, pw_iload_n2, pw_zne, pw_iconst, il_1, pw_goto, kd_35, rf_35_0, rf_35_1, n_0, n_1, n_400, nn_lt, nn_nlt, nn_le, nn_nle, nn_ne, nn_sub, nn_mul, nI_add, nn_neg, nm_eq, mn_eq, mm_eq, mn_lt, nm_lt, mn_le, nm_le, nn_sub0, nn_of, implies_true, nn_c, nn_in, nn_div, nat_rem, Nat.reduceMul, Nat.reduceSub, Nat.reduceDiv, Nat.reduceMod, pf_at, pf_ne, mk_s, mk_1, Classical.not_not, b2i_T, b2i_F, false_imp_iff, true_imp_iff, false_and, and_false, p_sw, Int.reduceAdd, Int.zero_add, Option.some.injEq, Value.int.injEq, Value.long.injEq, Value.ref.injEq, exists_eq_left', mk_I, mk_L, mk_wI, mk_wL, rf_s, rf_n, true_and, and_true, and_self, or_true, true_or, or_false, false_or, not_true_eq_false, not_false_eq_true, Option.toList_some, Option.toList_none, List.cons_append, List.nil_append, List.map_nil, List.map_cons, List.sum_nil, List.sum_cons, cat_i, cat_l, cat_r, cat_n, Nat.reduceLeDiff, Nat.reduceAdd, Nat.reduceEqDiff, Nat.zero_le, p_ent, p_u_ne, p_u_at, reduceIte, if_true, if_false]
      exact nx
  | succ M ih =>
    intro k hM hk0 hk p cs n J hn fJ hS hD hr
    have HJ := rdB_fr H fJ
    have s70 := pl_70 (d := x + 5 * (8 - d) + 6) (Ls := Ls) (L := L) (X := X) (s := 6) HJ.1 HJ.2.1 hS.1 (by omega) pln_w.1
    replace s70 : P_m (x + 5 * (8 - d) + 12) 70 [.ref 35, .ref 18] (p_mk Ls J L R X) (fun v h' => v = some (.int (nI (bN (decide (tC B T k = 7))))) ∧ h' = p_mk Ls (if tC B T k = 7 then stp B T J (k + 1) else J) L R X) := s70
    by_cases c7 : tC B T k = 7
    · have kN := kN_of hN (show ¬ tC B T k = 0 by omega)
      rw [RB_0 hN h4 hk, if_pos c7] at hr
      rw [decide_eq_true c7, bN_t, if_pos c7] at s70
      have hS1 := rdS_stp hS
      have nx := ih (k + 1) (by omega) (by omega) (by omega) (!p) [] (n + 1) (stp B T J (k + 1)) (by omega) (frS_tr fJ frS_stp) hS1 (by have := hS.2.2.2.2.1; cases p <;> simp only [bN_f, bN_t, Bool.not_false, Bool.not_true] <;> omega) hr
      have n4 : n < 400 := by omega
      clear ih hr hS1 hD
      generalize stp B T J (k + 1) = J1 at *
      generalize nI (ocV r) = VR at *
      cases p with
      | false =>
        rw [bN_f]
        rw [Bool.not_false, bN_t] at nx
        rw [P_run_eq, bk_61_1, pb_61_1]; simp -implicitDefEqProofs (disch := first | omega | decide) only [P_m, ↓P_run_eq _ 61 _ (p_bk 61 3), bk_61_3, pb_61_3, pw_iload_n3, pw_sipush, sl_400, pw_cge, pw_aload_n0, pw_aloadN_n0, pw_ldcS, pw_iv2, pw_zeq, pw_iload_n2, pw_zne, pw_iconst, il_1, pw_goto, pw_istore_n2, ps_2, pe_2, po_i2, po_r2, po_n2, po_u2, pw_iinc_3, po_i3, po_r3, po_n3, po_u3, kd_35, rf_35_0, rf_35_1, n_0, n_1, n_400, nn_lt, nn_nlt, nn_le, nn_nle, nn_ne, nn_sub, nn_mul, nI_add, nn_neg, nm_eq, mn_eq, mm_eq, mn_lt, nm_lt, mn_le, nm_le, nn_sub0, nn_of, implies_true, nn_c, nn_in, nn_div, nat_rem, Nat.reduceMul, Nat.reduceSub, Nat.reduceDiv, Nat.reduceMod, pf_at, pf_ne, mk_s, mk_1, Classical.not_not, b2i_T, b2i_F, false_imp_iff, true_imp_iff, false_and, and_false, p_sw, Int.reduceAdd, Int.zero_add, Option.some.injEq, Value.int.injEq, Value.long.injEq, Value.ref.injEq, exists_eq_left', mk_I, mk_L, mk_wI, mk_wL, rf_s, rf_n, true_and, and_true, and_self, or_true, true_or, or_false, false_or, not_true_eq_false, not_false_eq_true, Option.toList_some, Option.toList_none, List.cons_append, List.nil_append, List.map_nil, List.map_cons, List.sum_nil, List.sum_cons, cat_i, cat_l, cat_r, cat_n, Nat.reduceLeDiff, Nat.reduceAdd, Nat.reduceEqDiff, Nat.zero_le, p_ent, p_u_ne, p_u_at, reduceIte, if_true, if_false, P_ce s70]
        exact nx
      | true =>
        rw [bN_t]
        rw [Bool.not_true, bN_f] at nx
        rw [P_run_eq, bk_61_1, pb_61_1]; simp -implicitDefEqProofs (disch := first | omega | decide) only [P_m, ↓P_run_eq _ 61 _ (p_bk 61 2), bk_61_2, pb_61_2, ↓P_run_eq _ 61 _ (p_bk 61 3), bk_61_3, pb_61_3, pw_iload_n3, pw_sipush, sl_400, pw_cge, pw_aload_n0, pw_aloadN_n0, pw_ldcS, pw_iv2, pw_zeq, pw_iload_n2, pw_zne, pw_iconst, il_1, pw_goto, il_0, pw_nop, pw_istore_n2, ps_2, pe_2, po_i2, po_r2, po_n2, po_u2, pw_iinc_3, po_i3, po_r3, po_n3, po_u3, kd_35, rf_35_0, rf_35_1, n_0, n_1, n_400, nn_lt, nn_nlt, nn_le, nn_nle, nn_ne, nn_sub, nn_mul, nI_add, nn_neg, nm_eq, mn_eq, mm_eq, mn_lt, nm_lt, mn_le, nm_le, nn_sub0, nn_of, implies_true, nn_c, nn_in, nn_div, nat_rem, Nat.reduceMul, Nat.reduceSub, Nat.reduceDiv, Nat.reduceMod, pf_at, pf_ne, mk_s, mk_1, Classical.not_not, b2i_T, b2i_F, false_imp_iff, true_imp_iff, false_and, and_false, p_sw, Int.reduceAdd, Int.zero_add, Option.some.injEq, Value.int.injEq, Value.long.injEq, Value.ref.injEq, exists_eq_left', mk_I, mk_L, mk_wI, mk_wL, rf_s, rf_n, true_and, and_true, and_self, or_true, true_or, or_false, false_or, not_true_eq_false, not_false_eq_true, Option.toList_some, Option.toList_none, List.cons_append, List.nil_append, List.map_nil, List.map_cons, List.sum_nil, List.sum_cons, cat_i, cat_l, cat_r, cat_n, Nat.reduceLeDiff, Nat.reduceAdd, Nat.reduceEqDiff, Nat.zero_le, p_ent, p_u_ne, p_u_at, reduceIte, if_true, if_false, P_ce s70]
        exact nx
    · rw [decide_eq_false c7, bN_f, if_neg c7] at s70
      have nx := tl_61 (x := x) (n := n) hN h4 d8 hk (hT k hk0) c7 H fJ hS hc hD hr
      clear ih hr
      generalize nI (bN p) = P at *
      generalize nI (ocV r) = VR at *
      by_cases n4 : n < 400
      · rw [P_run_eq, bk_61_1, pb_61_1]; simp -implicitDefEqProofs (disch := first | omega | decide) only [P_m, pw_iload_n3, pw_sipush, sl_400, pw_cge, pw_aload_n0, pw_aloadN_n0, pw_ldcS, pw_iv2, pw_zeq, pw_iload_n2, pw_zne, pw_iconst, il_1, pw_goto, kd_35, rf_35_0, rf_35_1, n_0, n_1, n_400, nn_lt, nn_nlt, nn_le, nn_nle, nn_ne, nn_sub, nn_mul, nI_add, nn_neg, nm_eq, mn_eq, mm_eq, mn_lt, nm_lt, mn_le, nm_le, nn_sub0, nn_of, implies_true, nn_c, nn_in, nn_div, nat_rem, Nat.reduceMul, Nat.reduceSub, Nat.reduceDiv, Nat.reduceMod, pf_at, pf_ne, mk_s, mk_1, Classical.not_not, b2i_T, b2i_F, false_imp_iff, true_imp_iff, false_and, and_false, p_sw, Int.reduceAdd, Int.zero_add, Option.some.injEq, Value.int.injEq, Value.long.injEq, Value.ref.injEq, exists_eq_left', mk_I, mk_L, mk_wI, mk_wL, rf_s, rf_n, true_and, and_true, and_self, or_true, true_or, or_false, false_or, not_true_eq_false, not_false_eq_true, Option.toList_some, Option.toList_none, List.cons_append, List.nil_append, List.map_nil, List.map_cons, List.sum_nil, List.sum_cons, cat_i, cat_l, cat_r, cat_n, Nat.reduceLeDiff, Nat.reduceAdd, Nat.reduceEqDiff, Nat.zero_le, p_ent, p_u_ne, p_u_at, reduceIte, if_true, if_false, P_ce s70]
        exact nx
      · rw [P_run_eq, bk_61_1, pb_61_1]; simp -implicitDefEqProofs (disch := first | omega | decide) only [P_m, pw_iload_n3, pw_sipush, sl_400, pw_cge, pw_aload_n0, pw_aloadN_n0, pw_ldcS, pw_iv2, pw_zeq, pw_iload_n2, pw_zne, pw_iconst, il_1, pw_goto, kd_35, rf_35_0, rf_35_1, n_0, n_1, n_400, nn_lt, nn_nlt, nn_le, nn_nle, nn_ne, nn_sub, nn_mul, nI_add, nn_neg, nm_eq, mn_eq, mm_eq, mn_lt, nm_lt, mn_le, nm_le, nn_sub0, nn_of, implies_true, nn_c, nn_in, nn_div, nat_rem, Nat.reduceMul, Nat.reduceSub, Nat.reduceDiv, Nat.reduceMod, pf_at, pf_ne, mk_s, mk_1, Classical.not_not, b2i_T, b2i_F, false_imp_iff, true_imp_iff, false_and, and_false, p_sw, Int.reduceAdd, Int.zero_add, Option.some.injEq, Value.int.injEq, Value.long.injEq, Value.ref.injEq, exists_eq_left', mk_I, mk_L, mk_wI, mk_wL, rf_s, rf_n, true_and, and_true, and_self, or_true, true_or, or_false, false_or, not_true_eq_false, not_false_eq_true, Option.toList_some, Option.toList_none, List.cons_append, List.nil_append, List.map_nil, List.map_cons, List.sum_nil, List.sum_cons, cat_i, cat_l, cat_r, cat_n, Nat.reduceLeDiff, Nat.reduceAdd, Nat.reduceEqDiff, Nat.zero_le, p_ent, p_u_ne, p_u_at, reduceIte, if_true, if_false]
        exact nx
theorem plain_s {k0 : Nat} (hN : ∀ k, N ≤ k → tC B T k = 0) (h4 : N ≤ 400) (hk : k0 ≤ N) (hT : ∀ k, k0 ≤ k → k < N → okTest o B T Ls L R X (k + 1)) : okPlain o B T Ls L R X k0 := by
  intro x d l c g cs D I r d8 H hS hc hr
  have st := lp_61 (x := x) (D := D) (I := I) (r := r) (l := l) (g := g) hN h4 d8 H hc hT (N - k0) k0 (Nat.le_refl _) (Nat.le_refl _) hk false cs 0 I (by omega) frS_rf hS (by rw [bN_f]; exact hS.2.2.2.2.1) hr
  rw [bN_f] at st
  have all : P_m (x + 5 * (8 - d) + 13) 61 [.ref 35, .int (nI d)] (p_mk Ls I L R X) (fun v h' => v = some (.int (nI (ocV r))) ∧ ∃ J', (frS I J' ∧ ocS B T J' D r) ∧ h' = p_mk Ls J' L R X) := by
    clear hr
    generalize nI (ocV r) = VR at *
    simp -implicitDefEqProofs (disch := first | omega | decide) only [P_m, ↓P_run_eq _ 61 _ (p_bk 61 0), bk_61_0, pb_61_0, pw_iconst, il_0, pw_istore_n2, ps_2, pe_2, po_i2, po_r2, po_n2, po_u2, pw_istore_n3, ps_3, pe_3, po_i3, po_r3, po_n3, po_u3, pw_nop, kd_35, rf_35_0, rf_35_1, n_0, n_1, nn_lt, nn_nlt, nn_le, nn_nle, nn_ne, nn_sub, nn_mul, nI_add, nn_neg, nm_eq, mn_eq, mm_eq, mn_lt, nm_lt, mn_le, nm_le, nn_sub0, nn_of, implies_true, nn_c, nn_in, nn_div, nat_rem, Nat.reduceMul, Nat.reduceSub, Nat.reduceDiv, Nat.reduceMod, pf_at, pf_ne, mk_s, mk_1, Classical.not_not, b2i_T, b2i_F, false_imp_iff, true_imp_iff, false_and, and_false, p_sw, Int.reduceAdd, Int.zero_add, Option.some.injEq, Value.int.injEq, Value.long.injEq, Value.ref.injEq, exists_eq_left', mk_I, mk_L, mk_wI, mk_wL, rf_s, rf_n, true_and, and_true, and_self, or_true, true_or, or_false, false_or, not_true_eq_false, not_false_eq_true, Option.toList_some, Option.toList_none, List.cons_append, List.nil_append, List.map_nil, List.map_cons, List.sum_nil, List.sum_cons, cat_i, cat_l, cat_r, cat_n, Nat.reduceLeDiff, Nat.reduceAdd, Nat.reduceEqDiff, Nat.zero_le, p_ent, p_u_ne, p_u_at, reduceIte, if_true, if_false]
    exact st
  obtain ⟨v, g', ⟨rfl, J', f1, rfl⟩, s⟩ := P_mex all
  exact ⟨J', f1, s⟩
end PL
