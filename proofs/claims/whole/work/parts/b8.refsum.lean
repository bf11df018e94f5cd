section RX1
variable {d Ls : Nat} {I : Nat → Nat → Int32} {L : Nat → Nat → Int64} {R : Nat → Nat → Option Nat} {X : List pKd} {h : pHp} {B : Nat → Nat} {T N : Nat} {o : Bool}
/-- a multiplying sign is taken, or none -/
theorem bl_176 {D k l : Nat} {x : Int32} {Q : Option Value → pHp → Prop} (hM : mF B T N o I) (hC : ∀ k, tC B T k < 356) (hk : k ≤ N) (n0 : mulOp (tC B T k) = 0 → Q none (p_mk Ls (mst I k l (mI 1)) L R X)) (n1 : ¬ mulOp (tC B T k) = 0 → P_run (D + 2) 176 (p_bk 176 2) 0 0 [.ref 123, .int x] [] (p_mk Ls (mst I (k + 1) l (mI 1)) L R X) Q) : P_run (D + 2) 176 (p_bk 176 1) 0 0 [.ref 123, .int x] [] (p_mk Ls (mst I k l (mI 1)) L R X) Q := by
  obtain ⟨-, m1, m2, m3, m4, -⟩ := mul_c _ (hC k)
  have s1 := ta_y (d := D) (Ls := Ls) (L := L) (R := R) (X := X) (l := l) (c := 142) hM hk (by omega) (hC k)
  have s2 := ta_y (d := D) (Ls := Ls) (L := L) (R := R) (X := X) (l := l) (c := 147) hM hk (by omega) (hC k)
  have s3 := ta_y (d := D) (Ls := Ls) (L := L) (R := R) (X := X) (l := l) (c := 137) hM hk (by omega) (hC k)
  by_cases c1 : tC B T k = 142
  · have nx := n1 (by rw [m1 c1]; decide)
    rw [decide_eq_true c1, bN_t, if_pos c1] at s1
    clear n0 n1 s2 s3
    generalize mst I (k + 1) l (mI 1) = J1 at *
    generalize mst I k l (mI 1) = J at *
    rw [P_run_eq, bk_176_1, pb_176_1]; simp -implicitDefEqProofs (disch := first | omega | decide) only [P_m, pw_aload_n0, pw_aloadN_n0, pw_bipush, bl_42, pw_is1, pw_iv2, pw_zne, bl_47, bl_37, pw_zeq, pw_nop, kd_123, rf_123_1, rf_123_2, rf_123_3, rf_123_4, rf_123_5, rf_123_7, rf_123_11, rf_123_12, rf_123_15, rf_123_16, rf_123_17, rf_123_26, rf_123_29, rf_123_30, rf_123_32, rf_123_34, rf_123_35, rf_123_45, n_0, n_1, n_37, n_42, n_47, nn_lt, nn_nlt, nn_le, nn_nle, nn_ne, nn_sub, nn_mul, nI_add, nn_neg, nm_eq, mn_eq, mm_eq, mn_lt, nm_lt, mn_le, nm_le, nn_sub0, nn_of, implies_true, nn_c, nn_in, nn_div, nat_rem, Nat.reduceMul, Nat.reduceSub, Nat.reduceDiv, Nat.reduceMod, pf_at, pf_ne, mk_s, mk_1, Classical.not_not, b2i_T, b2i_F, false_imp_iff, true_imp_iff, false_and, and_false, p_sw, Int.reduceAdd, Int.zero_add, Option.some.injEq, Value.int.injEq, Value.long.injEq, Value.ref.injEq, exists_eq_left', mk_I, mk_L, mk_wI, mk_wL, rf_s, rf_n, true_and, and_true, and_self, or_true, true_or, or_false, false_or, not_true_eq_false, not_false_eq_true, Option.toList_some, Option.toList_none, List.cons_append, List.nil_append, List.map_nil, List.map_cons, List.sum_nil, List.sum_cons, cat_i, cat_l, cat_r, cat_n, Nat.reduceLeDiff, Nat.reduceAdd, Nat.reduceEqDiff, Nat.zero_le, p_ent, p_u_ne, p_u_at, reduceIte, if_true, if_false, P_ce (sp_167), P_ce s1]
    exact nx
  · rw [decide_eq_false c1, bN_f, if_neg c1] at s1
    by_cases c2 : tC B T k = 147
    · have nx := n1 (by rw [m2 c2]; decide)
      rw [decide_eq_true c2, bN_t, if_pos c2] at s2
      clear n0 n1 s3
      generalize mst I (k + 1) l (mI 1) = J1 at *
      generalize mst I k l (mI 1) = J at *
      rw [P_run_eq, bk_176_1, pb_176_1]; simp -implicitDefEqProofs (disch := first | omega | decide) only [P_m, pw_aload_n0, pw_aloadN_n0, pw_bipush, bl_42, pw_is1, pw_iv2, pw_zne, bl_47, bl_37, pw_zeq, pw_nop, kd_123, rf_123_1, rf_123_2, rf_123_3, rf_123_4, rf_123_5, rf_123_7, rf_123_11, rf_123_12, rf_123_15, rf_123_16, rf_123_17, rf_123_26, rf_123_29, rf_123_30, rf_123_32, rf_123_34, rf_123_35, rf_123_45, n_0, n_1, n_37, n_42, n_47, nn_lt, nn_nlt, nn_le, nn_nle, nn_ne, nn_sub, nn_mul, nI_add, nn_neg, nm_eq, mn_eq, mm_eq, mn_lt, nm_lt, mn_le, nm_le, nn_sub0, nn_of, implies_true, nn_c, nn_in, nn_div, nat_rem, Nat.reduceMul, Nat.reduceSub, Nat.reduceDiv, Nat.reduceMod, pf_at, pf_ne, mk_s, mk_1, Classical.not_not, b2i_T, b2i_F, false_imp_iff, true_imp_iff, false_and, and_false, p_sw, Int.reduceAdd, Int.zero_add, Option.some.injEq, Value.int.injEq, Value.long.injEq, Value.ref.injEq, exists_eq_left', mk_I, mk_L, mk_wI, mk_wL, rf_s, rf_n, true_and, and_true, and_self, or_true, true_or, or_false, false_or, not_true_eq_false, not_false_eq_true, Option.toList_some, Option.toList_none, List.cons_append, List.nil_append, List.map_nil, List.map_cons, List.sum_nil, List.sum_cons, cat_i, cat_l, cat_r, cat_n, Nat.reduceLeDiff, Nat.reduceAdd, Nat.reduceEqDiff, Nat.zero_le, p_ent, p_u_ne, p_u_at, reduceIte, if_true, if_false, P_ce (sp_167), P_ce s1, P_ce s2]
      exact nx
    · rw [decide_eq_false c2, bN_f, if_neg c2] at s2
      by_cases c3 : tC B T k = 137
      · have nx := n1 (by rw [m3 c3]; decide)
        rw [decide_eq_true c3, bN_t, if_pos c3] at s3
        clear n0 n1
        generalize mst I (k + 1) l (mI 1) = J1 at *
        generalize mst I k l (mI 1) = J at *
        rw [P_run_eq, bk_176_1, pb_176_1]; simp -implicitDefEqProofs (disch := first | omega | decide) only [P_m, pw_aload_n0, pw_aloadN_n0, pw_bipush, bl_42, pw_is1, pw_iv2, pw_zne, bl_47, bl_37, pw_zeq, pw_nop, kd_123, rf_123_1, rf_123_2, rf_123_3, rf_123_4, rf_123_5, rf_123_7, rf_123_11, rf_123_12, rf_123_15, rf_123_16, rf_123_17, rf_123_26, rf_123_29, rf_123_30, rf_123_32, rf_123_34, rf_123_35, rf_123_45, n_0, n_1, n_37, n_42, n_47, nn_lt, nn_nlt, nn_le, nn_nle, nn_ne, nn_sub, nn_mul, nI_add, nn_neg, nm_eq, mn_eq, mm_eq, mn_lt, nm_lt, mn_le, nm_le, nn_sub0, nn_of, implies_true, nn_c, nn_in, nn_div, nat_rem, Nat.reduceMul, Nat.reduceSub, Nat.reduceDiv, Nat.reduceMod, pf_at, pf_ne, mk_s, mk_1, Classical.not_not, b2i_T, b2i_F, false_imp_iff, true_imp_iff, false_and, and_false, p_sw, Int.reduceAdd, Int.zero_add, Option.some.injEq, Value.int.injEq, Value.long.injEq, Value.ref.injEq, exists_eq_left', mk_I, mk_L, mk_wI, mk_wL, rf_s, rf_n, true_and, and_true, and_self, or_true, true_or, or_false, false_or, not_true_eq_false, not_false_eq_true, Option.toList_some, Option.toList_none, List.cons_append, List.nil_append, List.map_nil, List.map_cons, List.sum_nil, List.sum_cons, cat_i, cat_l, cat_r, cat_n, Nat.reduceLeDiff, Nat.reduceAdd, Nat.reduceEqDiff, Nat.zero_le, p_ent, p_u_ne, p_u_at, reduceIte, if_true, if_false, P_ce (sp_167), P_ce s1, P_ce s2, P_ce s3]
        exact nx
      · have nx := n0 (m4 c1 c2 c3)
        rw [decide_eq_false c3, bN_f, if_neg c3] at s3
        clear n0 n1
        generalize mst I k l (mI 1) = J at *
        rw [P_run_eq, bk_176_1, pb_176_1]; simp -implicitDefEqProofs (disch := first | omega | decide) only [P_m, ↓P_run_eq _ 176 _ (p_bk 176 3), bk_176_3, pb_176_3, pw_aload_n0, pw_aloadN_n0, pw_bipush, bl_42, pw_is1, pw_iv2, pw_zne, bl_47, bl_37, pw_zeq, pw_nop, pw_vret, kd_123, rf_123_1, rf_123_2, rf_123_3, rf_123_4, rf_123_5, rf_123_7, rf_123_11, rf_123_12, rf_123_15, rf_123_16, rf_123_17, rf_123_26, rf_123_29, rf_123_30, rf_123_32, rf_123_34, rf_123_35, rf_123_45, n_0, n_1, n_37, n_42, n_47, nn_lt, nn_nlt, nn_le, nn_nle, nn_ne, nn_sub, nn_mul, nI_add, nn_neg, nm_eq, mn_eq, mm_eq, mn_lt, nm_lt, mn_le, nm_le, nn_sub0, nn_of, implies_true, nn_c, nn_in, nn_div, nat_rem, Nat.reduceMul, Nat.reduceSub, Nat.reduceDiv, Nat.reduceMod, pf_at, pf_ne, mk_s, mk_1, Classical.not_not, b2i_T, b2i_F, false_imp_iff, true_imp_iff, false_and, and_false, p_sw, Int.reduceAdd, Int.zero_add, Option.some.injEq, Value.int.injEq, Value.long.injEq, Value.ref.injEq, exists_eq_left', mk_I, mk_L, mk_wI, mk_wL, rf_s, rf_n, true_and, and_true, and_self, or_true, true_or, or_false, false_or, not_true_eq_false, not_false_eq_true, Option.toList_some, Option.toList_none, List.cons_append, List.nil_append, List.map_nil, List.map_cons, List.sum_nil, List.sum_cons, cat_i, cat_l, cat_r, cat_n, Nat.reduceLeDiff, Nat.reduceAdd, Nat.reduceEqDiff, Nat.zero_le, p_ent, p_u_ne, p_u_at, reduceIte, if_true, if_false, P_ce (sp_167), P_ce s1, P_ce s2, P_ce s3]
        exact nx
theorem bl_175 {D k l : Nat} {x : Int32} {Q : Option Value → pHp → Prop} (hM : mF B T N o I) (hC : ∀ k, tC B T k < 356) (hk : k ≤ N) (n0 : addOp (tC B T k) = 0 → Q none (p_mk Ls (mst I k l (mI 1)) L R X)) (n1 : ¬ addOp (tC B T k) = 0 → P_run (D + 2) 175 (p_bk 175 2) 0 0 [.ref 123, .int x] [] (p_mk Ls (mst I (k + 1) l (mI 1)) L R X) Q) : P_run (D + 2) 175 (p_bk 175 1) 0 0 [.ref 123, .int x] [] (p_mk Ls (mst I k l (mI 1)) L R X) Q := by
  obtain ⟨-, -, -, -, -, -, m1, m2, m3⟩ := mul_c _ (hC k)
  have s1 := ta_y (d := D) (Ls := Ls) (L := L) (R := R) (X := X) (l := l) (c := 143) hM hk (by omega) (hC k)
  have s2 := ta_y (d := D) (Ls := Ls) (L := L) (R := R) (X := X) (l := l) (c := 145) hM hk (by omega) (hC k)
  by_cases c1 : tC B T k = 143
  · have nx := n1 (by rw [m1 c1]; decide)
    rw [decide_eq_true c1, bN_t, if_pos c1] at s1
    clear n0 n1 s2
    generalize mst I (k + 1) l (mI 1) = J1 at *
    generalize mst I k l (mI 1) = J at *
    rw [P_run_eq, bk_175_1, pb_175_1]; simp -implicitDefEqProofs (disch := first | omega | decide) only [P_m, pw_aload_n0, pw_aloadN_n0, pw_bipush, bl_43, pw_is1, pw_iv2, pw_zne, bl_45, pw_zeq, pw_nop, kd_123, rf_123_1, rf_123_2, rf_123_3, rf_123_4, rf_123_5, rf_123_7, rf_123_11, rf_123_12, rf_123_15, rf_123_16, rf_123_17, rf_123_26, rf_123_29, rf_123_30, rf_123_32, rf_123_34, rf_123_35, rf_123_45, n_0, n_1, n_43, n_45, nn_lt, nn_nlt, nn_le, nn_nle, nn_ne, nn_sub, nn_mul, nI_add, nn_neg, nm_eq, mn_eq, mm_eq, mn_lt, nm_lt, mn_le, nm_le, nn_sub0, nn_of, implies_true, nn_c, nn_in, nn_div, nat_rem, Nat.reduceMul, Nat.reduceSub, Nat.reduceDiv, Nat.reduceMod, pf_at, pf_ne, mk_s, mk_1, Classical.not_not, b2i_T, b2i_F, false_imp_iff, true_imp_iff, false_and, and_false, p_sw, Int.reduceAdd, Int.zero_add, Option.some.injEq, Value.int.injEq, Value.long.injEq, Value.ref.injEq, exists_eq_left', mk_I, mk_L, mk_wI, mk_wL, rf_s, rf_n, true_and, and_true, and_self, or_true, true_or, or_false, false_or, not_true_eq_false, not_false_eq_true, Option.toList_some, Option.toList_none, List.cons_append, List.nil_append, List.map_nil, List.map_cons, List.sum_nil, List.sum_cons, cat_i, cat_l, cat_r, cat_n, Nat.reduceLeDiff, Nat.reduceAdd, Nat.reduceEqDiff, Nat.zero_le, p_ent, p_u_ne, p_u_at, reduceIte, if_true, if_false, P_ce (sp_167), P_ce s1]
    exact nx
  · rw [decide_eq_false c1, bN_f, if_neg c1] at s1
    by_cases c2 : tC B T k = 145
    · have nx := n1 (by rw [m2 c2]; decide)
      rw [decide_eq_true c2, bN_t, if_pos c2] at s2
      clear n0 n1
      generalize mst I (k + 1) l (mI 1) = J1 at *
      generalize mst I k l (mI 1) = J at *
      rw [P_run_eq, bk_175_1, pb_175_1]; simp -implicitDefEqProofs (disch := first | omega | decide) only [P_m, pw_aload_n0, pw_aloadN_n0, pw_bipush, bl_43, pw_is1, pw_iv2, pw_zne, bl_45, pw_zeq, pw_nop, kd_123, rf_123_1, rf_123_2, rf_123_3, rf_123_4, rf_123_5, rf_123_7, rf_123_11, rf_123_12, rf_123_15, rf_123_16, rf_123_17, rf_123_26, rf_123_29, rf_123_30, rf_123_32, rf_123_34, rf_123_35, rf_123_45, n_0, n_1, n_43, n_45, nn_lt, nn_nlt, nn_le, nn_nle, nn_ne, nn_sub, nn_mul, nI_add, nn_neg, nm_eq, mn_eq, mm_eq, mn_lt, nm_lt, mn_le, nm_le, nn_sub0, nn_of, implies_true, nn_c, nn_in, nn_div, nat_rem, Nat.reduceMul, Nat.reduceSub, Nat.reduceDiv, Nat.reduceMod, pf_at, pf_ne, mk_s, mk_1, Classical.not_not, b2i_T, b2i_F, false_imp_iff, true_imp_iff, false_and, and_false, p_sw, Int.reduceAdd, Int.zero_add, Option.some.injEq, Value.int.injEq, Value.long.injEq, Value.ref.injEq, exists_eq_left', mk_I, mk_L, mk_wI, mk_wL, rf_s, rf_n, true_and, and_true, and_self, or_true, true_or, or_false, false_or, not_true_eq_false, not_false_eq_true, Option.toList_some, Option.toList_none, List.cons_append, List.nil_append, List.map_nil, List.map_cons, List.sum_nil, List.sum_cons, cat_i, cat_l, cat_r, cat_n, Nat.reduceLeDiff, Nat.reduceAdd, Nat.reduceEqDiff, Nat.zero_le, p_ent, p_u_ne, p_u_at, reduceIte, if_true, if_false, P_ce (sp_167), P_ce s1, P_ce s2]
      exact nx
    · have nx := n0 (m3 c1 c2)
      rw [decide_eq_false c2, bN_f, if_neg c2] at s2
      clear n0 n1
      generalize mst I k l (mI 1) = J at *
      rw [P_run_eq, bk_175_1, pb_175_1]; simp -implicitDefEqProofs (disch := first | omega | decide) only [P_m, ↓P_run_eq _ 175 _ (p_bk 175 3), bk_175_3, pb_175_3, pw_aload_n0, pw_aloadN_n0, pw_bipush, bl_43, pw_is1, pw_iv2, pw_zne, bl_45, pw_zeq, pw_nop, pw_vret, kd_123, rf_123_1, rf_123_2, rf_123_3, rf_123_4, rf_123_5, rf_123_7, rf_123_11, rf_123_12, rf_123_15, rf_123_16, rf_123_17, rf_123_26, rf_123_29, rf_123_30, rf_123_32, rf_123_34, rf_123_35, rf_123_45, n_0, n_1, n_43, n_45, nn_lt, nn_nlt, nn_le, nn_nle, nn_ne, nn_sub, nn_mul, nI_add, nn_neg, nm_eq, mn_eq, mm_eq, mn_lt, nm_lt, mn_le, nm_le, nn_sub0, nn_of, implies_true, nn_c, nn_in, nn_div, nat_rem, Nat.reduceMul, Nat.reduceSub, Nat.reduceDiv, Nat.reduceMod, pf_at, pf_ne, mk_s, mk_1, Classical.not_not, b2i_T, b2i_F, false_imp_iff, true_imp_iff, false_and, and_false, p_sw, Int.reduceAdd, Int.zero_add, Option.some.injEq, Value.int.injEq, Value.long.injEq, Value.ref.injEq, exists_eq_left', mk_I, mk_L, mk_wI, mk_wL, rf_s, rf_n, true_and, and_true, and_self, or_true, true_or, or_false, false_or, not_true_eq_false, not_false_eq_true, Option.toList_some, Option.toList_none, List.cons_append, List.nil_append, List.map_nil, List.map_cons, List.sum_nil, List.sum_cons, cat_i, cat_l, cat_r, cat_n, Nat.reduceLeDiff, Nat.reduceAdd, Nat.reduceEqDiff, Nat.zero_le, p_ent, p_u_ne, p_u_at, reduceIte, if_true, if_false, P_ce (sp_167), P_ce s1, P_ce s2]
      exact nx
/-- a term from its first sign on -/
theorem lp_176 {x d k0 : Nat} (hM : mF B T N o I) (hC : ∀ k, tC B T k < 356) (hN : ∀ k, N ≤ k → tC B T k = 0) (d8 : d ≤ 8) (hP : ∀ k, k0 ≤ k → k ≤ N → okPm o B T Ls I L R X k) : ∀ M k, N - k ≤ M → k0 ≤ k → k ≤ N → ∀ l f cs r, l ≤ 50 → RS o (tC B T) (tV B T) 2 d k l f cs = some r → P_run (x + 3 * (8 - d) + 3 + 2) 176 (p_bk 176 1) 0 0 [.ref 123, .int (nI d)] [] (p_mk Ls (mst I k l (mI 1)) L R X) (fun v h' => v = none ∧ ∃ J, mR B T I J r ∧ h' = p_mk Ls J L R X) := by
  have h4 := hM.2.1
  have T4 := hM.2.2.2.2.2.2
  intro M
  induction M with
  | zero =>
    intro k hMk hk0 hk l f cs r l5 hr
    have c0 := hN k (by omega)
    refine bl_176 hM hC hk (fun _ => ⟨rfl, ?_⟩) (fun h => absurd (by rw [c0]; rfl) h)
    rw [RS_2 hN h4, if_pos (by rw [c0]; rfl)] at hr
    cases hr
    exact ⟨_, rfl, rfl⟩
  | succ M ih =>
    intro k hMk hk0 hk l f cs r l5 hr
    rw [RS_2 hN h4] at hr
    refine bl_176 hM hC hk (fun h => ⟨rfl, ?_⟩) (fun h => ?_)
    · rw [if_pos h] at hr
      cases hr
      exact ⟨_, rfl, rfl⟩
    · rw [if_neg h] at hr
      have kN := kN_of hN (show ¬ tC B T k = 0 from fun hz => h (by rw [hz]; rfl))
      obtain ⟨q, hq⟩ := RS_t (o := o) (V := tV B T) (md := 0) (d := d) (l := l) (f := f) (cs := []) hN h4 (show k + 1 ≤ N by omega) (by omega)
      obtain ⟨J, o1, s177⟩ := hP (k + 1) (by omega) (by omega) x d l f [] q d8 l5 hq
      rw [hq] at hr
      match q, hq, o1, hr with
      | .error e, hq, o1, hr =>
        cases hr
        obtain ⟨k', l', rfl⟩ := o1
        have te := tS_b (B := B) (T := T) e
        have nx := er_176b (d := x + 3 * (8 - d) + 3) (Ls := Ls) (I := I) (L := L) (R := R) (X := X) (k := k') (l := l') (p := tS B T e) (x := nI d) (by omega)
        have nx := p_run_Q (Q2 := fun v h' => v = none ∧ ∃ J, mR B T I J (.error e : Except Nat (Nat × Nat × tDS × tCd)) ∧ h' = p_mk Ls J L R X) nx (by
          rintro _ _ ⟨rfl, rfl⟩
          exact ⟨rfl, _, ⟨k', l', rfl⟩, rfl⟩)
        clear ih
        replace nx : P_run (x + 3 * (8 - d) + 3 + 2) 176 (p_bk 176 1) 0 0 [.ref 123, .int (nI d)] [] (p_mk Ls (mst I k' l' (nI (tS B T e))) L R X) _ := nx
        generalize mst I k' l' (nI (tS B T e)) = J1 at *
        generalize mst I (k + 1) l (mI 1) = J at *
        rw [P_run_eq, bk_176_2, pb_176_2]; simp -implicitDefEqProofs (disch := first | omega | decide) only [P_m, pw_aload_n0, pw_aloadN_n0, pw_iload_n1, pw_iv2, pw_goto, kd_123, rf_123_1, rf_123_2, rf_123_3, rf_123_4, rf_123_5, rf_123_7, rf_123_11, rf_123_12, rf_123_15, rf_123_16, rf_123_17, rf_123_26, rf_123_29, rf_123_30, rf_123_32, rf_123_34, rf_123_35, rf_123_45, n_0, n_1, nn_lt, nn_nlt, nn_le, nn_nle, nn_ne, nn_sub, nn_mul, nI_add, nn_neg, nm_eq, mn_eq, mm_eq, mn_lt, nm_lt, mn_le, nm_le, nn_sub0, nn_of, implies_true, nn_c, nn_in, nn_div, nat_rem, Nat.reduceMul, Nat.reduceSub, Nat.reduceDiv, Nat.reduceMod, pf_at, pf_ne, mk_s, mk_1, Classical.not_not, b2i_T, b2i_F, false_imp_iff, true_imp_iff, false_and, and_false, p_sw, Int.reduceAdd, Int.zero_add, Option.some.injEq, Value.int.injEq, Value.long.injEq, Value.ref.injEq, exists_eq_left', mk_I, mk_L, mk_wI, mk_wL, rf_s, rf_n, true_and, and_true, and_self, or_true, true_or, or_false, false_or, not_true_eq_false, not_false_eq_true, Option.toList_some, Option.toList_none, List.cons_append, List.nil_append, List.map_nil, List.map_cons, List.sum_nil, List.sum_cons, cat_i, cat_l, cat_r, cat_n, Nat.reduceLeDiff, Nat.reduceAdd, Nat.reduceEqDiff, Nat.zero_le, p_ent, p_u_ne, p_u_at, reduceIte, if_true, if_false, P_ce s177]
        exact nx
      | .ok q, hq, o1, hr =>
        rw [bnd_ok] at hr
        obtain ⟨q1, q2, -⟩ := RS_pr hN hq (show k + 1 ≤ N by omega)
        have q2 := q2 (by omega)
        have o1 : J = mst I q.1 q.2.1 (mI 1) := o1
        subst o1
        have nx := ih q.1 (by omega) (by omega) q1 q.2.1 _ _ r (RS_l hq l5) hr
        clear ih hr
        generalize mst I q.1 q.2.1 (mI 1) = J1 at *
        generalize mst I (k + 1) l (mI 1) = J at *
        rw [P_run_eq, bk_176_2, pb_176_2]; simp -implicitDefEqProofs (disch := first | omega | decide) only [P_m, pw_aload_n0, pw_aloadN_n0, pw_iload_n1, pw_iv2, pw_goto, kd_123, rf_123_1, rf_123_2, rf_123_3, rf_123_4, rf_123_5, rf_123_7, rf_123_11, rf_123_12, rf_123_15, rf_123_16, rf_123_17, rf_123_26, rf_123_29, rf_123_30, rf_123_32, rf_123_34, rf_123_35, rf_123_45, n_0, n_1, nn_lt, nn_nlt, nn_le, nn_nle, nn_ne, nn_sub, nn_mul, nI_add, nn_neg, nm_eq, mn_eq, mm_eq, mn_lt, nm_lt, mn_le, nm_le, nn_sub0, nn_of, implies_true, nn_c, nn_in, nn_div, nat_rem, Nat.reduceMul, Nat.reduceSub, Nat.reduceDiv, Nat.reduceMod, pf_at, pf_ne, mk_s, mk_1, Classical.not_not, b2i_T, b2i_F, false_imp_iff, true_imp_iff, false_and, and_false, p_sw, Int.reduceAdd, Int.zero_add, Option.some.injEq, Value.int.injEq, Value.long.injEq, Value.ref.injEq, exists_eq_left', mk_I, mk_L, mk_wI, mk_wL, rf_s, rf_n, true_and, and_true, and_self, or_true, true_or, or_false, false_or, not_true_eq_false, not_false_eq_true, Option.toList_some, Option.toList_none, List.cons_append, List.nil_append, List.map_nil, List.map_cons, List.sum_nil, List.sum_cons, cat_i, cat_l, cat_r, cat_n, Nat.reduceLeDiff, Nat.reduceAdd, Nat.reduceEqDiff, Nat.zero_le, p_ent, p_u_ne, p_u_at, reduceIte, if_true, if_false, P_ce s177]
        exact nx
/-- a term -/
theorem term_m {x d k0 : Nat} (hM : mF B T N o I) (hC : ∀ k, tC B T k < 356) (hN : ∀ k, N ≤ k → tC B T k = 0) (d8 : d ≤ 8) (hP : ∀ k, k0 ≤ k → k ≤ N → okPm o B T Ls I L R X k) {k l : Nat} {f : tDS} {r : Except Nat (Nat × Nat × tDS × tCd)} (hk0 : k0 ≤ k) (hk : k ≤ N) (l5 : l ≤ 50) (hr : (bnd (RS o (tC B T) (tV B T) 0 d k l f []) fun r => RS o (tC B T) (tV B T) 2 d r.1 r.2.1 r.2.2.1 r.2.2.2) = some r) : ∃ J, mR B T I J r ∧ P_m (x + 3 * (8 - d) + 5) 176 [.ref 123, .int (nI d)] (p_mk Ls (mst I k l (mI 1)) L R X) (fun v h' => v = none ∧ h' = p_mk Ls J L R X) := by
  have h4 := hM.2.1
  have T4 := hM.2.2.2.2.2.2
  obtain ⟨q, hq⟩ := RS_t (o := o) (V := tV B T) (md := 0) (d := d) (l := l) (f := f) (cs := []) hN h4 hk (by omega)
  obtain ⟨J, o1, s177⟩ := hP k hk0 hk x d l f [] q d8 l5 hq
  rw [hq] at hr
  match q, hq, o1, hr with
  | .error e, hq, o1, hr =>
    cases hr
    obtain ⟨k', l', rfl⟩ := o1
    have te := tS_b (B := B) (T := T) e
    have nx := er_176b (d := x + 3 * (8 - d) + 3) (Ls := Ls) (I := I) (L := L) (R := R) (X := X) (k := k') (l := l') (p := tS B T e) (x := nI d) (by omega)
    refine ⟨_, ⟨k', l', rfl⟩, ?_⟩
    generalize mst I k' l' (nI (tS B T e)) = J1 at *
    generalize mst I k l (mI 1) = J at *
    simp -implicitDefEqProofs (disch := first | omega | decide) only [P_m, ↓P_run_eq _ 176 _ (p_bk 176 0), bk_176_0, pb_176_0, pw_aload_n0, pw_aloadN_n0, pw_iload_n1, pw_iv2, pw_nop, kd_123, rf_123_1, rf_123_2, rf_123_3, rf_123_4, rf_123_5, rf_123_7, rf_123_11, rf_123_12, rf_123_15, rf_123_16, rf_123_17, rf_123_26, rf_123_29, rf_123_30, rf_123_32, rf_123_34, rf_123_35, rf_123_45, n_0, n_1, nn_lt, nn_nlt, nn_le, nn_nle, nn_ne, nn_sub, nn_mul, nI_add, nn_neg, nm_eq, mn_eq, mm_eq, mn_lt, nm_lt, mn_le, nm_le, nn_sub0, nn_of, implies_true, nn_c, nn_in, nn_div, nat_rem, Nat.reduceMul, Nat.reduceSub, Nat.reduceDiv, Nat.reduceMod, pf_at, pf_ne, mk_s, mk_1, Classical.not_not, b2i_T, b2i_F, false_imp_iff, true_imp_iff, false_and, and_false, p_sw, Int.reduceAdd, Int.zero_add, Option.some.injEq, Value.int.injEq, Value.long.injEq, Value.ref.injEq, exists_eq_left', mk_I, mk_L, mk_wI, mk_wL, rf_s, rf_n, true_and, and_true, and_self, or_true, true_or, or_false, false_or, not_true_eq_false, not_false_eq_true, Option.toList_some, Option.toList_none, List.cons_append, List.nil_append, List.map_nil, List.map_cons, List.sum_nil, List.sum_cons, cat_i, cat_l, cat_r, cat_n, Nat.reduceLeDiff, Nat.reduceAdd, Nat.reduceEqDiff, Nat.zero_le, p_ent, p_u_ne, p_u_at, reduceIte, if_true, if_false, P_ce s177]
    exact nx
  | .ok q, hq, o1, hr =>
    rw [bnd_ok] at hr
    obtain ⟨q1, q2, -⟩ := RS_pr hN hq hk
    have q2 := q2 (by omega)
    have o1 : J = mst I q.1 q.2.1 (mI 1) := o1
    subst o1
    have nx := lp_176 (x := x) (Ls := Ls) (L := L) (R := R) (X := X) hM hC hN d8 hP (N - q.1) q.1 (Nat.le_refl _) (by omega) q1 q.2.1 _ _ r (RS_l hq l5) hr
    have all : P_m (x + 3 * (8 - d) + 5) 176 [.ref 123, .int (nI d)] (p_mk Ls (mst I k l (mI 1)) L R X) (fun v h' => v = none ∧ ∃ J, mR B T I J r ∧ h' = p_mk Ls J L R X) := by
      clear hr
      generalize mst I q.1 q.2.1 (mI 1) = J1 at *
      generalize mst I k l (mI 1) = J at *
      simp -implicitDefEqProofs (disch := first | omega | decide) only [P_m, ↓P_run_eq _ 176 _ (p_bk 176 0), bk_176_0, pb_176_0, pw_aload_n0, pw_aloadN_n0, pw_iload_n1, pw_iv2, pw_nop, kd_123, rf_123_1, rf_123_2, rf_123_3, rf_123_4, rf_123_5, rf_123_7, rf_123_11, rf_123_12, rf_123_15, rf_123_16, rf_123_17, rf_123_26, rf_123_29, rf_123_30, rf_123_32, rf_123_34, rf_123_35, rf_123_45, n_0, n_1, nn_lt, nn_nlt, nn_le, nn_nle, nn_ne, nn_sub, nn_mul, nI_add, nn_neg, nm_eq, mn_eq, mm_eq, mn_lt, nm_lt, mn_le, nm_le, nn_sub0, nn_of, implies_true, nn_c, nn_in, nn_div, nat_rem, Nat.reduceMul, Nat.reduceSub, Nat.reduceDiv, Nat.reduceMod, pf_at, pf_ne, mk_s, mk_1, Classical.not_not, b2i_T, b2i_F, false_imp_iff, true_imp_iff, false_and, and_false, p_sw, Int.reduceAdd, Int.zero_add, Option.some.injEq, Value.int.injEq, Value.long.injEq, Value.ref.injEq, exists_eq_left', mk_I, mk_L, mk_wI, mk_wL, rf_s, rf_n, true_and, and_true, and_self, or_true, true_or, or_false, false_or, not_true_eq_false, not_false_eq_true, Option.toList_some, Option.toList_none, List.cons_append, List.nil_append, List.map_nil, List.map_cons, List.sum_nil, List.sum_cons, cat_i, cat_l, cat_r, cat_n, Nat.reduceLeDiff, Nat.reduceAdd, Nat.reduceEqDiff, Nat.zero_le, p_ent, p_u_ne, p_u_at, reduceIte, if_true, if_false, P_ce s177]
      exact nx
    obtain ⟨v, g', ⟨rfl, J', f1, rfl⟩, s⟩ := P_mex all
    exact ⟨J', f1, s⟩
theorem lp_175 {x d k0 : Nat} (hM : mF B T N o I) (hC : ∀ k, tC B T k < 356) (hN : ∀ k, N ≤ k → tC B T k = 0) (d8 : d ≤ 8) (hP : ∀ k, k0 ≤ k → k ≤ N → okPm o B T Ls I L R X k) : ∀ M k, N - k ≤ M → k0 ≤ k → k ≤ N → ∀ l f cs r, l ≤ 50 → RS o (tC B T) (tV B T) 3 d k l f cs = some r → P_run (x + 3 * (8 - d) + 4 + 2) 175 (p_bk 175 1) 0 0 [.ref 123, .int (nI d)] [] (p_mk Ls (mst I k l (mI 1)) L R X) (fun v h' => v = none ∧ ∃ J, mR B T I J r ∧ h' = p_mk Ls J L R X) := by
  have h4 := hM.2.1
  have T4 := hM.2.2.2.2.2.2
  intro M
  induction M with
  | zero =>
    intro k hMk hk0 hk l f cs r l5 hr
    have c0 := hN k (by omega)
    refine bl_175 hM hC hk (fun _ => ⟨rfl, ?_⟩) (fun h => absurd (by rw [c0]; rfl) h)
    rw [RS_3 hN h4, if_pos (by rw [c0]; rfl)] at hr
    cases hr
    exact ⟨_, rfl, rfl⟩
  | succ M ih =>
    intro k hMk hk0 hk l f cs r l5 hr
    rw [RS_3 hN h4] at hr
    refine bl_175 hM hC hk (fun h => ⟨rfl, ?_⟩) (fun h => ?_)
    · rw [if_pos h] at hr
      cases hr
      exact ⟨_, rfl, rfl⟩
    · rw [if_neg h, ← bnd_as] at hr
      have kN := kN_of hN (show ¬ tC B T k = 0 from fun hz => h (by rw [hz]; rfl))
      have ht : okO (bnd (RS o (tC B T) (tV B T) 0 d (k + 1) l f []) fun r => RS o (tC B T) (tV B T) 2 d r.1 r.2.1 r.2.2.1 r.2.2.2) := bnd_t (RS_t hN h4 (by omega) (by omega)) (fun a ha => RS_t hN h4 (RS_pr hN ha (by omega)).1 (by omega))
      obtain ⟨q, hq⟩ := ht
      obtain ⟨J, o1, s176⟩ := term_m (x := x) (Ls := Ls) (L := L) (R := R) (X := X) hM hC hN d8 hP (show k0 ≤ k + 1 by omega) (by omega) l5 hq
      rw [hq] at hr
      match q, hq, o1, hr with
      | .error e, hq, o1, hr =>
        cases hr
        obtain ⟨k', l', rfl⟩ := o1
        have te := tS_b (B := B) (T := T) e
        have nx := er_175b (d := x + 3 * (8 - d) + 4) (Ls := Ls) (I := I) (L := L) (R := R) (X := X) (k := k') (l := l') (p := tS B T e) (x := nI d) (by omega)
        have nx := p_run_Q (Q2 := fun v h' => v = none ∧ ∃ J, mR B T I J (.error e : Except Nat (Nat × Nat × tDS × tCd)) ∧ h' = p_mk Ls J L R X) nx (by
          rintro _ _ ⟨rfl, rfl⟩
          exact ⟨rfl, _, ⟨k', l', rfl⟩, rfl⟩)
        clear ih
        replace nx : P_run (x + 3 * (8 - d) + 4 + 2) 175 (p_bk 175 1) 0 0 [.ref 123, .int (nI d)] [] (p_mk Ls (mst I k' l' (nI (tS B T e))) L R X) _ := nx
        generalize mst I k' l' (nI (tS B T e)) = J1 at *
        generalize mst I (k + 1) l (mI 1) = J at *
        rw [P_run_eq, bk_175_2, pb_175_2]; simp -implicitDefEqProofs (disch := first | omega | decide) only [P_m, pw_aload_n0, pw_aloadN_n0, pw_iload_n1, pw_iv2, pw_goto, kd_123, rf_123_1, rf_123_2, rf_123_3, rf_123_4, rf_123_5, rf_123_7, rf_123_11, rf_123_12, rf_123_15, rf_123_16, rf_123_17, rf_123_26, rf_123_29, rf_123_30, rf_123_32, rf_123_34, rf_123_35, rf_123_45, n_0, n_1, nn_lt, nn_nlt, nn_le, nn_nle, nn_ne, nn_sub, nn_mul, nI_add, nn_neg, nm_eq, mn_eq, mm_eq, mn_lt, nm_lt, mn_le, nm_le, nn_sub0, nn_of, implies_true, nn_c, nn_in, nn_div, nat_rem, Nat.reduceMul, Nat.reduceSub, Nat.reduceDiv, Nat.reduceMod, pf_at, pf_ne, mk_s, mk_1, Classical.not_not, b2i_T, b2i_F, false_imp_iff, true_imp_iff, false_and, and_false, p_sw, Int.reduceAdd, Int.zero_add, Option.some.injEq, Value.int.injEq, Value.long.injEq, Value.ref.injEq, exists_eq_left', mk_I, mk_L, mk_wI, mk_wL, rf_s, rf_n, true_and, and_true, and_self, or_true, true_or, or_false, false_or, not_true_eq_false, not_false_eq_true, Option.toList_some, Option.toList_none, List.cons_append, List.nil_append, List.map_nil, List.map_cons, List.sum_nil, List.sum_cons, cat_i, cat_l, cat_r, cat_n, Nat.reduceLeDiff, Nat.reduceAdd, Nat.reduceEqDiff, Nat.zero_le, p_ent, p_u_ne, p_u_at, reduceIte, if_true, if_false, P_ce s176]
        exact nx
      | .ok q, hq, o1, hr =>
        rw [bnd_ok] at hr
        obtain ⟨a, h1, h2⟩ := bnd_iok hq
        obtain ⟨a1, a2, -⟩ := RS_pr hN h1 (show k + 1 ≤ N by omega)
        obtain ⟨b1, -, b2⟩ := RS_pr hN h2 a1
        have a2 := a2 (by omega)
        have b2 := b2 (by omega)
        have o1 : J = mst I q.1 q.2.1 (mI 1) := o1
        subst o1
        have nx := ih q.1 (by omega) (by omega) b1 q.2.1 _ _ r (RS_l h2 (RS_l h1 l5)) hr
        clear ih hr
        generalize mst I q.1 q.2.1 (mI 1) = J1 at *
        generalize mst I (k + 1) l (mI 1) = J at *
        rw [P_run_eq, bk_175_2, pb_175_2]; simp -implicitDefEqProofs (disch := first | omega | decide) only [P_m, pw_aload_n0, pw_aloadN_n0, pw_iload_n1, pw_iv2, pw_goto, kd_123, rf_123_1, rf_123_2, rf_123_3, rf_123_4, rf_123_5, rf_123_7, rf_123_11, rf_123_12, rf_123_15, rf_123_16, rf_123_17, rf_123_26, rf_123_29, rf_123_30, rf_123_32, rf_123_34, rf_123_35, rf_123_45, n_0, n_1, nn_lt, nn_nlt, nn_le, nn_nle, nn_ne, nn_sub, nn_mul, nI_add, nn_neg, nm_eq, mn_eq, mm_eq, mn_lt, nm_lt, mn_le, nm_le, nn_sub0, nn_of, implies_true, nn_c, nn_in, nn_div, nat_rem, Nat.reduceMul, Nat.reduceSub, Nat.reduceDiv, Nat.reduceMod, pf_at, pf_ne, mk_s, mk_1, Classical.not_not, b2i_T, b2i_F, false_imp_iff, true_imp_iff, false_and, and_false, p_sw, Int.reduceAdd, Int.zero_add, Option.some.injEq, Value.int.injEq, Value.long.injEq, Value.ref.injEq, exists_eq_left', mk_I, mk_L, mk_wI, mk_wL, rf_s, rf_n, true_and, and_true, and_self, or_true, true_or, or_false, false_or, not_true_eq_false, not_false_eq_true, Option.toList_some, Option.toList_none, List.cons_append, List.nil_append, List.map_nil, List.map_cons, List.sum_nil, List.sum_cons, cat_i, cat_l, cat_r, cat_n, Nat.reduceLeDiff, Nat.reduceAdd, Nat.reduceEqDiff, Nat.zero_le, p_ent, p_u_ne, p_u_at, reduceIte, if_true, if_false, P_ce s176]
        exact nx
theorem summ_s {k0 : Nat} (hM : mF B T N o I) (hC : ∀ k, tC B T k < 356) (hN : ∀ k, N ≤ k → tC B T k = 0) (hk : k0 ≤ N) (hP : ∀ k, k0 ≤ k → k ≤ N → okPm o B T Ls I L R X k) : okSm o B T Ls I L R X k0 := by
  intro x d l f cs r d8 l5 hr
  have h4 := hM.2.1
  have T4 := hM.2.2.2.2.2.2
  rw [RS_1 hN h4 hk, ← bnd_as] at hr
  have ht : okO (bnd (RS o (tC B T) (tV B T) 0 d k0 l f []) fun r => RS o (tC B T) (tV B T) 2 d r.1 r.2.1 r.2.2.1 r.2.2.2) := bnd_t (RS_t hN h4 hk (by omega)) (fun a ha => RS_t hN h4 (RS_pr hN ha hk).1 (by omega))
  obtain ⟨q, hq⟩ := ht
  obtain ⟨J, o1, s176⟩ := term_m (x := x) (Ls := Ls) (L := L) (R := R) (X := X) hM hC hN d8 hP (Nat.le_refl k0) hk l5 hq
  rw [hq] at hr
  match q, hq, o1, hr with
  | .error e, hq, o1, hr =>
    cases hr
    obtain ⟨k', l', rfl⟩ := o1
    have te := tS_b (B := B) (T := T) e
    have nx := er_175b (d := x + 3 * (8 - d) + 4) (Ls := Ls) (I := I) (L := L) (R := R) (X := X) (k := k') (l := l') (p := tS B T e) (x := nI d) (by omega)
    refine ⟨_, ⟨k', l', rfl⟩, ?_⟩
    generalize mst I k' l' (nI (tS B T e)) = J1 at *
    generalize mst I k0 l (mI 1) = J at *
    simp -implicitDefEqProofs (disch := first | omega | decide) only [P_m, ↓P_run_eq _ 175 _ (p_bk 175 0), bk_175_0, pb_175_0, pw_aload_n0, pw_aloadN_n0, pw_iload_n1, pw_iv2, pw_nop, kd_123, rf_123_1, rf_123_2, rf_123_3, rf_123_4, rf_123_5, rf_123_7, rf_123_11, rf_123_12, rf_123_15, rf_123_16, rf_123_17, rf_123_26, rf_123_29, rf_123_30, rf_123_32, rf_123_34, rf_123_35, rf_123_45, n_0, n_1, nn_lt, nn_nlt, nn_le, nn_nle, nn_ne, nn_sub, nn_mul, nI_add, nn_neg, nm_eq, mn_eq, mm_eq, mn_lt, nm_lt, mn_le, nm_le, nn_sub0, nn_of, implies_true, nn_c, nn_in, nn_div, nat_rem, Nat.reduceMul, Nat.reduceSub, Nat.reduceDiv, Nat.reduceMod, pf_at, pf_ne, mk_s, mk_1, Classical.not_not, b2i_T, b2i_F, false_imp_iff, true_imp_iff, false_and, and_false, p_sw, Int.reduceAdd, Int.zero_add, Option.some.injEq, Value.int.injEq, Value.long.injEq, Value.ref.injEq, exists_eq_left', mk_I, mk_L, mk_wI, mk_wL, rf_s, rf_n, true_and, and_true, and_self, or_true, true_or, or_false, false_or, not_true_eq_false, not_false_eq_true, Option.toList_some, Option.toList_none, List.cons_append, List.nil_append, List.map_nil, List.map_cons, List.sum_nil, List.sum_cons, cat_i, cat_l, cat_r, cat_n, Nat.reduceLeDiff, Nat.reduceAdd, Nat.reduceEqDiff, Nat.zero_le, p_ent, p_u_ne, p_u_at, reduceIte, if_true, if_false, P_ce s176]
    exact nx
  | .ok q, hq, o1, hr =>
    rw [bnd_ok] at hr
    obtain ⟨a, h1, h2⟩ := bnd_iok hq
    obtain ⟨a1, a2, -⟩ := RS_pr hN h1 hk
    obtain ⟨b1, -, b2⟩ := RS_pr hN h2 a1
    have a2 := a2 (by omega)
    have b2 := b2 (by omega)
    have o1 : J = mst I q.1 q.2.1 (mI 1) := o1
    subst o1
    have nx := lp_175 (x := x) (Ls := Ls) (L := L) (R := R) (X := X) hM hC hN d8 hP (N - q.1) q.1 (Nat.le_refl _) (by omega) b1 q.2.1 _ _ r (RS_l h2 (RS_l h1 l5)) hr
    have all : P_m (x + 3 * (8 - d) + 6) 175 [.ref 123, .int (nI d)] (p_mk Ls (mst I k0 l (mI 1)) L R X) (fun v h' => v = none ∧ ∃ J, mR B T I J r ∧ h' = p_mk Ls J L R X) := by
      clear hr
      generalize mst I q.1 q.2.1 (mI 1) = J1 at *
      generalize mst I k0 l (mI 1) = J at *
      simp -implicitDefEqProofs (disch := first | omega | decide) only [P_m, ↓P_run_eq _ 175 _ (p_bk 175 0), bk_175_0, pb_175_0, pw_aload_n0, pw_aloadN_n0, pw_iload_n1, pw_iv2, pw_nop, kd_123, rf_123_1, rf_123_2, rf_123_3, rf_123_4, rf_123_5, rf_123_7, rf_123_11, rf_123_12, rf_123_15, rf_123_16, rf_123_17, rf_123_26, rf_123_29, rf_123_30, rf_123_32, rf_123_34, rf_123_35, rf_123_45, n_0, n_1, nn_lt, nn_nlt, nn_le, nn_nle, nn_ne, nn_sub, nn_mul, nI_add, nn_neg, nm_eq, mn_eq, mm_eq, mn_lt, nm_lt, mn_le, nm_le, nn_sub0, nn_of, implies_true, nn_c, nn_in, nn_div, nat_rem, Nat.reduceMul, Nat.reduceSub, Nat.reduceDiv, Nat.reduceMod, pf_at, pf_ne, mk_s, mk_1, Classical.not_not, b2i_T, b2i_F, false_imp_iff, true_imp_iff, false_and, and_false, p_sw, Int.reduceAdd, Int.zero_add, Option.some.injEq, Value.int.injEq, Value.long.injEq, Value.ref.injEq, exists_eq_left', mk_I, mk_L, mk_wI, mk_wL, rf_s, rf_n, true_and, and_true, and_self, or_true, true_or, or_false, false_or, not_true_eq_false, not_false_eq_true, Option.toList_some, Option.toList_none, List.cons_append, List.nil_append, List.map_nil, List.map_cons, List.sum_nil, List.sum_cons, cat_i, cat_l, cat_r, cat_n, Nat.reduceLeDiff, Nat.reduceAdd, Nat.reduceEqDiff, Nat.zero_le, p_ent, p_u_ne, p_u_at, reduceIte, if_true, if_false, P_ce s176]
      exact nx
    obtain ⟨v, g', ⟨rfl, J', f1, rfl⟩, s⟩ := P_mex all
    exact ⟨J', f1, s⟩
/-- the reference reads every sum as the language says -/
theorem sums_m (hM : mF B T N o I) (hC : ∀ k, tC B T k < 356) (hN : ∀ k, N ≤ k → tC B T k = 0) : ∀ k, k ≤ N → okSm o B T Ls I L R X k := by
  have main : ∀ M k, k ≤ N → N - k ≤ M → okPm o B T Ls I L R X k ∧ okSm o B T Ls I L R X k := by
    intro M
    induction M with
    | zero =>
      intro k hk hMk
      have hp : okPm o B T Ls I L R X k := partm_s hM hC hN hk (fun h => absurd h (by omega))
      refine ⟨hp, summ_s hM hC hN hk (fun k' h1 h2 => ?_)⟩
      have : k' = k := by omega
      subst this; exact hp
    | succ M ih =>
      intro k hk hMk
      have hp : okPm o B T Ls I L R X k := partm_s hM hC hN hk (fun h => (ih (k + 1) (by omega) (by omega)).2)
      refine ⟨hp, summ_s hM hC hN hk (fun k' h1 h2 => ?_)⟩
      by_cases e : k' = k
      · subst e; exact hp
      · exact (ih k' h2 (by omega)).1
  exact fun k hk => (main (N - k) k hk (Nat.le_refl _)).2
end RX1
