section RC2
variable {Ls : Nat} {I : Nat → Nat → Int32} {L : Nat → Nat → Int64} {R : Nat → Nat → Option Nat} {X : List pKd} {h : pHp} {B : Nat → Nat} {T N : Nat} {o : Bool}
/-- an order's times, and its test -/
theorem tm_170 {x k l c kd : Nat} {s : tCd} {f : tDS} {q : Except Nat (Nat × Nat × tCl)} (hM : mF B T N true I) (hC : ∀ k, tC B T k < 356) (hN : ∀ k, N ≤ k → tC B T k = 0) (hk : k ≤ N) (l5 : l ≤ 50) (hq : (bnd (pTm true (tC B T) (tV B T) k) fun t => bnd (RIf true (tC B T) (tV B T) t.1 l c) fun b => some (.ok (b.1, b.2.1, kd, t.2, s, b.2.2.2, f, b.2.2.1))) = some q) : P_run (x + 34) 170 (p_bk 170 3) 0 0 [.ref 123] [] (p_mk Ls (mst I k l (mI 1)) L R X) (fun v h' => v = none ∧ ∃ J, mR B T I J q ∧ h' = p_mk Ls J L R X) := by
  have h4 := hM.2.1
  have T4 := hM.2.2.2.2.2.2
  have z1 := ta_y (d := x + 32) (Ls := Ls) (L := L) (R := R) (X := X) (l := l) (c := 23) hM hk (by omega) (hC k)
  have tail : ∀ k' t, k' ≤ N → (bnd (RIf true (tC B T) (tV B T) k' l c) fun b => some (.ok (b.1, b.2.1, kd, t, s, b.2.2.2, f, b.2.2.1))) = some q → P_run (x + 34) 170 (p_bk 170 4) 0 0 [.ref 123] [] (p_mk Ls (mst I k' l (mI 1)) L R X) (fun v h' => v = none ∧ ∃ J, mR B T I J q ∧ h' = p_mk Ls J L R X) := by
    intro k' t hk' hq2
    obtain ⟨b, hb⟩ := RIf_t (o := true) (V := tV B T) (l := l) (c := c) hN h4 hk'
    rw [hb] at hq2
    refine p_run_Q (if_169 (x := x) (Ls := Ls) (L := L) (R := R) (X := X) hM hC hN hk' l5 hb).2 ?_
    rintro _ _ ⟨rfl, J, hJ, rfl⟩
    exact ⟨rfl, J, mR_if hq2 hJ, rfl⟩
  unfold pTm at hq
  by_cases c23 : tC B T k = 23
  · have kN := kN_of hN (show ¬ tC B T k = 0 by omega)
    rw [decide_eq_true c23, bN_t, if_pos c23] at z1
    rw [if_pos ⟨rfl, c23⟩] at hq
    have z2 := nu_y (d := x + 31) (Ls := Ls) (L := L) (R := R) (X := X) (k := k + 1) (l := l) (lo := 1) (hi := 20) hM (by omega) (by omega) (by omega) (hC _)
    by_cases cc : tC B T (k + 1) = 50 ∧ 1 ≤ tV B T (k + 1) ∧ tV B T (k + 1) ≤ 20
    · have k1N := kN_of hN (show ¬ tC B T (k + 1) = 0 by omega)
      rw [if_pos cc] at hq z2
      rw [bnd_ok] at hq
      have nx := tail (k + 1 + 1) _ (by omega) hq
      clear tail hq
      generalize mst I (k + 1 + 1) l (mI 1) = J1 at *
      generalize mst I (k + 1) l (mI 1) = J2 at *
      generalize mst I k l (mI 1) = J3 at *
      rw [P_run_eq, bk_170_3, pb_170_3]; simp -implicitDefEqProofs (disch := first | omega | decide) only [P_m, pw_aload_n0, pw_aloadN_n0, pw_bipush, bl_23, pw_iv2, pw_zeq, pw_iconst, il_1, bl_20, pw_iv3, pw_nop, kd_123, rf_123_1, rf_123_2, rf_123_3, rf_123_4, rf_123_5, rf_123_7, rf_123_11, rf_123_12, rf_123_15, rf_123_16, rf_123_17, rf_123_26, rf_123_29, rf_123_30, rf_123_32, rf_123_34, rf_123_35, rf_123_45, n_0, n_1, n_20, n_23, nn_lt, nn_nlt, nn_le, nn_nle, nn_ne, nn_sub, nn_mul, nI_add, nn_neg, nm_eq, mn_eq, mm_eq, mn_lt, nm_lt, mn_le, nm_le, nn_sub0, nn_of, implies_true, nn_c, nn_in, nn_div, nat_rem, Nat.reduceMul, Nat.reduceSub, Nat.reduceDiv, Nat.reduceMod, pf_at, pf_ne, mk_s, mk_1, Classical.not_not, b2i_T, b2i_F, false_imp_iff, true_imp_iff, false_and, and_false, p_sw, Int.reduceAdd, Int.zero_add, Option.some.injEq, Value.int.injEq, Value.long.injEq, Value.ref.injEq, exists_eq_left', mk_I, mk_L, mk_wI, mk_wL, rf_s, rf_n, true_and, and_true, and_self, or_true, true_or, or_false, false_or, not_true_eq_false, not_false_eq_true, Option.toList_some, Option.toList_none, List.cons_append, List.nil_append, List.map_nil, List.map_cons, List.sum_nil, List.sum_cons, cat_i, cat_l, cat_r, cat_n, Nat.reduceLeDiff, Nat.reduceAdd, Nat.reduceEqDiff, Nat.zero_le, p_ent, p_u_ne, p_u_at, reduceIte, if_true, if_false, P_ce z1, P_ce z2]
      exact nx
    · rw [if_neg cc] at hq z2
      cases hq
      have tb := tS_b (B := B) (T := T) (k + 1)
      have nx := (if_er (x := x) (Ls := Ls) (I := I) (L := L) (R := R) (X := X) (k := k + 1) (l := l) (p := tS B T (k + 1)) (by omega)).2.1
      have nx := p_run_Q (Q2 := fun v h' => v = none ∧ ∃ J, mR B T I J (.error (k + 1) : Except Nat (Nat × Nat × tCl)) ∧ h' = p_mk Ls J L R X) nx (by
        rintro _ _ ⟨rfl, rfl⟩
        exact ⟨rfl, _, ⟨k + 1, l, rfl⟩, rfl⟩)
      clear tail
      generalize mst I (k + 1) l (nI (tS B T (k + 1))) = J1 at *
      generalize mst I (k + 1) l (mI 1) = J2 at *
      generalize mst I k l (mI 1) = J3 at *
      rw [P_run_eq, bk_170_3, pb_170_3]; simp -implicitDefEqProofs (disch := first | omega | decide) only [P_m, pw_aload_n0, pw_aloadN_n0, pw_bipush, bl_23, pw_iv2, pw_zeq, pw_iconst, il_1, bl_20, pw_iv3, pw_nop, kd_123, rf_123_1, rf_123_2, rf_123_3, rf_123_4, rf_123_5, rf_123_7, rf_123_11, rf_123_12, rf_123_15, rf_123_16, rf_123_17, rf_123_26, rf_123_29, rf_123_30, rf_123_32, rf_123_34, rf_123_35, rf_123_45, n_0, n_1, n_20, n_23, nn_lt, nn_nlt, nn_le, nn_nle, nn_ne, nn_sub, nn_mul, nI_add, nn_neg, nm_eq, mn_eq, mm_eq, mn_lt, nm_lt, mn_le, nm_le, nn_sub0, nn_of, implies_true, nn_c, nn_in, nn_div, nat_rem, Nat.reduceMul, Nat.reduceSub, Nat.reduceDiv, Nat.reduceMod, pf_at, pf_ne, mk_s, mk_1, Classical.not_not, b2i_T, b2i_F, false_imp_iff, true_imp_iff, false_and, and_false, p_sw, Int.reduceAdd, Int.zero_add, Option.some.injEq, Value.int.injEq, Value.long.injEq, Value.ref.injEq, exists_eq_left', mk_I, mk_L, mk_wI, mk_wL, rf_s, rf_n, true_and, and_true, and_self, or_true, true_or, or_false, false_or, not_true_eq_false, not_false_eq_true, Option.toList_some, Option.toList_none, List.cons_append, List.nil_append, List.map_nil, List.map_cons, List.sum_nil, List.sum_cons, cat_i, cat_l, cat_r, cat_n, Nat.reduceLeDiff, Nat.reduceAdd, Nat.reduceEqDiff, Nat.zero_le, p_ent, p_u_ne, p_u_at, reduceIte, if_true, if_false, P_ce z1, P_ce z2]
      exact nx
  · rw [decide_eq_false c23, bN_f, if_neg c23] at z1
    rw [if_neg (fun h => c23 h.2), bnd_ok] at hq
    have nx := tail k 1 hk hq
    clear tail hq
    generalize mst I k l (mI 1) = J3 at *
    rw [P_run_eq, bk_170_3, pb_170_3]; simp -implicitDefEqProofs (disch := first | omega | decide) only [P_m, pw_aload_n0, pw_aloadN_n0, pw_bipush, bl_23, pw_iv2, pw_zeq, pw_iconst, il_1, bl_20, pw_iv3, pw_nop, kd_123, rf_123_1, rf_123_2, rf_123_3, rf_123_4, rf_123_5, rf_123_7, rf_123_11, rf_123_12, rf_123_15, rf_123_16, rf_123_17, rf_123_26, rf_123_29, rf_123_30, rf_123_32, rf_123_34, rf_123_35, rf_123_45, n_0, n_1, n_20, n_23, nn_lt, nn_nlt, nn_le, nn_nle, nn_ne, nn_sub, nn_mul, nI_add, nn_neg, nm_eq, mn_eq, mm_eq, mn_lt, nm_lt, mn_le, nm_le, nn_sub0, nn_of, implies_true, nn_c, nn_in, nn_div, nat_rem, Nat.reduceMul, Nat.reduceSub, Nat.reduceDiv, Nat.reduceMod, pf_at, pf_ne, mk_s, mk_1, Classical.not_not, b2i_T, b2i_F, false_imp_iff, true_imp_iff, false_and, and_false, p_sw, Int.reduceAdd, Int.zero_add, Option.some.injEq, Value.int.injEq, Value.long.injEq, Value.ref.injEq, exists_eq_left', mk_I, mk_L, mk_wI, mk_wL, rf_s, rf_n, true_and, and_true, and_self, or_true, true_or, or_false, false_or, not_true_eq_false, not_false_eq_true, Option.toList_some, Option.toList_none, List.cons_append, List.nil_append, List.map_nil, List.map_cons, List.sum_nil, List.sum_cons, cat_i, cat_l, cat_r, cat_n, Nat.reduceLeDiff, Nat.reduceAdd, Nat.reduceEqDiff, Nat.zero_le, p_ent, p_u_ne, p_u_at, reduceIte, if_true, if_false, P_ce z1]
    exact nx
theorem pl_170 {x k l c : Nat} {q : Except Nat (Nat × Nat × tCl)} (hM : mF B T N true I) (hC : ∀ k, tC B T k < 356) (hN : ∀ k, N ≤ k → tC B T k = 0) (hk : k ≤ N) (l5 : l ≤ 50) (hq : RC true (tC B T) (tV B T) k l c = some q) : ∃ J, mR B T I J q ∧ P_m (x + 34) 170 [.ref 123] (p_mk Ls (mst I k l (mI 1)) L R X) (fun v h' => v = none ∧ h' = p_mk Ls J L R X) := by
  have h4 := hM.2.1
  have T4 := hM.2.2.2.2.2.2
  rw [RC_e] at hq
  obtain ⟨d1, d2, d3, d4, d5⟩ := hd_t _ (hC k)
  have z1 := ta_y (d := x + 32) (Ls := Ls) (L := L) (R := R) (X := X) (l := l) (c := 19) hM hk (by omega) (hC k)
  have z2 := ta_y (d := x + 32) (Ls := Ls) (L := L) (R := R) (X := X) (l := l) (c := 20) hM hk (by omega) (hC k)
  have z3 := ta_y (d := x + 32) (Ls := Ls) (L := L) (R := R) (X := X) (l := l) (c := 22) hM hk (by omega) (hC k)
  have z4 := mu_y (d := x + 31) (Ls := Ls) (L := L) (R := R) (X := X) (l := l) (c := 21) hM hk (by omega) (hC k)
  have tb := tS_b (B := B) (T := T) k
  have all : P_m (x + 34) 170 [.ref 123] (p_mk Ls (mst I k l (mI 1)) L R X) (fun v h' => v = none ∧ ∃ J, mR B T I J q ∧ h' = p_mk Ls J L R X) := by
    -- with a sum
    have sum : ∀ kd, hdK true (tC B T k) = kd → ¬ kd = 9 → hasS true kd = true → k < N → P_run (x + 34) 170 (p_bk 170 1) 0 0 [.ref 123] [] (p_mk Ls (mst I (k + 1) l (mI 1)) L R X) (fun v h' => v = none ∧ ∃ J, mR B T I J q ∧ h' = p_mk Ls J L R X) := by
      intro kd ek hkd hs1 kN
      rw [ek, if_neg hkd] at hq
      have rs : RSm true (tC B T) (tV B T) (k + 1) l kd = RS true (tC B T) (tV B T) 1 0 (k + 1) l (fun _ => none) [] := by unfold RSm; rw [if_pos hs1]
      rw [rs] at hq
      obtain ⟨s, hs⟩ := RS_t (o := true) (V := tV B T) (md := 1) (d := 0) (l := l) (f := fun _ => none) (cs := []) hN h4 (show k + 1 ≤ N by omega) (by omega)
      obtain ⟨J, o1, s175⟩ := sums_m (Ls := Ls) (L := L) (R := R) (X := X) hM hC hN (k + 1) (by omega) (x + 3) 0 l _ [] s (by omega) l5 hs
      replace s175 : P_m (x + 33) 175 [.ref 123, .int (nI 0)] (p_mk Ls (mst I (k + 1) l (mI 1)) L R X) (fun v h' => v = none ∧ h' = p_mk Ls J L R X) := s175
      rw [hs] at hq
      match s, hs, o1, hq with
      | .error e, hs, o1, hq =>
        cases hq
        obtain ⟨k', l', rfl⟩ := o1
        have te := tS_b (B := B) (T := T) e
        have nx := (if_er (x := x) (Ls := Ls) (I := I) (L := L) (R := R) (X := X) (k := k') (l := l') (p := tS B T e) (by omega)).2.2
        have nx := p_run_Q (Q2 := fun v h' => v = none ∧ ∃ J, mR B T I J (.error e : Except Nat (Nat × Nat × tCl)) ∧ h' = p_mk Ls J L R X) nx (by
          rintro _ _ ⟨rfl, rfl⟩
          exact ⟨rfl, _, ⟨k', l', rfl⟩, rfl⟩)
        clear z1 z2 z3 z4
        generalize mst I k' l' (nI (tS B T e)) = J1 at *
        generalize mst I (k + 1) l (mI 1) = J2 at *
        rw [P_run_eq, bk_170_1, pb_170_1]; simp -implicitDefEqProofs (disch := first | omega | decide) only [P_m, pw_aload_n0, pw_aloadN_n0, pw_iconst, il_0, pw_iv2, pw_goto, kd_123, rf_123_1, rf_123_2, rf_123_3, rf_123_4, rf_123_5, rf_123_7, rf_123_11, rf_123_12, rf_123_15, rf_123_16, rf_123_17, rf_123_26, rf_123_29, rf_123_30, rf_123_32, rf_123_34, rf_123_35, rf_123_45, n_0, n_1, nn_lt, nn_nlt, nn_le, nn_nle, nn_ne, nn_sub, nn_mul, nI_add, nn_neg, nm_eq, mn_eq, mm_eq, mn_lt, nm_lt, mn_le, nm_le, nn_sub0, nn_of, implies_true, nn_c, nn_in, nn_div, nat_rem, Nat.reduceMul, Nat.reduceSub, Nat.reduceDiv, Nat.reduceMod, pf_at, pf_ne, mk_s, mk_1, Classical.not_not, b2i_T, b2i_F, false_imp_iff, true_imp_iff, false_and, and_false, p_sw, Int.reduceAdd, Int.zero_add, Option.some.injEq, Value.int.injEq, Value.long.injEq, Value.ref.injEq, exists_eq_left', mk_I, mk_L, mk_wI, mk_wL, rf_s, rf_n, true_and, and_true, and_self, or_true, true_or, or_false, false_or, not_true_eq_false, not_false_eq_true, Option.toList_some, Option.toList_none, List.cons_append, List.nil_append, List.map_nil, List.map_cons, List.sum_nil, List.sum_cons, cat_i, cat_l, cat_r, cat_n, Nat.reduceLeDiff, Nat.reduceAdd, Nat.reduceEqDiff, Nat.zero_le, p_ent, p_u_ne, p_u_at, reduceIte, if_true, if_false, P_ce s175]
        exact nx
      | .ok s, hs, o1, hq =>
        have o1 : J = mst I s.1 s.2.1 (mI 1) := o1
        subst o1
        have s1 := (RS_pr hN hs (show k + 1 ≤ N by omega)).1
        rw [bnd_ok] at hq
        have nx := tm_170 (x := x) (Ls := Ls) (L := L) (R := R) (X := X) hM hC hN s1 (RS_l hs l5) hq
        clear z1 z2 z3 z4 hq
        generalize mst I s.1 s.2.1 (mI 1) = J1 at *
        generalize mst I (k + 1) l (mI 1) = J2 at *
        rw [P_run_eq, bk_170_1, pb_170_1]; simp -implicitDefEqProofs (disch := first | omega | decide) only [P_m, pw_aload_n0, pw_aloadN_n0, pw_iconst, il_0, pw_iv2, pw_goto, kd_123, rf_123_1, rf_123_2, rf_123_3, rf_123_4, rf_123_5, rf_123_7, rf_123_11, rf_123_12, rf_123_15, rf_123_16, rf_123_17, rf_123_26, rf_123_29, rf_123_30, rf_123_32, rf_123_34, rf_123_35, rf_123_45, n_0, n_1, nn_lt, nn_nlt, nn_le, nn_nle, nn_ne, nn_sub, nn_mul, nI_add, nn_neg, nm_eq, mn_eq, mm_eq, mn_lt, nm_lt, mn_le, nm_le, nn_sub0, nn_of, implies_true, nn_c, nn_in, nn_div, nat_rem, Nat.reduceMul, Nat.reduceSub, Nat.reduceDiv, Nat.reduceMod, pf_at, pf_ne, mk_s, mk_1, Classical.not_not, b2i_T, b2i_F, false_imp_iff, true_imp_iff, false_and, and_false, p_sw, Int.reduceAdd, Int.zero_add, Option.some.injEq, Value.int.injEq, Value.long.injEq, Value.ref.injEq, exists_eq_left', mk_I, mk_L, mk_wI, mk_wL, rf_s, rf_n, true_and, and_true, and_self, or_true, true_or, or_false, false_or, not_true_eq_false, not_false_eq_true, Option.toList_some, Option.toList_none, List.cons_append, List.nil_append, List.map_nil, List.map_cons, List.sum_nil, List.sum_cons, cat_i, cat_l, cat_r, cat_n, Nat.reduceLeDiff, Nat.reduceAdd, Nat.reduceEqDiff, Nat.zero_le, p_ent, p_u_ne, p_u_at, reduceIte, if_true, if_false, P_ce s175]
        exact nx
    by_cases c1 : tC B T k = 19
    · have nx := sum 0 (d1 c1) (by omega) rfl (kN_of hN (show ¬ tC B T k = 0 by omega))
      rw [decide_eq_true c1, bN_t, if_pos c1] at z1
      clear z2 z3 z4 sum hq
      generalize mst I (k + 1) l (mI 1) = J2 at *
      generalize mst I k l (mI 1) = J3 at *
      simp -implicitDefEqProofs (disch := first | omega | decide) only [P_m, ↓P_run_eq _ 170 _ (p_bk 170 0), bk_170_0, pb_170_0, pw_aload_n0, pw_aloadN_n0, pw_bipush, bl_19, pw_iv2, pw_zne, bl_20, bl_22, pw_zeq, pw_nop, kd_123, rf_123_1, rf_123_2, rf_123_3, rf_123_4, rf_123_5, rf_123_7, rf_123_11, rf_123_12, rf_123_15, rf_123_16, rf_123_17, rf_123_26, rf_123_29, rf_123_30, rf_123_32, rf_123_34, rf_123_35, rf_123_45, n_0, n_1, n_19, n_20, n_22, nn_lt, nn_nlt, nn_le, nn_nle, nn_ne, nn_sub, nn_mul, nI_add, nn_neg, nm_eq, mn_eq, mm_eq, mn_lt, nm_lt, mn_le, nm_le, nn_sub0, nn_of, implies_true, nn_c, nn_in, nn_div, nat_rem, Nat.reduceMul, Nat.reduceSub, Nat.reduceDiv, Nat.reduceMod, pf_at, pf_ne, mk_s, mk_1, Classical.not_not, b2i_T, b2i_F, false_imp_iff, true_imp_iff, false_and, and_false, p_sw, Int.reduceAdd, Int.zero_add, Option.some.injEq, Value.int.injEq, Value.long.injEq, Value.ref.injEq, exists_eq_left', mk_I, mk_L, mk_wI, mk_wL, rf_s, rf_n, true_and, and_true, and_self, or_true, true_or, or_false, false_or, not_true_eq_false, not_false_eq_true, Option.toList_some, Option.toList_none, List.cons_append, List.nil_append, List.map_nil, List.map_cons, List.sum_nil, List.sum_cons, cat_i, cat_l, cat_r, cat_n, Nat.reduceLeDiff, Nat.reduceAdd, Nat.reduceEqDiff, Nat.zero_le, p_ent, p_u_ne, p_u_at, reduceIte, if_true, if_false, P_ce z1]
      exact nx
    · rw [decide_eq_false c1, bN_f, if_neg c1] at z1
      by_cases c2 : tC B T k = 20
      · have nx := sum 1 (d2 c2) (by omega) rfl (kN_of hN (show ¬ tC B T k = 0 by omega))
        rw [decide_eq_true c2, bN_t, if_pos c2] at z2
        clear z3 z4 sum hq
        generalize mst I (k + 1) l (mI 1) = J2 at *
        generalize mst I k l (mI 1) = J3 at *
        simp -implicitDefEqProofs (disch := first | omega | decide) only [P_m, ↓P_run_eq _ 170 _ (p_bk 170 0), bk_170_0, pb_170_0, pw_aload_n0, pw_aloadN_n0, pw_bipush, bl_19, pw_iv2, pw_zne, bl_20, bl_22, pw_zeq, pw_nop, kd_123, rf_123_1, rf_123_2, rf_123_3, rf_123_4, rf_123_5, rf_123_7, rf_123_11, rf_123_12, rf_123_15, rf_123_16, rf_123_17, rf_123_26, rf_123_29, rf_123_30, rf_123_32, rf_123_34, rf_123_35, rf_123_45, n_0, n_1, n_19, n_20, n_22, nn_lt, nn_nlt, nn_le, nn_nle, nn_ne, nn_sub, nn_mul, nI_add, nn_neg, nm_eq, mn_eq, mm_eq, mn_lt, nm_lt, mn_le, nm_le, nn_sub0, nn_of, implies_true, nn_c, nn_in, nn_div, nat_rem, Nat.reduceMul, Nat.reduceSub, Nat.reduceDiv, Nat.reduceMod, pf_at, pf_ne, mk_s, mk_1, Classical.not_not, b2i_T, b2i_F, false_imp_iff, true_imp_iff, false_and, and_false, p_sw, Int.reduceAdd, Int.zero_add, Option.some.injEq, Value.int.injEq, Value.long.injEq, Value.ref.injEq, exists_eq_left', mk_I, mk_L, mk_wI, mk_wL, rf_s, rf_n, true_and, and_true, and_self, or_true, true_or, or_false, false_or, not_true_eq_false, not_false_eq_true, Option.toList_some, Option.toList_none, List.cons_append, List.nil_append, List.map_nil, List.map_cons, List.sum_nil, List.sum_cons, cat_i, cat_l, cat_r, cat_n, Nat.reduceLeDiff, Nat.reduceAdd, Nat.reduceEqDiff, Nat.zero_le, p_ent, p_u_ne, p_u_at, reduceIte, if_true, if_false, P_ce z1, P_ce z2]
        exact nx
      · rw [decide_eq_false c2, bN_f, if_neg c2] at z2
        by_cases c3 : tC B T k = 22
        · have nx := sum 3 (d4 c3) (by omega) rfl (kN_of hN (show ¬ tC B T k = 0 by omega))
          rw [decide_eq_true c3, bN_t, if_pos c3] at z3
          clear z4 sum hq
          generalize mst I (k + 1) l (mI 1) = J2 at *
          generalize mst I k l (mI 1) = J3 at *
          simp -implicitDefEqProofs (disch := first | omega | decide) only [P_m, ↓P_run_eq _ 170 _ (p_bk 170 0), bk_170_0, pb_170_0, pw_aload_n0, pw_aloadN_n0, pw_bipush, bl_19, pw_iv2, pw_zne, bl_20, bl_22, pw_zeq, pw_nop, kd_123, rf_123_1, rf_123_2, rf_123_3, rf_123_4, rf_123_5, rf_123_7, rf_123_11, rf_123_12, rf_123_15, rf_123_16, rf_123_17, rf_123_26, rf_123_29, rf_123_30, rf_123_32, rf_123_34, rf_123_35, rf_123_45, n_0, n_1, n_19, n_20, n_22, nn_lt, nn_nlt, nn_le, nn_nle, nn_ne, nn_sub, nn_mul, nI_add, nn_neg, nm_eq, mn_eq, mm_eq, mn_lt, nm_lt, mn_le, nm_le, nn_sub0, nn_of, implies_true, nn_c, nn_in, nn_div, nat_rem, Nat.reduceMul, Nat.reduceSub, Nat.reduceDiv, Nat.reduceMod, pf_at, pf_ne, mk_s, mk_1, Classical.not_not, b2i_T, b2i_F, false_imp_iff, true_imp_iff, false_and, and_false, p_sw, Int.reduceAdd, Int.zero_add, Option.some.injEq, Value.int.injEq, Value.long.injEq, Value.ref.injEq, exists_eq_left', mk_I, mk_L, mk_wI, mk_wL, rf_s, rf_n, true_and, and_true, and_self, or_true, true_or, or_false, false_or, not_true_eq_false, not_false_eq_true, Option.toList_some, Option.toList_none, List.cons_append, List.nil_append, List.map_nil, List.map_cons, List.sum_nil, List.sum_cons, cat_i, cat_l, cat_r, cat_n, Nat.reduceLeDiff, Nat.reduceAdd, Nat.reduceEqDiff, Nat.zero_le, p_ent, p_u_ne, p_u_at, reduceIte, if_true, if_false, P_ce z1, P_ce z2, P_ce z3]
          exact nx
        · rw [decide_eq_false c3, bN_f, if_neg c3] at z3
          by_cases c4 : tC B T k = 21
          · have kN := kN_of hN (show ¬ tC B T k = 0 by omega)
            rw [if_pos c4] at z4
            rw [d3 c4, if_neg (by omega)] at hq
            have rs : RSm true (tC B T) (tV B T) (k + 1) l 2 = some (.ok (k + 1, l, fun _ => some 1, [])) := rfl
            rw [rs, bnd_ok] at hq
            have nx := tm_170 (x := x) (Ls := Ls) (L := L) (R := R) (X := X) hM hC hN (show k + 1 ≤ N by omega) l5 hq
            clear sum hq
            replace nx : P_run (x + 34) 170 (p_bk 170 3) 0 0 [.ref 123] [] (p_mk Ls (mst I (k + 1) l (mI 1)) L R X) _ := nx
            generalize mst I (k + 1) l (mI 1) = J2 at *
            generalize mst I k l (mI 1) = J3 at *
            simp -implicitDefEqProofs (disch := first | omega | decide) only [P_m, ↓P_run_eq _ 170 _ (p_bk 170 0), bk_170_0, pb_170_0, ↓P_run_eq _ 170 _ (p_bk 170 2), bk_170_2, pb_170_2, pw_aload_n0, pw_aloadN_n0, pw_bipush, bl_19, pw_iv2, pw_zne, bl_20, bl_22, pw_zeq, pw_nop, bl_21, kd_123, rf_123_1, rf_123_2, rf_123_3, rf_123_4, rf_123_5, rf_123_7, rf_123_11, rf_123_12, rf_123_15, rf_123_16, rf_123_17, rf_123_26, rf_123_29, rf_123_30, rf_123_32, rf_123_34, rf_123_35, rf_123_45, n_0, n_1, n_19, n_20, n_21, n_22, nn_lt, nn_nlt, nn_le, nn_nle, nn_ne, nn_sub, nn_mul, nI_add, nn_neg, nm_eq, mn_eq, mm_eq, mn_lt, nm_lt, mn_le, nm_le, nn_sub0, nn_of, implies_true, nn_c, nn_in, nn_div, nat_rem, Nat.reduceMul, Nat.reduceSub, Nat.reduceDiv, Nat.reduceMod, pf_at, pf_ne, mk_s, mk_1, Classical.not_not, b2i_T, b2i_F, false_imp_iff, true_imp_iff, false_and, and_false, p_sw, Int.reduceAdd, Int.zero_add, Option.some.injEq, Value.int.injEq, Value.long.injEq, Value.ref.injEq, exists_eq_left', mk_I, mk_L, mk_wI, mk_wL, rf_s, rf_n, true_and, and_true, and_self, or_true, true_or, or_false, false_or, not_true_eq_false, not_false_eq_true, Option.toList_some, Option.toList_none, List.cons_append, List.nil_append, List.map_nil, List.map_cons, List.sum_nil, List.sum_cons, cat_i, cat_l, cat_r, cat_n, Nat.reduceLeDiff, Nat.reduceAdd, Nat.reduceEqDiff, Nat.zero_le, p_ent, p_u_ne, p_u_at, reduceIte, if_true, if_false, P_ce z1, P_ce z2, P_ce z3, P_ce z4]
            exact nx
          · rw [if_neg c4] at z4
            rw [d5 c1 c2 c4 c3, if_pos rfl] at hq
            cases hq
            have nx := (if_er (x := x) (Ls := Ls) (I := I) (L := L) (R := R) (X := X) (k := k) (l := l) (p := tS B T k) (by omega)).2.2
            have nx := p_run_Q (Q2 := fun v h' => v = none ∧ ∃ J, mR B T I J (.error k : Except Nat (Nat × Nat × tCl)) ∧ h' = p_mk Ls J L R X) nx (by
              rintro _ _ ⟨rfl, rfl⟩
              exact ⟨rfl, _, ⟨k, l, rfl⟩, rfl⟩)
            clear sum
            generalize mst I k l (nI (tS B T k)) = J2 at *
            generalize mst I k l (mI 1) = J3 at *
            simp -implicitDefEqProofs (disch := first | omega | decide) only [P_m, ↓P_run_eq _ 170 _ (p_bk 170 0), bk_170_0, pb_170_0, ↓P_run_eq _ 170 _ (p_bk 170 2), bk_170_2, pb_170_2, pw_aload_n0, pw_aloadN_n0, pw_bipush, bl_19, pw_iv2, pw_zne, bl_20, bl_22, pw_zeq, pw_nop, bl_21, kd_123, rf_123_1, rf_123_2, rf_123_3, rf_123_4, rf_123_5, rf_123_7, rf_123_11, rf_123_12, rf_123_15, rf_123_16, rf_123_17, rf_123_26, rf_123_29, rf_123_30, rf_123_32, rf_123_34, rf_123_35, rf_123_45, n_0, n_1, n_19, n_20, n_21, n_22, nn_lt, nn_nlt, nn_le, nn_nle, nn_ne, nn_sub, nn_mul, nI_add, nn_neg, nm_eq, mn_eq, mm_eq, mn_lt, nm_lt, mn_le, nm_le, nn_sub0, nn_of, implies_true, nn_c, nn_in, nn_div, nat_rem, Nat.reduceMul, Nat.reduceSub, Nat.reduceDiv, Nat.reduceMod, pf_at, pf_ne, mk_s, mk_1, Classical.not_not, b2i_T, b2i_F, false_imp_iff, true_imp_iff, false_and, and_false, p_sw, Int.reduceAdd, Int.zero_add, Option.some.injEq, Value.int.injEq, Value.long.injEq, Value.ref.injEq, exists_eq_left', mk_I, mk_L, mk_wI, mk_wL, rf_s, rf_n, true_and, and_true, and_self, or_true, true_or, or_false, false_or, not_true_eq_false, not_false_eq_true, Option.toList_some, Option.toList_none, List.cons_append, List.nil_append, List.map_nil, List.map_cons, List.sum_nil, List.sum_cons, cat_i, cat_l, cat_r, cat_n, Nat.reduceLeDiff, Nat.reduceAdd, Nat.reduceEqDiff, Nat.zero_le, p_ent, p_u_ne, p_u_at, reduceIte, if_true, if_false, P_ce z1, P_ce z2, P_ce z3, P_ce z4]
            exact nx
  obtain ⟨v, g', ⟨rfl, J', f1, rfl⟩, s⟩ := P_mex all
  exact ⟨J', f1, s⟩
/-- one clause or order -/
theorem pl_171 {x k l c : Nat} {q : Except Nat (Nat × Nat × tCl)} (hM : mF B T N o I) (hC : ∀ k, tC B T k < 356) (hN : ∀ k, N ≤ k → tC B T k = 0) (hk : k ≤ N) (l5 : l ≤ 50) (hq : RC o (tC B T) (tV B T) k l c = some q) : ∃ J, mR B T I J q ∧ P_m (x + 35) 171 [.ref 123] (p_mk Ls (mst I k l (mI 1)) L R X) (fun v h' => v = none ∧ h' = p_mk Ls J L R X) := by
  have e10 : mst I k l (mI 1) 123 10 = nI (bN o) := by rw [mst_at (by omega) (by omega) (by omega)]; exact hM.2.2.1
  cases o with
  | false =>
    obtain ⟨J, h1, s⟩ := pl_169 (x := x) (Ls := Ls) (L := L) (R := R) (X := X) hM hC hN hk l5 hq
    rw [bN_f] at e10
    refine ⟨J, h1, ?_⟩
    clear h1
    generalize mst I k l (mI 1) = J3 at *
    simp -implicitDefEqProofs (disch := first | omega | decide) only [P_m, ↓P_run_eq _ 171 _ (p_bk 171 0), bk_171_0, pb_171_0, ↓P_run_eq _ 171 _ (p_bk 171 1), bk_171_1, pb_171_1, ↓P_run_eq _ 171 _ (p_bk 171 2), bk_171_2, pb_171_2, pw_aload_n0, pw_aloadN_n0, pw_getI, pw_zeq, pw_iv1, pw_goto, pw_nop, pw_vret, kd_123, rf_123_1, rf_123_2, rf_123_3, rf_123_4, rf_123_5, rf_123_7, rf_123_11, rf_123_12, rf_123_15, rf_123_16, rf_123_17, rf_123_26, rf_123_29, rf_123_30, rf_123_32, rf_123_34, rf_123_35, rf_123_45, n_0, n_1, nn_lt, nn_nlt, nn_le, nn_nle, nn_ne, nn_sub, nn_mul, nI_add, nn_neg, nm_eq, mn_eq, mm_eq, mn_lt, nm_lt, mn_le, nm_le, nn_sub0, nn_of, implies_true, nn_c, nn_in, nn_div, nat_rem, Nat.reduceMul, Nat.reduceSub, Nat.reduceDiv, Nat.reduceMod, pf_at, pf_ne, mk_s, mk_1, Classical.not_not, b2i_T, b2i_F, false_imp_iff, true_imp_iff, false_and, and_false, p_sw, Int.reduceAdd, Int.zero_add, Option.some.injEq, Value.int.injEq, Value.long.injEq, Value.ref.injEq, exists_eq_left', mk_I, mk_L, mk_wI, mk_wL, rf_s, rf_n, true_and, and_true, and_self, or_true, true_or, or_false, false_or, not_true_eq_false, not_false_eq_true, Option.toList_some, Option.toList_none, List.cons_append, List.nil_append, List.map_nil, List.map_cons, List.sum_nil, List.sum_cons, cat_i, cat_l, cat_r, cat_n, Nat.reduceLeDiff, Nat.reduceAdd, Nat.reduceEqDiff, Nat.zero_le, p_ent, p_u_ne, p_u_at, reduceIte, if_true, if_false, e10, P_ce s]
  | true =>
    obtain ⟨J, h1, s⟩ := pl_170 (x := x) (Ls := Ls) (L := L) (R := R) (X := X) hM hC hN hk l5 hq
    rw [bN_t] at e10
    refine ⟨J, h1, ?_⟩
    clear h1
    generalize mst I k l (mI 1) = J3 at *
    simp -implicitDefEqProofs (disch := first | omega | decide) only [P_m, ↓P_run_eq _ 171 _ (p_bk 171 0), bk_171_0, pb_171_0, ↓P_run_eq _ 171 _ (p_bk 171 2), bk_171_2, pb_171_2, pw_aload_n0, pw_aloadN_n0, pw_getI, pw_zeq, pw_iv1, pw_goto, pw_vret, kd_123, rf_123_1, rf_123_2, rf_123_3, rf_123_4, rf_123_5, rf_123_7, rf_123_11, rf_123_12, rf_123_15, rf_123_16, rf_123_17, rf_123_26, rf_123_29, rf_123_30, rf_123_32, rf_123_34, rf_123_35, rf_123_45, n_0, n_1, nn_lt, nn_nlt, nn_le, nn_nle, nn_ne, nn_sub, nn_mul, nI_add, nn_neg, nm_eq, mn_eq, mm_eq, mn_lt, nm_lt, mn_le, nm_le, nn_sub0, nn_of, implies_true, nn_c, nn_in, nn_div, nat_rem, Nat.reduceMul, Nat.reduceSub, Nat.reduceDiv, Nat.reduceMod, pf_at, pf_ne, mk_s, mk_1, Classical.not_not, b2i_T, b2i_F, false_imp_iff, true_imp_iff, false_and, and_false, p_sw, Int.reduceAdd, Int.zero_add, Option.some.injEq, Value.int.injEq, Value.long.injEq, Value.ref.injEq, exists_eq_left', mk_I, mk_L, mk_wI, mk_wL, rf_s, rf_n, true_and, and_true, and_self, or_true, true_or, or_false, false_or, not_true_eq_false, not_false_eq_true, Option.toList_some, Option.toList_none, List.cons_append, List.nil_append, List.map_nil, List.map_cons, List.sum_nil, List.sum_cons, cat_i, cat_l, cat_r, cat_n, Nat.reduceLeDiff, Nat.reduceAdd, Nat.reduceEqDiff, Nat.zero_le, p_ent, p_u_ne, p_u_at, reduceIte, if_true, if_false, e10, P_ce s]
end RC2
