section QX
variable {d Ls : Nat} {I : Nat → Nat → Int32} {L : Nat → Nat → Int64} {R : Nat → Nat → Option Nat} {X : List pKd} {h : pHp} {B : Nat → Nat} {T N : Nat} {o : Bool}
theorem lp_173 {x d k0 : Nat} (hM : mF B T N o I) (hC : ∀ k, tC B T k < 356) (hN : ∀ k, N ≤ k → tC B T k = 0) (d8 : d ≤ 8) (hP : ∀ k, k0 ≤ k → k ≤ N → okPl o B T Ls I L R X k) : ∀ M k, N - k ≤ M → k0 ≤ k → k ≤ N → ∀ l c p g cs r, l ≤ 50 → RB o (tC B T) (tV B T) 2 p d k l c g cs = some r → P_run (x + 3 * (8 - d) + 6 + 2) 173 (p_bk 173 1) 0 0 [.ref 123, .int (nI d)] [] (p_mk Ls (mst I k l (mI 1)) L R X) (fun v h' => v = none ∧ ∃ J, mR B T I J r ∧ h' = p_mk Ls J L R X) := by
  have h4 := hM.2.1
  have T4 := hM.2.2.2.2.2.2
  intro M
  induction M with
  | zero =>
    intro k hMk hk0 hk l c p g cs r l5 hr
    have c0 := hN k (by omega)
    have n6 : ¬ tC B T k = 6 := by omega
    have s1 := ta_y (d := x + 3 * (8 - d) + 6) (Ls := Ls) (L := L) (R := R) (X := X) (l := l) (c := 6) hM hk (by omega) (hC k)
    rw [decide_eq_false n6, bN_f, if_neg n6] at s1
    rw [RB_2 hN h4, if_neg n6] at hr
    cases hr
    have fin : mR B T I (mst I k l (mI 1)) (.ok (k, l, g, cs) : Except Nat (Nat × Nat × tDB × tCd)) := rfl
    generalize (Except.ok (k, l, g, cs) : Except Nat (Nat × Nat × tDB × tCd)) = RR at *
    generalize mst I k l (mI 1) = J at *
    rw [P_run_eq, bk_173_1, pb_173_1]; simp -implicitDefEqProofs (disch := first | omega | decide) only [P_m, ↓P_run_eq _ 173 _ (p_bk 173 2), bk_173_2, pb_173_2, pw_aload_n0, pw_aloadN_n0, pw_bipush, bl_6, pw_iv2, pw_zeq, pw_iload_n1, pw_goto, pw_vret, kd_123, rf_123_1, rf_123_2, rf_123_3, rf_123_4, rf_123_5, rf_123_7, rf_123_11, rf_123_12, rf_123_15, rf_123_16, rf_123_17, rf_123_26, rf_123_29, rf_123_30, rf_123_32, rf_123_34, rf_123_35, rf_123_45, n_0, n_1, n_6, nn_lt, nn_nlt, nn_le, nn_nle, nn_ne, nn_sub, nn_mul, nI_add, nn_neg, nm_eq, mn_eq, mm_eq, mn_lt, nm_lt, mn_le, nm_le, nn_sub0, nn_of, implies_true, nn_c, nn_in, nn_div, nat_rem, Nat.reduceMul, Nat.reduceSub, Nat.reduceDiv, Nat.reduceMod, pf_at, pf_ne, mk_s, mk_1, Classical.not_not, b2i_T, b2i_F, false_imp_iff, true_imp_iff, false_and, and_false, p_sw, Int.reduceAdd, Int.zero_add, Option.some.injEq, Value.int.injEq, Value.long.injEq, Value.ref.injEq, exists_eq_left', mk_I, mk_L, mk_wI, mk_wL, rf_s, rf_n, true_and, and_true, and_self, or_true, true_or, or_false, false_or, not_true_eq_false, not_false_eq_true, Option.toList_some, Option.toList_none, List.cons_append, List.nil_append, List.map_nil, List.map_cons, List.sum_nil, List.sum_cons, cat_i, cat_l, cat_r, cat_n, Nat.reduceLeDiff, Nat.reduceAdd, Nat.reduceEqDiff, Nat.zero_le, p_ent, p_u_ne, p_u_at, reduceIte, if_true, if_false, P_ce s1]
    exact ⟨J, fin, rfl⟩
  | succ M ih =>
    intro k hMk hk0 hk l c p g cs r l5 hr
    have s1 := ta_y (d := x + 3 * (8 - d) + 6) (Ls := Ls) (L := L) (R := R) (X := X) (l := l) (c := 6) hM hk (by omega) (hC k)
    rw [RB_2 hN h4] at hr
    by_cases n6 : tC B T k = 6
    · have kN := kN_of hN (show ¬ tC B T k = 0 by omega)
      rw [decide_eq_true n6, bN_t, if_pos n6] at s1
      rw [if_pos n6] at hr
      obtain ⟨q, hq⟩ := RB_t (o := o) (V := tV B T) (md := 0) (d := d) (l := l) (c := c + cs.length + 1) (p := false) (g := g) (cs := []) hN h4 (show k + 1 ≤ N by omega) (by omega)
      obtain ⟨J, o1, s174⟩ := hP (k + 1) (by omega) (by omega) x d l _ false g [] q d8 l5 hq
      rw [hq] at hr
      match q, hq, o1, hr with
      | .error e, hq, o1, hr =>
        cases hr
        obtain ⟨k', l', rfl⟩ := o1
        have te := tS_b (B := B) (T := T) e
        have nx := er_173b (d := x + 3 * (8 - d) + 6) (Ls := Ls) (I := I) (L := L) (R := R) (X := X) (k := k') (l := l') (p := tS B T e) (x := nI d) (by omega)
        have nx := p_run_Q (Q2 := fun v h' => v = none ∧ ∃ J, mR B T I J (.error e : Except Nat (Nat × Nat × tDB × tCd)) ∧ h' = p_mk Ls J L R X) nx (by
          rintro _ _ ⟨rfl, rfl⟩
          exact ⟨rfl, _, ⟨k', l', rfl⟩, rfl⟩)
        clear ih
        replace nx : P_run (x + 3 * (8 - d) + 6 + 2) 173 (p_bk 173 1) 0 0 [.ref 123, .int (nI d)] [] (p_mk Ls (mst I k' l' (nI (tS B T e))) L R X) _ := nx
        generalize mst I k' l' (nI (tS B T e)) = J1 at *
        generalize mst I (k + 1) l (mI 1) = J2 at *
        generalize mst I k l (mI 1) = J at *
        rw [P_run_eq, bk_173_1, pb_173_1]; simp -implicitDefEqProofs (disch := first | omega | decide) only [P_m, pw_aload_n0, pw_aloadN_n0, pw_bipush, bl_6, pw_iv2, pw_zeq, pw_iload_n1, pw_goto, kd_123, rf_123_1, rf_123_2, rf_123_3, rf_123_4, rf_123_5, rf_123_7, rf_123_11, rf_123_12, rf_123_15, rf_123_16, rf_123_17, rf_123_26, rf_123_29, rf_123_30, rf_123_32, rf_123_34, rf_123_35, rf_123_45, n_0, n_1, n_6, nn_lt, nn_nlt, nn_le, nn_nle, nn_ne, nn_sub, nn_mul, nI_add, nn_neg, nm_eq, mn_eq, mm_eq, mn_lt, nm_lt, mn_le, nm_le, nn_sub0, nn_of, implies_true, nn_c, nn_in, nn_div, nat_rem, Nat.reduceMul, Nat.reduceSub, Nat.reduceDiv, Nat.reduceMod, pf_at, pf_ne, mk_s, mk_1, Classical.not_not, b2i_T, b2i_F, false_imp_iff, true_imp_iff, false_and, and_false, p_sw, Int.reduceAdd, Int.zero_add, Option.some.injEq, Value.int.injEq, Value.long.injEq, Value.ref.injEq, exists_eq_left', mk_I, mk_L, mk_wI, mk_wL, rf_s, rf_n, true_and, and_true, and_self, or_true, true_or, or_false, false_or, not_true_eq_false, not_false_eq_true, Option.toList_some, Option.toList_none, List.cons_append, List.nil_append, List.map_nil, List.map_cons, List.sum_nil, List.sum_cons, cat_i, cat_l, cat_r, cat_n, Nat.reduceLeDiff, Nat.reduceAdd, Nat.reduceEqDiff, Nat.zero_le, p_ent, p_u_ne, p_u_at, reduceIte, if_true, if_false, P_ce s1, P_ce s174]
        exact nx
      | .ok q, hq, o1, hr =>
        rw [bnd_ok] at hr
        obtain ⟨q1, q2, -⟩ := RB_pr hN hq (show k + 1 ≤ N by omega)
        have q2 := q2 rfl
        have o1 : J = mst I q.1 q.2.1 (mI 1) := o1
        subst o1
        have nx := ih q.1 (by omega) (by omega) q1 q.2.1 _ _ _ _ r (RB_l hq l5) hr
        clear ih hr
        generalize mst I q.1 q.2.1 (mI 1) = J1 at *
        generalize mst I (k + 1) l (mI 1) = J2 at *
        generalize mst I k l (mI 1) = J at *
        rw [P_run_eq, bk_173_1, pb_173_1]; simp -implicitDefEqProofs (disch := first | omega | decide) only [P_m, pw_aload_n0, pw_aloadN_n0, pw_bipush, bl_6, pw_iv2, pw_zeq, pw_iload_n1, pw_goto, kd_123, rf_123_1, rf_123_2, rf_123_3, rf_123_4, rf_123_5, rf_123_7, rf_123_11, rf_123_12, rf_123_15, rf_123_16, rf_123_17, rf_123_26, rf_123_29, rf_123_30, rf_123_32, rf_123_34, rf_123_35, rf_123_45, n_0, n_1, n_6, nn_lt, nn_nlt, nn_le, nn_nle, nn_ne, nn_sub, nn_mul, nI_add, nn_neg, nm_eq, mn_eq, mm_eq, mn_lt, nm_lt, mn_le, nm_le, nn_sub0, nn_of, implies_true, nn_c, nn_in, nn_div, nat_rem, Nat.reduceMul, Nat.reduceSub, Nat.reduceDiv, Nat.reduceMod, pf_at, pf_ne, mk_s, mk_1, Classical.not_not, b2i_T, b2i_F, false_imp_iff, true_imp_iff, false_and, and_false, p_sw, Int.reduceAdd, Int.zero_add, Option.some.injEq, Value.int.injEq, Value.long.injEq, Value.ref.injEq, exists_eq_left', mk_I, mk_L, mk_wI, mk_wL, rf_s, rf_n, true_and, and_true, and_self, or_true, true_or, or_false, false_or, not_true_eq_false, not_false_eq_true, Option.toList_some, Option.toList_none, List.cons_append, List.nil_append, List.map_nil, List.map_cons, List.sum_nil, List.sum_cons, cat_i, cat_l, cat_r, cat_n, Nat.reduceLeDiff, Nat.reduceAdd, Nat.reduceEqDiff, Nat.zero_le, p_ent, p_u_ne, p_u_at, reduceIte, if_true, if_false, P_ce s1, P_ce s174]
        exact nx
    · rw [decide_eq_false n6, bN_f, if_neg n6] at s1
      rw [if_neg n6] at hr
      cases hr
      have fin : mR B T I (mst I k l (mI 1)) (.ok (k, l, g, cs) : Except Nat (Nat × Nat × tDB × tCd)) := rfl
      clear ih
      generalize (Except.ok (k, l, g, cs) : Except Nat (Nat × Nat × tDB × tCd)) = RR at *
      generalize mst I k l (mI 1) = J at *
      rw [P_run_eq, bk_173_1, pb_173_1]; simp -implicitDefEqProofs (disch := first | omega | decide) only [P_m, ↓P_run_eq _ 173 _ (p_bk 173 2), bk_173_2, pb_173_2, pw_aload_n0, pw_aloadN_n0, pw_bipush, bl_6, pw_iv2, pw_zeq, pw_iload_n1, pw_goto, pw_vret, kd_123, rf_123_1, rf_123_2, rf_123_3, rf_123_4, rf_123_5, rf_123_7, rf_123_11, rf_123_12, rf_123_15, rf_123_16, rf_123_17, rf_123_26, rf_123_29, rf_123_30, rf_123_32, rf_123_34, rf_123_35, rf_123_45, n_0, n_1, n_6, nn_lt, nn_nlt, nn_le, nn_nle, nn_ne, nn_sub, nn_mul, nI_add, nn_neg, nm_eq, mn_eq, mm_eq, mn_lt, nm_lt, mn_le, nm_le, nn_sub0, nn_of, implies_true, nn_c, nn_in, nn_div, nat_rem, Nat.reduceMul, Nat.reduceSub, Nat.reduceDiv, Nat.reduceMod, pf_at, pf_ne, mk_s, mk_1, Classical.not_not, b2i_T, b2i_F, false_imp_iff, true_imp_iff, false_and, and_false, p_sw, Int.reduceAdd, Int.zero_add, Option.some.injEq, Value.int.injEq, Value.long.injEq, Value.ref.injEq, exists_eq_left', mk_I, mk_L, mk_wI, mk_wL, rf_s, rf_n, true_and, and_true, and_self, or_true, true_or, or_false, false_or, not_true_eq_false, not_false_eq_true, Option.toList_some, Option.toList_none, List.cons_append, List.nil_append, List.map_nil, List.map_cons, List.sum_nil, List.sum_cons, cat_i, cat_l, cat_r, cat_n, Nat.reduceLeDiff, Nat.reduceAdd, Nat.reduceEqDiff, Nat.zero_le, p_ent, p_u_ne, p_u_at, reduceIte, if_true, if_false, P_ce s1]
      exact ⟨J, fin, rfl⟩
theorem both_m {x d k0 : Nat} (hM : mF B T N o I) (hC : ∀ k, tC B T k < 356) (hN : ∀ k, N ≤ k → tC B T k = 0) (d8 : d ≤ 8) (hP : ∀ k, k0 ≤ k → k ≤ N → okPl o B T Ls I L R X k) {k l c c2 : Nat} {g : tDB} {r : Except Nat (Nat × Nat × tDB × tCd)} (hk0 : k0 ≤ k) (hk : k ≤ N) (l5 : l ≤ 50) (hr : (bnd (RB o (tC B T) (tV B T) 0 false d k l c g []) fun r => RB o (tC B T) (tV B T) 2 false d r.1 r.2.1 c2 r.2.2.1 r.2.2.2) = some r) : ∃ J, mR B T I J r ∧ P_m (x + 3 * (8 - d) + 8) 173 [.ref 123, .int (nI d)] (p_mk Ls (mst I k l (mI 1)) L R X) (fun v h' => v = none ∧ h' = p_mk Ls J L R X) := by
  have h4 := hM.2.1
  have T4 := hM.2.2.2.2.2.2
  obtain ⟨q, hq⟩ := RB_t (o := o) (V := tV B T) (md := 0) (d := d) (l := l) (c := c) (p := false) (g := g) (cs := []) hN h4 hk (by omega)
  obtain ⟨J, o1, s174⟩ := hP k hk0 hk x d l c false g [] q d8 l5 hq
  rw [hq] at hr
  match q, hq, o1, hr with
  | .error e, hq, o1, hr =>
    cases hr
    obtain ⟨k', l', rfl⟩ := o1
    have te := tS_b (B := B) (T := T) e
    have nx := er_173b (d := x + 3 * (8 - d) + 6) (Ls := Ls) (I := I) (L := L) (R := R) (X := X) (k := k') (l := l') (p := tS B T e) (x := nI d) (by omega)
    refine ⟨_, ⟨k', l', rfl⟩, ?_⟩
    generalize mst I k' l' (nI (tS B T e)) = J1 at *
    generalize mst I k l (mI 1) = J at *
    simp -implicitDefEqProofs (disch := first | omega | decide) only [P_m, ↓P_run_eq _ 173 _ (p_bk 173 0), bk_173_0, pb_173_0, pw_aload_n0, pw_aloadN_n0, pw_iload_n1, pw_iv2, pw_nop, kd_123, rf_123_1, rf_123_2, rf_123_3, rf_123_4, rf_123_5, rf_123_7, rf_123_11, rf_123_12, rf_123_15, rf_123_16, rf_123_17, rf_123_26, rf_123_29, rf_123_30, rf_123_32, rf_123_34, rf_123_35, rf_123_45, n_0, n_1, nn_lt, nn_nlt, nn_le, nn_nle, nn_ne, nn_sub, nn_mul, nI_add, nn_neg, nm_eq, mn_eq, mm_eq, mn_lt, nm_lt, mn_le, nm_le, nn_sub0, nn_of, implies_true, nn_c, nn_in, nn_div, nat_rem, Nat.reduceMul, Nat.reduceSub, Nat.reduceDiv, Nat.reduceMod, pf_at, pf_ne, mk_s, mk_1, Classical.not_not, b2i_T, b2i_F, false_imp_iff, true_imp_iff, false_and, and_false, p_sw, Int.reduceAdd, Int.zero_add, Option.some.injEq, Value.int.injEq, Value.long.injEq, Value.ref.injEq, exists_eq_left', mk_I, mk_L, mk_wI, mk_wL, rf_s, rf_n, true_and, and_true, and_self, or_true, true_or, or_false, false_or, not_true_eq_false, not_false_eq_true, Option.toList_some, Option.toList_none, List.cons_append, List.nil_append, List.map_nil, List.map_cons, List.sum_nil, List.sum_cons, cat_i, cat_l, cat_r, cat_n, Nat.reduceLeDiff, Nat.reduceAdd, Nat.reduceEqDiff, Nat.zero_le, p_ent, p_u_ne, p_u_at, reduceIte, if_true, if_false, P_ce s174]
    exact nx
  | .ok q, hq, o1, hr =>
    rw [bnd_ok] at hr
    obtain ⟨q1, q2, -⟩ := RB_pr hN hq hk
    have q2 := q2 rfl
    have o1 : J = mst I q.1 q.2.1 (mI 1) := o1
    subst o1
    have nx := lp_173 (x := x) (Ls := Ls) (L := L) (R := R) (X := X) hM hC hN d8 hP (N - q.1) q.1 (Nat.le_refl _) (by omega) q1 q.2.1 _ _ _ _ r (RB_l hq l5) hr
    have all : P_m (x + 3 * (8 - d) + 8) 173 [.ref 123, .int (nI d)] (p_mk Ls (mst I k l (mI 1)) L R X) (fun v h' => v = none ∧ ∃ J, mR B T I J r ∧ h' = p_mk Ls J L R X) := by
      clear hr
      generalize mst I q.1 q.2.1 (mI 1) = J1 at *
      generalize mst I k l (mI 1) = J at *
      simp -implicitDefEqProofs (disch := first | omega | decide) only [P_m, ↓P_run_eq _ 173 _ (p_bk 173 0), bk_173_0, pb_173_0, pw_aload_n0, pw_aloadN_n0, pw_iload_n1, pw_iv2, pw_nop, kd_123, rf_123_1, rf_123_2, rf_123_3, rf_123_4, rf_123_5, rf_123_7, rf_123_11, rf_123_12, rf_123_15, rf_123_16, rf_123_17, rf_123_26, rf_123_29, rf_123_30, rf_123_32, rf_123_34, rf_123_35, rf_123_45, n_0, n_1, nn_lt, nn_nlt, nn_le, nn_nle, nn_ne, nn_sub, nn_mul, nI_add, nn_neg, nm_eq, mn_eq, mm_eq, mn_lt, nm_lt, mn_le, nm_le, nn_sub0, nn_of, implies_true, nn_c, nn_in, nn_div, nat_rem, Nat.reduceMul, Nat.reduceSub, Nat.reduceDiv, Nat.reduceMod, pf_at, pf_ne, mk_s, mk_1, Classical.not_not, b2i_T, b2i_F, false_imp_iff, true_imp_iff, false_and, and_false, p_sw, Int.reduceAdd, Int.zero_add, Option.some.injEq, Value.int.injEq, Value.long.injEq, Value.ref.injEq, exists_eq_left', mk_I, mk_L, mk_wI, mk_wL, rf_s, rf_n, true_and, and_true, and_self, or_true, true_or, or_false, false_or, not_true_eq_false, not_false_eq_true, Option.toList_some, Option.toList_none, List.cons_append, List.nil_append, List.map_nil, List.map_cons, List.sum_nil, List.sum_cons, cat_i, cat_l, cat_r, cat_n, Nat.reduceLeDiff, Nat.reduceAdd, Nat.reduceEqDiff, Nat.zero_le, p_ent, p_u_ne, p_u_at, reduceIte, if_true, if_false, P_ce s174]
      exact nx
    obtain ⟨v, g', ⟨rfl, J', f1, rfl⟩, s⟩ := P_mex all
    exact ⟨J', f1, s⟩
theorem lp_172 {x d k0 : Nat} (hM : mF B T N o I) (hC : ∀ k, tC B T k < 356) (hN : ∀ k, N ≤ k → tC B T k = 0) (d8 : d ≤ 8) (hP : ∀ k, k0 ≤ k → k ≤ N → okPl o B T Ls I L R X k) : ∀ M k, N - k ≤ M → k0 ≤ k → k ≤ N → ∀ l c p g cs r, l ≤ 50 → RB o (tC B T) (tV B T) 3 p d k l c g cs = some r → P_run (x + 3 * (8 - d) + 7 + 2) 172 (p_bk 172 1) 0 0 [.ref 123, .int (nI d)] [] (p_mk Ls (mst I k l (mI 1)) L R X) (fun v h' => v = none ∧ ∃ J, mR B T I J r ∧ h' = p_mk Ls J L R X) := by
  have h4 := hM.2.1
  have T4 := hM.2.2.2.2.2.2
  intro M
  induction M with
  | zero =>
    intro k hMk hk0 hk l c p g cs r l5 hr
    have c0 := hN k (by omega)
    have n6 : ¬ tC B T k = 5 := by omega
    have s1 := ta_y (d := x + 3 * (8 - d) + 7) (Ls := Ls) (L := L) (R := R) (X := X) (l := l) (c := 5) hM hk (by omega) (hC k)
    rw [decide_eq_false n6, bN_f, if_neg n6] at s1
    rw [RB_3 hN h4, if_neg n6] at hr
    cases hr
    have fin : mR B T I (mst I k l (mI 1)) (.ok (k, l, g, cs) : Except Nat (Nat × Nat × tDB × tCd)) := rfl
    generalize (Except.ok (k, l, g, cs) : Except Nat (Nat × Nat × tDB × tCd)) = RR at *
    generalize mst I k l (mI 1) = J at *
    rw [P_run_eq, bk_172_1, pb_172_1]; simp -implicitDefEqProofs (disch := first | omega | decide) only [P_m, ↓P_run_eq _ 172 _ (p_bk 172 2), bk_172_2, pb_172_2, pw_aload_n0, pw_aloadN_n0, pw_iconst, il_5, pw_iv2, pw_zeq, pw_iload_n1, pw_goto, pw_vret, kd_123, rf_123_1, rf_123_2, rf_123_3, rf_123_4, rf_123_5, rf_123_7, rf_123_11, rf_123_12, rf_123_15, rf_123_16, rf_123_17, rf_123_26, rf_123_29, rf_123_30, rf_123_32, rf_123_34, rf_123_35, rf_123_45, n_0, n_1, n_5, nn_lt, nn_nlt, nn_le, nn_nle, nn_ne, nn_sub, nn_mul, nI_add, nn_neg, nm_eq, mn_eq, mm_eq, mn_lt, nm_lt, mn_le, nm_le, nn_sub0, nn_of, implies_true, nn_c, nn_in, nn_div, nat_rem, Nat.reduceMul, Nat.reduceSub, Nat.reduceDiv, Nat.reduceMod, pf_at, pf_ne, mk_s, mk_1, Classical.not_not, b2i_T, b2i_F, false_imp_iff, true_imp_iff, false_and, and_false, p_sw, Int.reduceAdd, Int.zero_add, Option.some.injEq, Value.int.injEq, Value.long.injEq, Value.ref.injEq, exists_eq_left', mk_I, mk_L, mk_wI, mk_wL, rf_s, rf_n, true_and, and_true, and_self, or_true, true_or, or_false, false_or, not_true_eq_false, not_false_eq_true, Option.toList_some, Option.toList_none, List.cons_append, List.nil_append, List.map_nil, List.map_cons, List.sum_nil, List.sum_cons, cat_i, cat_l, cat_r, cat_n, Nat.reduceLeDiff, Nat.reduceAdd, Nat.reduceEqDiff, Nat.zero_le, p_ent, p_u_ne, p_u_at, reduceIte, if_true, if_false, P_ce s1]
    exact ⟨J, fin, rfl⟩
  | succ M ih =>
    intro k hMk hk0 hk l c p g cs r l5 hr
    have s1 := ta_y (d := x + 3 * (8 - d) + 7) (Ls := Ls) (L := L) (R := R) (X := X) (l := l) (c := 5) hM hk (by omega) (hC k)
    rw [RB_3 hN h4] at hr
    by_cases n6 : tC B T k = 5
    · have kN := kN_of hN (show ¬ tC B T k = 0 by omega)
      rw [decide_eq_true n6, bN_t, if_pos n6] at s1
      rw [if_pos n6, ← bnd_as] at hr
      have ht : okO (bnd (RB o (tC B T) (tV B T) 0 false d (k + 1) l (c + cs.length + 1) g []) fun r => RB o (tC B T) (tV B T) 2 false d r.1 r.2.1 (c + cs.length + 1) r.2.2.1 r.2.2.2) := bnd_t (RB_t hN h4 (by omega) (by omega)) (fun a ha => RB_t hN h4 (RB_pr hN ha (by omega)).1 (by omega))
      obtain ⟨q, hq⟩ := ht
      obtain ⟨J, o1, s173⟩ := both_m (x := x) (Ls := Ls) (L := L) (R := R) (X := X) hM hC hN d8 hP (show k0 ≤ k + 1 by omega) (by omega) l5 hq
      rw [hq] at hr
      match q, hq, o1, hr with
      | .error e, hq, o1, hr =>
        cases hr
        obtain ⟨k', l', rfl⟩ := o1
        have te := tS_b (B := B) (T := T) e
        have nx := er_172b (d := x + 3 * (8 - d) + 7) (Ls := Ls) (I := I) (L := L) (R := R) (X := X) (k := k') (l := l') (p := tS B T e) (x := nI d) (by omega)
        have nx := p_run_Q (Q2 := fun v h' => v = none ∧ ∃ J, mR B T I J (.error e : Except Nat (Nat × Nat × tDB × tCd)) ∧ h' = p_mk Ls J L R X) nx (by
          rintro _ _ ⟨rfl, rfl⟩
          exact ⟨rfl, _, ⟨k', l', rfl⟩, rfl⟩)
        clear ih
        replace nx : P_run (x + 3 * (8 - d) + 7 + 2) 172 (p_bk 172 1) 0 0 [.ref 123, .int (nI d)] [] (p_mk Ls (mst I k' l' (nI (tS B T e))) L R X) _ := nx
        generalize mst I k' l' (nI (tS B T e)) = J1 at *
        generalize mst I (k + 1) l (mI 1) = J2 at *
        generalize mst I k l (mI 1) = J at *
        rw [P_run_eq, bk_172_1, pb_172_1]; simp -implicitDefEqProofs (disch := first | omega | decide) only [P_m, pw_aload_n0, pw_aloadN_n0, pw_iconst, il_5, pw_iv2, pw_zeq, pw_iload_n1, pw_goto, kd_123, rf_123_1, rf_123_2, rf_123_3, rf_123_4, rf_123_5, rf_123_7, rf_123_11, rf_123_12, rf_123_15, rf_123_16, rf_123_17, rf_123_26, rf_123_29, rf_123_30, rf_123_32, rf_123_34, rf_123_35, rf_123_45, n_0, n_1, n_5, nn_lt, nn_nlt, nn_le, nn_nle, nn_ne, nn_sub, nn_mul, nI_add, nn_neg, nm_eq, mn_eq, mm_eq, mn_lt, nm_lt, mn_le, nm_le, nn_sub0, nn_of, implies_true, nn_c, nn_in, nn_div, nat_rem, Nat.reduceMul, Nat.reduceSub, Nat.reduceDiv, Nat.reduceMod, pf_at, pf_ne, mk_s, mk_1, Classical.not_not, b2i_T, b2i_F, false_imp_iff, true_imp_iff, false_and, and_false, p_sw, Int.reduceAdd, Int.zero_add, Option.some.injEq, Value.int.injEq, Value.long.injEq, Value.ref.injEq, exists_eq_left', mk_I, mk_L, mk_wI, mk_wL, rf_s, rf_n, true_and, and_true, and_self, or_true, true_or, or_false, false_or, not_true_eq_false, not_false_eq_true, Option.toList_some, Option.toList_none, List.cons_append, List.nil_append, List.map_nil, List.map_cons, List.sum_nil, List.sum_cons, cat_i, cat_l, cat_r, cat_n, Nat.reduceLeDiff, Nat.reduceAdd, Nat.reduceEqDiff, Nat.zero_le, p_ent, p_u_ne, p_u_at, reduceIte, if_true, if_false, P_ce s1, P_ce s173]
        exact nx
      | .ok q, hq, o1, hr =>
        rw [bnd_ok] at hr
        obtain ⟨a, h1, h2⟩ := bnd_iok hq
        obtain ⟨a1, a2, -⟩ := RB_pr hN h1 (show k + 1 ≤ N by omega)
        obtain ⟨b1, -, -, b2⟩ := RB_pr hN h2 a1
        have a2 := a2 rfl
        have b2 := b2 (by omega)
        have o1 : J = mst I q.1 q.2.1 (mI 1) := o1
        subst o1
        have nx := ih q.1 (by omega) (by omega) b1 q.2.1 _ _ _ _ r (RB_l h2 (RB_l h1 l5)) hr
        clear ih hr
        generalize mst I q.1 q.2.1 (mI 1) = J1 at *
        generalize mst I (k + 1) l (mI 1) = J2 at *
        generalize mst I k l (mI 1) = J at *
        rw [P_run_eq, bk_172_1, pb_172_1]; simp -implicitDefEqProofs (disch := first | omega | decide) only [P_m, pw_aload_n0, pw_aloadN_n0, pw_iconst, il_5, pw_iv2, pw_zeq, pw_iload_n1, pw_goto, kd_123, rf_123_1, rf_123_2, rf_123_3, rf_123_4, rf_123_5, rf_123_7, rf_123_11, rf_123_12, rf_123_15, rf_123_16, rf_123_17, rf_123_26, rf_123_29, rf_123_30, rf_123_32, rf_123_34, rf_123_35, rf_123_45, n_0, n_1, n_5, nn_lt, nn_nlt, nn_le, nn_nle, nn_ne, nn_sub, nn_mul, nI_add, nn_neg, nm_eq, mn_eq, mm_eq, mn_lt, nm_lt, mn_le, nm_le, nn_sub0, nn_of, implies_true, nn_c, nn_in, nn_div, nat_rem, Nat.reduceMul, Nat.reduceSub, Nat.reduceDiv, Nat.reduceMod, pf_at, pf_ne, mk_s, mk_1, Classical.not_not, b2i_T, b2i_F, false_imp_iff, true_imp_iff, false_and, and_false, p_sw, Int.reduceAdd, Int.zero_add, Option.some.injEq, Value.int.injEq, Value.long.injEq, Value.ref.injEq, exists_eq_left', mk_I, mk_L, mk_wI, mk_wL, rf_s, rf_n, true_and, and_true, and_self, or_true, true_or, or_false, false_or, not_true_eq_false, not_false_eq_true, Option.toList_some, Option.toList_none, List.cons_append, List.nil_append, List.map_nil, List.map_cons, List.sum_nil, List.sum_cons, cat_i, cat_l, cat_r, cat_n, Nat.reduceLeDiff, Nat.reduceAdd, Nat.reduceEqDiff, Nat.zero_le, p_ent, p_u_ne, p_u_at, reduceIte, if_true, if_false, P_ce s1, P_ce s173]
        exact nx
    · rw [decide_eq_false n6, bN_f, if_neg n6] at s1
      rw [if_neg n6] at hr
      cases hr
      have fin : mR B T I (mst I k l (mI 1)) (.ok (k, l, g, cs) : Except Nat (Nat × Nat × tDB × tCd)) := rfl
      clear ih
      generalize (Except.ok (k, l, g, cs) : Except Nat (Nat × Nat × tDB × tCd)) = RR at *
      generalize mst I k l (mI 1) = J at *
      rw [P_run_eq, bk_172_1, pb_172_1]; simp -implicitDefEqProofs (disch := first | omega | decide) only [P_m, ↓P_run_eq _ 172 _ (p_bk 172 2), bk_172_2, pb_172_2, pw_aload_n0, pw_aloadN_n0, pw_iconst, il_5, pw_iv2, pw_zeq, pw_iload_n1, pw_goto, pw_vret, kd_123, rf_123_1, rf_123_2, rf_123_3, rf_123_4, rf_123_5, rf_123_7, rf_123_11, rf_123_12, rf_123_15, rf_123_16, rf_123_17, rf_123_26, rf_123_29, rf_123_30, rf_123_32, rf_123_34, rf_123_35, rf_123_45, n_0, n_1, n_5, nn_lt, nn_nlt, nn_le, nn_nle, nn_ne, nn_sub, nn_mul, nI_add, nn_neg, nm_eq, mn_eq, mm_eq, mn_lt, nm_lt, mn_le, nm_le, nn_sub0, nn_of, implies_true, nn_c, nn_in, nn_div, nat_rem, Nat.reduceMul, Nat.reduceSub, Nat.reduceDiv, Nat.reduceMod, pf_at, pf_ne, mk_s, mk_1, Classical.not_not, b2i_T, b2i_F, false_imp_iff, true_imp_iff, false_and, and_false, p_sw, Int.reduceAdd, Int.zero_add, Option.some.injEq, Value.int.injEq, Value.long.injEq, Value.ref.injEq, exists_eq_left', mk_I, mk_L, mk_wI, mk_wL, rf_s, rf_n, true_and, and_true, and_self, or_true, true_or, or_false, false_or, not_true_eq_false, not_false_eq_true, Option.toList_some, Option.toList_none, List.cons_append, List.nil_append, List.map_nil, List.map_cons, List.sum_nil, List.sum_cons, cat_i, cat_l, cat_r, cat_n, Nat.reduceLeDiff, Nat.reduceAdd, Nat.reduceEqDiff, Nat.zero_le, p_ent, p_u_ne, p_u_at, reduceIte, if_true, if_false, P_ce s1]
      exact ⟨J, fin, rfl⟩
theorem testm_s {k0 : Nat} (hM : mF B T N o I) (hC : ∀ k, tC B T k < 356) (hN : ∀ k, N ≤ k → tC B T k = 0) (hk : k0 ≤ N) (hP : ∀ k, k0 ≤ k → k ≤ N → okPl o B T Ls I L R X k) : okTm o B T Ls I L R X k0 := by
  intro x d l c p g cs r d8 l5 hr
  have h4 := hM.2.1
  have T4 := hM.2.2.2.2.2.2
  rw [RB_1 hN h4 hk, ← bnd_as] at hr
  have ht : okO (bnd (RB o (tC B T) (tV B T) 0 false d k0 l c g []) fun r => RB o (tC B T) (tV B T) 2 false d r.1 r.2.1 c r.2.2.1 r.2.2.2) := bnd_t (RB_t hN h4 hk (by omega)) (fun a ha => RB_t hN h4 (RB_pr hN ha hk).1 (by omega))
  obtain ⟨q, hq⟩ := ht
  obtain ⟨J, o1, s173⟩ := both_m (x := x) (Ls := Ls) (L := L) (R := R) (X := X) hM hC hN d8 hP (Nat.le_refl k0) hk l5 hq
  rw [hq] at hr
  match q, hq, o1, hr with
  | .error e, hq, o1, hr =>
    cases hr
    obtain ⟨k', l', rfl⟩ := o1
    have te := tS_b (B := B) (T := T) e
    have nx := er_172b (d := x + 3 * (8 - d) + 7) (Ls := Ls) (I := I) (L := L) (R := R) (X := X) (k := k') (l := l') (p := tS B T e) (x := nI d) (by omega)
    refine ⟨_, ⟨k', l', rfl⟩, ?_⟩
    generalize mst I k' l' (nI (tS B T e)) = J1 at *
    generalize mst I k0 l (mI 1) = J at *
    simp -implicitDefEqProofs (disch := first | omega | decide) only [P_m, ↓P_run_eq _ 172 _ (p_bk 172 0), bk_172_0, pb_172_0, pw_aload_n0, pw_aloadN_n0, pw_iload_n1, pw_iv2, pw_nop, kd_123, rf_123_1, rf_123_2, rf_123_3, rf_123_4, rf_123_5, rf_123_7, rf_123_11, rf_123_12, rf_123_15, rf_123_16, rf_123_17, rf_123_26, rf_123_29, rf_123_30, rf_123_32, rf_123_34, rf_123_35, rf_123_45, n_0, n_1, nn_lt, nn_nlt, nn_le, nn_nle, nn_ne, nn_sub, nn_mul, nI_add, nn_neg, nm_eq, mn_eq, mm_eq, mn_lt, nm_lt, mn_le, nm_le, nn_sub0, nn_of, implies_true, nn_c, nn_in, nn_div, nat_rem, Nat.reduceMul, Nat.reduceSub, Nat.reduceDiv, Nat.reduceMod, pf_at, pf_ne, mk_s, mk_1, Classical.not_not, b2i_T, b2i_F, false_imp_iff, true_imp_iff, false_and, and_false, p_sw, Int.reduceAdd, Int.zero_add, Option.some.injEq, Value.int.injEq, Value.long.injEq, Value.ref.injEq, exists_eq_left', mk_I, mk_L, mk_wI, mk_wL, rf_s, rf_n, true_and, and_true, and_self, or_true, true_or, or_false, false_or, not_true_eq_false, not_false_eq_true, Option.toList_some, Option.toList_none, List.cons_append, List.nil_append, List.map_nil, List.map_cons, List.sum_nil, List.sum_cons, cat_i, cat_l, cat_r, cat_n, Nat.reduceLeDiff, Nat.reduceAdd, Nat.reduceEqDiff, Nat.zero_le, p_ent, p_u_ne, p_u_at, reduceIte, if_true, if_false, P_ce s173]
    exact nx
  | .ok q, hq, o1, hr =>
    rw [bnd_ok] at hr
    obtain ⟨a, h1, h2⟩ := bnd_iok hq
    obtain ⟨a1, a2, -⟩ := RB_pr hN h1 hk
    obtain ⟨b1, -, -, b2⟩ := RB_pr hN h2 a1
    have a2 := a2 rfl
    have b2 := b2 (by omega)
    have o1 : J = mst I q.1 q.2.1 (mI 1) := o1
    subst o1
    have nx := lp_172 (x := x) (Ls := Ls) (L := L) (R := R) (X := X) hM hC hN d8 hP (N - q.1) q.1 (Nat.le_refl _) (by omega) b1 q.2.1 _ _ _ _ r (RB_l h2 (RB_l h1 l5)) hr
    have all : P_m (x + 3 * (8 - d) + 9) 172 [.ref 123, .int (nI d)] (p_mk Ls (mst I k0 l (mI 1)) L R X) (fun v h' => v = none ∧ ∃ J, mR B T I J r ∧ h' = p_mk Ls J L R X) := by
      clear hr
      generalize mst I q.1 q.2.1 (mI 1) = J1 at *
      generalize mst I k0 l (mI 1) = J at *
      simp -implicitDefEqProofs (disch := first | omega | decide) only [P_m, ↓P_run_eq _ 172 _ (p_bk 172 0), bk_172_0, pb_172_0, pw_aload_n0, pw_aloadN_n0, pw_iload_n1, pw_iv2, pw_nop, kd_123, rf_123_1, rf_123_2, rf_123_3, rf_123_4, rf_123_5, rf_123_7, rf_123_11, rf_123_12, rf_123_15, rf_123_16, rf_123_17, rf_123_26, rf_123_29, rf_123_30, rf_123_32, rf_123_34, rf_123_35, rf_123_45, n_0, n_1, nn_lt, nn_nlt, nn_le, nn_nle, nn_ne, nn_sub, nn_mul, nI_add, nn_neg, nm_eq, mn_eq, mm_eq, mn_lt, nm_lt, mn_le, nm_le, nn_sub0, nn_of, implies_true, nn_c, nn_in, nn_div, nat_rem, Nat.reduceMul, Nat.reduceSub, Nat.reduceDiv, Nat.reduceMod, pf_at, pf_ne, mk_s, mk_1, Classical.not_not, b2i_T, b2i_F, false_imp_iff, true_imp_iff, false_and, and_false, p_sw, Int.reduceAdd, Int.zero_add, Option.some.injEq, Value.int.injEq, Value.long.injEq, Value.ref.injEq, exists_eq_left', mk_I, mk_L, mk_wI, mk_wL, rf_s, rf_n, true_and, and_true, and_self, or_true, true_or, or_false, false_or, not_true_eq_false, not_false_eq_true, Option.toList_some, Option.toList_none, List.cons_append, List.nil_append, List.map_nil, List.map_cons, List.sum_nil, List.sum_cons, cat_i, cat_l, cat_r, cat_n, Nat.reduceLeDiff, Nat.reduceAdd, Nat.reduceEqDiff, Nat.zero_le, p_ent, p_u_ne, p_u_at, reduceIte, if_true, if_false, P_ce s173]
      exact nx
    obtain ⟨v, g', ⟨rfl, J', f1, rfl⟩, s⟩ := P_mex all
    exact ⟨J', f1, s⟩
/-- the reference reads every test as the language says -/
theorem tests_m (hM : mF B T N o I) (hC : ∀ k, tC B T k < 356) (hN : ∀ k, N ≤ k → tC B T k = 0) : ∀ k, k ≤ N → okTm o B T Ls I L R X k := by
  have main : ∀ M k, k ≤ N → N - k ≤ M → okTm o B T Ls I L R X k := by
    intro M
    induction M with
    | zero =>
      intro k hk hMk
      exact testm_s hM hC hN hk (fun k' h1 h2 => plainm_s hM hC hN h2 (fun k'' h3 h5 => absurd h5 (by omega)))
    | succ M ih =>
      intro k hk hMk
      exact testm_s hM hC hN hk (fun k' h1 h2 => plainm_s hM hC hN h2 (fun k'' h3 h5 => ih (k'' + 1) (by omega) (by omega)))
  exact fun k hk => main (N - k) k hk (Nat.le_refl _)
end QX
