/-! THE REFERENCE READS CLAUSES -/
section RC1
variable {Ls : Nat} {I : Nat → Nat → Int32} {L : Nat → Nat → Int64} {R : Nat → Nat → Option Nat} {X : List pKd} {h : pHp} {B : Nat → Nat} {T N : Nat} {o : Bool}
/-- a clause's test: law -/
theorem if_169 {x k l c : Nat} {b : Except Nat (Nat × Nat × tDB × tCd)} (hM : mF B T N o I) (hC : ∀ k, tC B T k < 356) (hN : ∀ k, N ≤ k → tC B T k = 0) (hk : k ≤ N) (l5 : l ≤ 50) (hb : RIf o (tC B T) (tV B T) k l c = some b) : P_run (x + 34) 169 (p_bk 169 2) 0 0 [.ref 123] [] (p_mk Ls (mst I k l (mI 1)) L R X) (fun v h' => v = none ∧ ∃ J, mR B T I J b ∧ h' = p_mk Ls J L R X) ∧ P_run (x + 34) 170 (p_bk 170 4) 0 0 [.ref 123] [] (p_mk Ls (mst I k l (mI 1)) L R X) (fun v h' => v = none ∧ ∃ J, mR B T I J b ∧ h' = p_mk Ls J L R X) := by
  have s1 := ta_y (d := x + 32) (Ls := Ls) (L := L) (R := R) (X := X) (l := l) (c := 4) hM hk (by omega) (hC k)
  unfold RIf at hb
  by_cases c4 : tC B T k = 4
  · have kN := kN_of hN (show ¬ tC B T k = 0 by omega)
    rw [decide_eq_true c4, bN_t, if_pos c4] at s1
    rw [if_pos c4] at hb
    obtain ⟨J, o1, s172⟩ := tests_m (Ls := Ls) (L := L) (R := R) (X := X) hM hC hN (k + 1) (by omega) x 0 l c false _ [] b (by omega) l5 hb
    replace s172 : P_m (x + 33) 172 [.ref 123, .int (nI 0)] (p_mk Ls (mst I (k + 1) l (mI 1)) L R X) (fun v h' => v = none ∧ h' = p_mk Ls J L R X) := s172
    generalize mst I (k + 1) l (mI 1) = J1 at *
    generalize mst I k l (mI 1) = J2 at *
    constructor
    · rw [P_run_eq, bk_169_2, pb_169_2]; simp -implicitDefEqProofs (disch := first | omega | decide) only [P_m, ↓P_run_eq _ 169 _ (p_bk 169 3), bk_169_3, pb_169_3, pw_aload_n0, pw_aloadN_n0, pw_iconst, il_4, pw_iv2, pw_zeq, il_0, pw_nop, pw_vret, kd_123, rf_123_1, rf_123_2, rf_123_3, rf_123_4, rf_123_5, rf_123_7, rf_123_11, rf_123_12, rf_123_15, rf_123_16, rf_123_17, rf_123_26, rf_123_29, rf_123_30, rf_123_32, rf_123_34, rf_123_35, rf_123_45, n_0, n_1, n_4, nn_lt, nn_nlt, nn_le, nn_nle, nn_ne, nn_sub, nn_mul, nI_add, nn_neg, nm_eq, mn_eq, mm_eq, mn_lt, nm_lt, mn_le, nm_le, nn_sub0, nn_of, implies_true, nn_c, nn_in, nn_div, nat_rem, Nat.reduceMul, Nat.reduceSub, Nat.reduceDiv, Nat.reduceMod, pf_at, pf_ne, mk_s, mk_1, Classical.not_not, b2i_T, b2i_F, false_imp_iff, true_imp_iff, false_and, and_false, p_sw, Int.reduceAdd, Int.zero_add, Option.some.injEq, Value.int.injEq, Value.long.injEq, Value.ref.injEq, exists_eq_left', mk_I, mk_L, mk_wI, mk_wL, rf_s, rf_n, true_and, and_true, and_self, or_true, true_or, or_false, false_or, not_true_eq_false, not_false_eq_true, Option.toList_some, Option.toList_none, List.cons_append, List.nil_append, List.map_nil, List.map_cons, List.sum_nil, List.sum_cons, cat_i, cat_l, cat_r, cat_n, Nat.reduceLeDiff, Nat.reduceAdd, Nat.reduceEqDiff, Nat.zero_le, p_ent, p_u_ne, p_u_at, reduceIte, if_true, if_false, P_ce s1, P_ce s172]
      exact ⟨J, o1, rfl⟩
    · rw [P_run_eq, bk_170_4, pb_170_4]; simp -implicitDefEqProofs (disch := first | omega | decide) only [P_m, ↓P_run_eq _ 170 _ (p_bk 170 5), bk_170_5, pb_170_5, pw_aload_n0, pw_aloadN_n0, pw_iconst, il_4, pw_iv2, pw_zeq, il_0, pw_nop, pw_vret, kd_123, rf_123_1, rf_123_2, rf_123_3, rf_123_4, rf_123_5, rf_123_7, rf_123_11, rf_123_12, rf_123_15, rf_123_16, rf_123_17, rf_123_26, rf_123_29, rf_123_30, rf_123_32, rf_123_34, rf_123_35, rf_123_45, n_0, n_1, n_4, nn_lt, nn_nlt, nn_le, nn_nle, nn_ne, nn_sub, nn_mul, nI_add, nn_neg, nm_eq, mn_eq, mm_eq, mn_lt, nm_lt, mn_le, nm_le, nn_sub0, nn_of, implies_true, nn_c, nn_in, nn_div, nat_rem, Nat.reduceMul, Nat.reduceSub, Nat.reduceDiv, Nat.reduceMod, pf_at, pf_ne, mk_s, mk_1, Classical.not_not, b2i_T, b2i_F, false_imp_iff, true_imp_iff, false_and, and_false, p_sw, Int.reduceAdd, Int.zero_add, Option.some.injEq, Value.int.injEq, Value.long.injEq, Value.ref.injEq, exists_eq_left', mk_I, mk_L, mk_wI, mk_wL, rf_s, rf_n, true_and, and_true, and_self, or_true, true_or, or_false, false_or, not_true_eq_false, not_false_eq_true, Option.toList_some, Option.toList_none, List.cons_append, List.nil_append, List.map_nil, List.map_cons, List.sum_nil, List.sum_cons, cat_i, cat_l, cat_r, cat_n, Nat.reduceLeDiff, Nat.reduceAdd, Nat.reduceEqDiff, Nat.zero_le, p_ent, p_u_ne, p_u_at, reduceIte, if_true, if_false, P_ce s1, P_ce s172]
      exact ⟨J, o1, rfl⟩
  · rw [decide_eq_false c4, bN_f, if_neg c4] at s1
    rw [if_neg c4] at hb
    cases hb
    have fin : mR B T I (mst I k l (mI 1)) (.ok (k, l, (fun _ => some true), []) : Except Nat (Nat × Nat × tDB × tCd)) := rfl
    generalize (Except.ok (k, l, (fun _ => some true), []) : Except Nat (Nat × Nat × tDB × tCd)) = RR at *
    generalize mst I k l (mI 1) = J2 at *
    constructor
    · rw [P_run_eq, bk_169_2, pb_169_2]; simp -implicitDefEqProofs (disch := first | omega | decide) only [P_m, ↓P_run_eq _ 169 _ (p_bk 169 3), bk_169_3, pb_169_3, pw_aload_n0, pw_aloadN_n0, pw_iconst, il_4, pw_iv2, pw_zeq, il_0, pw_nop, pw_vret, kd_123, rf_123_1, rf_123_2, rf_123_3, rf_123_4, rf_123_5, rf_123_7, rf_123_11, rf_123_12, rf_123_15, rf_123_16, rf_123_17, rf_123_26, rf_123_29, rf_123_30, rf_123_32, rf_123_34, rf_123_35, rf_123_45, n_0, n_1, n_4, nn_lt, nn_nlt, nn_le, nn_nle, nn_ne, nn_sub, nn_mul, nI_add, nn_neg, nm_eq, mn_eq, mm_eq, mn_lt, nm_lt, mn_le, nm_le, nn_sub0, nn_of, implies_true, nn_c, nn_in, nn_div, nat_rem, Nat.reduceMul, Nat.reduceSub, Nat.reduceDiv, Nat.reduceMod, pf_at, pf_ne, mk_s, mk_1, Classical.not_not, b2i_T, b2i_F, false_imp_iff, true_imp_iff, false_and, and_false, p_sw, Int.reduceAdd, Int.zero_add, Option.some.injEq, Value.int.injEq, Value.long.injEq, Value.ref.injEq, exists_eq_left', mk_I, mk_L, mk_wI, mk_wL, rf_s, rf_n, true_and, and_true, and_self, or_true, true_or, or_false, false_or, not_true_eq_false, not_false_eq_true, Option.toList_some, Option.toList_none, List.cons_append, List.nil_append, List.map_nil, List.map_cons, List.sum_nil, List.sum_cons, cat_i, cat_l, cat_r, cat_n, Nat.reduceLeDiff, Nat.reduceAdd, Nat.reduceEqDiff, Nat.zero_le, p_ent, p_u_ne, p_u_at, reduceIte, if_true, if_false, P_ce s1]
      exact ⟨J2, fin, rfl⟩
    · rw [P_run_eq, bk_170_4, pb_170_4]; simp -implicitDefEqProofs (disch := first | omega | decide) only [P_m, ↓P_run_eq _ 170 _ (p_bk 170 5), bk_170_5, pb_170_5, pw_aload_n0, pw_aloadN_n0, pw_iconst, il_4, pw_iv2, pw_zeq, il_0, pw_nop, pw_vret, kd_123, rf_123_1, rf_123_2, rf_123_3, rf_123_4, rf_123_5, rf_123_7, rf_123_11, rf_123_12, rf_123_15, rf_123_16, rf_123_17, rf_123_26, rf_123_29, rf_123_30, rf_123_32, rf_123_34, rf_123_35, rf_123_45, n_0, n_1, n_4, nn_lt, nn_nlt, nn_le, nn_nle, nn_ne, nn_sub, nn_mul, nI_add, nn_neg, nm_eq, mn_eq, mm_eq, mn_lt, nm_lt, mn_le, nm_le, nn_sub0, nn_of, implies_true, nn_c, nn_in, nn_div, nat_rem, Nat.reduceMul, Nat.reduceSub, Nat.reduceDiv, Nat.reduceMod, pf_at, pf_ne, mk_s, mk_1, Classical.not_not, b2i_T, b2i_F, false_imp_iff, true_imp_iff, false_and, and_false, p_sw, Int.reduceAdd, Int.zero_add, Option.some.injEq, Value.int.injEq, Value.long.injEq, Value.ref.injEq, exists_eq_left', mk_I, mk_L, mk_wI, mk_wL, rf_s, rf_n, true_and, and_true, and_self, or_true, true_or, or_false, false_or, not_true_eq_false, not_false_eq_true, Option.toList_some, Option.toList_none, List.cons_append, List.nil_append, List.map_nil, List.map_cons, List.sum_nil, List.sum_cons, cat_i, cat_l, cat_r, cat_n, Nat.reduceLeDiff, Nat.reduceAdd, Nat.reduceEqDiff, Nat.zero_le, p_ent, p_u_ne, p_u_at, reduceIte, if_true, if_false, P_ce s1]
      exact ⟨J2, fin, rfl⟩
theorem if_er {x k l p : Nat} (hp : p ≤ 400) : P_run (x + 34) 169 (p_bk 169 2) 0 0 [.ref 123] [] (p_mk Ls (mst I k l (nI p)) L R X) (fun v h' => v = none ∧ h' = p_mk Ls (mst I k l (nI p)) L R X) ∧ P_run (x + 34) 170 (p_bk 170 4) 0 0 [.ref 123] [] (p_mk Ls (mst I k l (nI p)) L R X) (fun v h' => v = none ∧ h' = p_mk Ls (mst I k l (nI p)) L R X) ∧ P_run (x + 34) 170 (p_bk 170 3) 0 0 [.ref 123] [] (p_mk Ls (mst I k l (nI p)) L R X) (fun v h' => v = none ∧ h' = p_mk Ls (mst I k l (nI p)) L R X) := by
  have s1 := ta_n (d := x + 32) (Ls := Ls) (I := I) (L := L) (R := R) (X := X) (k := k) (l := l) (c := nI 4) hp
  have s2 := ta_n (d := x + 32) (Ls := Ls) (I := I) (L := L) (R := R) (X := X) (k := k) (l := l) (c := nI 23) hp
  generalize mst I k l (nI p) = J at *
  refine ⟨?_, ?_, ?_⟩
  · rw [P_run_eq, bk_169_2, pb_169_2]; simp -implicitDefEqProofs (disch := first | omega | decide) only [P_m, ↓P_run_eq _ 169 _ (p_bk 169 3), bk_169_3, pb_169_3, pw_aload_n0, pw_aloadN_n0, pw_iconst, il_4, pw_iv2, pw_zeq, il_0, pw_nop, pw_vret, kd_123, rf_123_1, rf_123_2, rf_123_3, rf_123_4, rf_123_5, rf_123_7, rf_123_11, rf_123_12, rf_123_15, rf_123_16, rf_123_17, rf_123_26, rf_123_29, rf_123_30, rf_123_32, rf_123_34, rf_123_35, rf_123_45, n_0, n_1, n_4, nn_lt, nn_nlt, nn_le, nn_nle, nn_ne, nn_sub, nn_mul, nI_add, nn_neg, nm_eq, mn_eq, mm_eq, mn_lt, nm_lt, mn_le, nm_le, nn_sub0, nn_of, implies_true, nn_c, nn_in, nn_div, nat_rem, Nat.reduceMul, Nat.reduceSub, Nat.reduceDiv, Nat.reduceMod, pf_at, pf_ne, mk_s, mk_1, Classical.not_not, b2i_T, b2i_F, false_imp_iff, true_imp_iff, false_and, and_false, p_sw, Int.reduceAdd, Int.zero_add, Option.some.injEq, Value.int.injEq, Value.long.injEq, Value.ref.injEq, exists_eq_left', mk_I, mk_L, mk_wI, mk_wL, rf_s, rf_n, true_and, and_true, and_self, or_true, true_or, or_false, false_or, not_true_eq_false, not_false_eq_true, Option.toList_some, Option.toList_none, List.cons_append, List.nil_append, List.map_nil, List.map_cons, List.sum_nil, List.sum_cons, cat_i, cat_l, cat_r, cat_n, Nat.reduceLeDiff, Nat.reduceAdd, Nat.reduceEqDiff, Nat.zero_le, p_ent, p_u_ne, p_u_at, reduceIte, if_true, if_false, P_ce s1]
  · rw [P_run_eq, bk_170_4, pb_170_4]; simp -implicitDefEqProofs (disch := first | omega | decide) only [P_m, ↓P_run_eq _ 170 _ (p_bk 170 5), bk_170_5, pb_170_5, pw_aload_n0, pw_aloadN_n0, pw_iconst, il_4, pw_iv2, pw_zeq, il_0, pw_nop, pw_vret, kd_123, rf_123_1, rf_123_2, rf_123_3, rf_123_4, rf_123_5, rf_123_7, rf_123_11, rf_123_12, rf_123_15, rf_123_16, rf_123_17, rf_123_26, rf_123_29, rf_123_30, rf_123_32, rf_123_34, rf_123_35, rf_123_45, n_0, n_1, n_4, nn_lt, nn_nlt, nn_le, nn_nle, nn_ne, nn_sub, nn_mul, nI_add, nn_neg, nm_eq, mn_eq, mm_eq, mn_lt, nm_lt, mn_le, nm_le, nn_sub0, nn_of, implies_true, nn_c, nn_in, nn_div, nat_rem, Nat.reduceMul, Nat.reduceSub, Nat.reduceDiv, Nat.reduceMod, pf_at, pf_ne, mk_s, mk_1, Classical.not_not, b2i_T, b2i_F, false_imp_iff, true_imp_iff, false_and, and_false, p_sw, Int.reduceAdd, Int.zero_add, Option.some.injEq, Value.int.injEq, Value.long.injEq, Value.ref.injEq, exists_eq_left', mk_I, mk_L, mk_wI, mk_wL, rf_s, rf_n, true_and, and_true, and_self, or_true, true_or, or_false, false_or, not_true_eq_false, not_false_eq_true, Option.toList_some, Option.toList_none, List.cons_append, List.nil_append, List.map_nil, List.map_cons, List.sum_nil, List.sum_cons, cat_i, cat_l, cat_r, cat_n, Nat.reduceLeDiff, Nat.reduceAdd, Nat.reduceEqDiff, Nat.zero_le, p_ent, p_u_ne, p_u_at, reduceIte, if_true, if_false, P_ce s1]
  · rw [P_run_eq, bk_170_3, pb_170_3]; simp -implicitDefEqProofs (disch := first | omega | decide) only [P_m, ↓P_run_eq _ 170 _ (p_bk 170 4), bk_170_4, pb_170_4, ↓P_run_eq _ 170 _ (p_bk 170 5), bk_170_5, pb_170_5, pw_aload_n0, pw_aloadN_n0, pw_bipush, bl_23, pw_iv2, pw_zeq, pw_iconst, il_1, bl_20, pw_iv3, pw_nop, il_4, il_0, pw_vret, kd_123, rf_123_1, rf_123_2, rf_123_3, rf_123_4, rf_123_5, rf_123_7, rf_123_11, rf_123_12, rf_123_15, rf_123_16, rf_123_17, rf_123_26, rf_123_29, rf_123_30, rf_123_32, rf_123_34, rf_123_35, rf_123_45, n_0, n_1, n_4, n_20, n_23, nn_lt, nn_nlt, nn_le, nn_nle, nn_ne, nn_sub, nn_mul, nI_add, nn_neg, nm_eq, mn_eq, mm_eq, mn_lt, nm_lt, mn_le, nm_le, nn_sub0, nn_of, implies_true, nn_c, nn_in, nn_div, nat_rem, Nat.reduceMul, Nat.reduceSub, Nat.reduceDiv, Nat.reduceMod, pf_at, pf_ne, mk_s, mk_1, Classical.not_not, b2i_T, b2i_F, false_imp_iff, true_imp_iff, false_and, and_false, p_sw, Int.reduceAdd, Int.zero_add, Option.some.injEq, Value.int.injEq, Value.long.injEq, Value.ref.injEq, exists_eq_left', mk_I, mk_L, mk_wI, mk_wL, rf_s, rf_n, true_and, and_true, and_self, or_true, true_or, or_false, false_or, not_true_eq_false, not_false_eq_true, Option.toList_some, Option.toList_none, List.cons_append, List.nil_append, List.map_nil, List.map_cons, List.sum_nil, List.sum_cons, cat_i, cat_l, cat_r, cat_n, Nat.reduceLeDiff, Nat.reduceAdd, Nat.reduceEqDiff, Nat.zero_le, p_ent, p_u_ne, p_u_at, reduceIte, if_true, if_false, P_ce s1, P_ce s2]
/-- what a clause leaves, from its parts' ends -/
theorem mR_if {J : Nat → Nat → Int32} {b : Except Nat (Nat × Nat × tDB × tCd)} {q : Except Nat (Nat × Nat × tCl)} {kd t : Nat} {s : tCd} {f : tDS} (hq : (bnd (some b) fun b => some (.ok (b.1, b.2.1, kd, t, s, b.2.2.2, f, b.2.2.1))) = some q) (h : mR B T I J b) : mR B T I J q := by
  match b, hq, h with
  | .error e, hq, h => cases hq; exact h
  | .ok b, hq, h => cases hq; exact h
theorem hd_f : ∀ c, c < 356 → (c = 1 → hdK false c = 0) ∧ (c = 2 → hdK false c = 1) ∧ (c = 3 → hdK false c = 2) ∧ (¬ c = 1 → ¬ c = 2 → ¬ c = 3 → hdK false c = 9) := by decide +kernel
theorem hd_t (c : Nat) (_ : c < 356) : (c = 19 → hdK true c = 0) ∧ (c = 20 → hdK true c = 1) ∧ (c = 21 → hdK true c = 2) ∧ (c = 22 → hdK true c = 3) ∧ (¬ c = 19 → ¬ c = 20 → ¬ c = 21 → ¬ c = 22 → hdK true c = 9) :=
  ⟨fun h => by subst h; rfl, fun h => by subst h; rfl, fun h => by subst h; rfl, fun h => by subst h; rfl, fun h1 h2 h3 h4 => by unfold hdK; rw [if_pos rfl, if_neg (by omega)]⟩
theorem pl_169 {x k l c : Nat} {q : Except Nat (Nat × Nat × tCl)} (hM : mF B T N false I) (hC : ∀ k, tC B T k < 356) (hN : ∀ k, N ≤ k → tC B T k = 0) (hk : k ≤ N) (l5 : l ≤ 50) (hq : RC false (tC B T) (tV B T) k l c = some q) : ∃ J, mR B T I J q ∧ P_m (x + 34) 169 [.ref 123] (p_mk Ls (mst I k l (mI 1)) L R X) (fun v h' => v = none ∧ h' = p_mk Ls J L R X) := by
  have h4 := hM.2.1
  have T4 := hM.2.2.2.2.2.2
  rw [RC_e] at hq
  obtain ⟨d1, d2, d3, d4⟩ := hd_f _ (hC k)
  have tm : ∀ k', pTm false (tC B T) (tV B T) k' = some (.ok (k', 1)) := fun k' => by unfold pTm; rw [if_neg (fun h => by cases h.1)]
  have z1 := ta_y (d := x + 32) (Ls := Ls) (L := L) (R := R) (X := X) (l := l) (c := 1) hM hk (by omega) (hC k)
  have z2 := ta_y (d := x + 32) (Ls := Ls) (L := L) (R := R) (X := X) (l := l) (c := 2) hM hk (by omega) (hC k)
  have z3 := mu_y (d := x + 31) (Ls := Ls) (L := L) (R := R) (X := X) (l := l) (c := 3) hM hk (by omega) (hC k)
  have tb := tS_b (B := B) (T := T) k
  have all : P_m (x + 34) 169 [.ref 123] (p_mk Ls (mst I k l (mI 1)) L R X) (fun v h' => v = none ∧ ∃ J, mR B T I J q ∧ h' = p_mk Ls J L R X) := by
    -- no sum
    have plain : ∀ kd, hdK false (tC B T k) = kd → (kd = 1 ∨ kd = 2) → k < N → P_run (x + 34) 169 (p_bk 169 2) 0 0 [.ref 123] [] (p_mk Ls (mst I (k + 1) l (mI 1)) L R X) (fun v h' => v = none ∧ ∃ J, mR B T I J q ∧ h' = p_mk Ls J L R X) := by
      intro kd ek hkd kN
      rw [ek, if_neg (by omega)] at hq
      have rs : RSm false (tC B T) (tV B T) (k + 1) l kd = some (.ok (k + 1, l, fun _ => some 1, [])) := by
        unfold RSm hasS
        rcases hkd with e | e <;> rw [e] <;> rfl
      rw [rs, bnd_ok, tm, bnd_ok] at hq
      obtain ⟨b, hb⟩ := RIf_t (o := false) (V := tV B T) (l := l) (c := c + ([] : tCd).length) hN h4 (show k + 1 ≤ N by omega)
      have hq' := hq
      rw [show RIf false (tC B T) (tV B T) (k + 1, 1).1 (k + 1, l, (fun _ => some 1 : tDS), ([] : tCd)).2.1 (c + (k + 1, l, (fun _ => some 1 : tDS), ([] : tCd)).2.2.2.length) = some b from hb] at hq'
      refine p_run_Q (if_169 (x := x) (Ls := Ls) (L := L) (R := R) (X := X) hM hC hN (by omega) l5 hb).1 ?_
      rintro _ _ ⟨rfl, J, hJ, rfl⟩
      exact ⟨rfl, J, mR_if hq' hJ, rfl⟩
    by_cases c1 : tC B T k = 1
    · have kN := kN_of hN (show ¬ tC B T k = 0 by omega)
      rw [decide_eq_true c1, bN_t, if_pos c1] at z1
      rw [d1 c1, if_neg (by omega)] at hq
      have rs : RSm false (tC B T) (tV B T) (k + 1) l 0 = RS false (tC B T) (tV B T) 1 0 (k + 1) l (fun _ => none) [] := rfl
      rw [rs] at hq
      obtain ⟨s, hs⟩ := RS_t (o := false) (V := tV B T) (md := 1) (d := 0) (l := l) (f := fun _ => none) (cs := []) hN h4 (show k + 1 ≤ N by omega) (by omega)
      obtain ⟨J, o1, s175⟩ := sums_m (Ls := Ls) (L := L) (R := R) (X := X) hM hC hN (k + 1) (by omega) (x + 3) 0 l _ [] s (by omega) l5 hs
      replace s175 : P_m (x + 33) 175 [.ref 123, .int (nI 0)] (p_mk Ls (mst I (k + 1) l (mI 1)) L R X) (fun v h' => v = none ∧ h' = p_mk Ls J L R X) := s175
      rw [hs] at hq
      match s, hs, o1, hq with
      | .error e, hs, o1, hq =>
        cases hq
        obtain ⟨k', l', rfl⟩ := o1
        have te := tS_b (B := B) (T := T) e
        have nx := (if_er (x := x) (Ls := Ls) (I := I) (L := L) (R := R) (X := X) (k := k') (l := l') (p := tS B T e) (by omega)).1
        have nx := p_run_Q (Q2 := fun v h' => v = none ∧ ∃ J, mR B T I J (.error e : Except Nat (Nat × Nat × tCl)) ∧ h' = p_mk Ls J L R X) nx (by
          rintro _ _ ⟨rfl, rfl⟩
          exact ⟨rfl, _, ⟨k', l', rfl⟩, rfl⟩)
        clear z2 z3 plain
        generalize mst I k' l' (nI (tS B T e)) = J1 at *
        generalize mst I (k + 1) l (mI 1) = J2 at *
        generalize mst I k l (mI 1) = J3 at *
        simp -implicitDefEqProofs (disch := first | omega | decide) only [P_m, ↓P_run_eq _ 169 _ (p_bk 169 0), bk_169_0, pb_169_0, pw_aload_n0, pw_aloadN_n0, pw_iconst, il_1, pw_iv2, pw_zeq, il_0, pw_goto, kd_123, rf_123_1, rf_123_2, rf_123_3, rf_123_4, rf_123_5, rf_123_7, rf_123_11, rf_123_12, rf_123_15, rf_123_16, rf_123_17, rf_123_26, rf_123_29, rf_123_30, rf_123_32, rf_123_34, rf_123_35, rf_123_45, n_0, n_1, nn_lt, nn_nlt, nn_le, nn_nle, nn_ne, nn_sub, nn_mul, nI_add, nn_neg, nm_eq, mn_eq, mm_eq, mn_lt, nm_lt, mn_le, nm_le, nn_sub0, nn_of, implies_true, nn_c, nn_in, nn_div, nat_rem, Nat.reduceMul, Nat.reduceSub, Nat.reduceDiv, Nat.reduceMod, pf_at, pf_ne, mk_s, mk_1, Classical.not_not, b2i_T, b2i_F, false_imp_iff, true_imp_iff, false_and, and_false, p_sw, Int.reduceAdd, Int.zero_add, Option.some.injEq, Value.int.injEq, Value.long.injEq, Value.ref.injEq, exists_eq_left', mk_I, mk_L, mk_wI, mk_wL, rf_s, rf_n, true_and, and_true, and_self, or_true, true_or, or_false, false_or, not_true_eq_false, not_false_eq_true, Option.toList_some, Option.toList_none, List.cons_append, List.nil_append, List.map_nil, List.map_cons, List.sum_nil, List.sum_cons, cat_i, cat_l, cat_r, cat_n, Nat.reduceLeDiff, Nat.reduceAdd, Nat.reduceEqDiff, Nat.zero_le, p_ent, p_u_ne, p_u_at, reduceIte, if_true, if_false, P_ce z1, P_ce s175]
        exact nx
      | .ok s, hs, o1, hq =>
        have o1 : J = mst I s.1 s.2.1 (mI 1) := o1
        subst o1
        have s1 := (RS_pr hN hs (show k + 1 ≤ N by omega)).1
        rw [bnd_ok, tm, bnd_ok] at hq
        obtain ⟨b, hb⟩ := RIf_t (o := false) (V := tV B T) (l := s.2.1) (c := c + s.2.2.2.length) hN h4 s1
        have hq' := hq
        rw [show RIf false (tC B T) (tV B T) (s.1, 1).1 s.2.1 (c + s.2.2.2.length) = some b from hb] at hq'
        have nx : P_run (x + 34) 169 (p_bk 169 2) 0 0 [.ref 123] [] (p_mk Ls (mst I s.1 s.2.1 (mI 1)) L R X) (fun v h' => v = none ∧ ∃ J, mR B T I J q ∧ h' = p_mk Ls J L R X) := by
          refine p_run_Q (if_169 (x := x) (Ls := Ls) (L := L) (R := R) (X := X) hM hC hN s1 (RS_l hs l5) hb).1 ?_
          rintro _ _ ⟨rfl, J, hJ, rfl⟩
          exact ⟨rfl, J, mR_if hq' hJ, rfl⟩
        clear z2 z3 plain hq hq'
        generalize mst I s.1 s.2.1 (mI 1) = J1 at *
        generalize mst I (k + 1) l (mI 1) = J2 at *
        generalize mst I k l (mI 1) = J3 at *
        simp -implicitDefEqProofs (disch := first | omega | decide) only [P_m, ↓P_run_eq _ 169 _ (p_bk 169 0), bk_169_0, pb_169_0, pw_aload_n0, pw_aloadN_n0, pw_iconst, il_1, pw_iv2, pw_zeq, il_0, pw_goto, kd_123, rf_123_1, rf_123_2, rf_123_3, rf_123_4, rf_123_5, rf_123_7, rf_123_11, rf_123_12, rf_123_15, rf_123_16, rf_123_17, rf_123_26, rf_123_29, rf_123_30, rf_123_32, rf_123_34, rf_123_35, rf_123_45, n_0, n_1, nn_lt, nn_nlt, nn_le, nn_nle, nn_ne, nn_sub, nn_mul, nI_add, nn_neg, nm_eq, mn_eq, mm_eq, mn_lt, nm_lt, mn_le, nm_le, nn_sub0, nn_of, implies_true, nn_c, nn_in, nn_div, nat_rem, Nat.reduceMul, Nat.reduceSub, Nat.reduceDiv, Nat.reduceMod, pf_at, pf_ne, mk_s, mk_1, Classical.not_not, b2i_T, b2i_F, false_imp_iff, true_imp_iff, false_and, and_false, p_sw, Int.reduceAdd, Int.zero_add, Option.some.injEq, Value.int.injEq, Value.long.injEq, Value.ref.injEq, exists_eq_left', mk_I, mk_L, mk_wI, mk_wL, rf_s, rf_n, true_and, and_true, and_self, or_true, true_or, or_false, false_or, not_true_eq_false, not_false_eq_true, Option.toList_some, Option.toList_none, List.cons_append, List.nil_append, List.map_nil, List.map_cons, List.sum_nil, List.sum_cons, cat_i, cat_l, cat_r, cat_n, Nat.reduceLeDiff, Nat.reduceAdd, Nat.reduceEqDiff, Nat.zero_le, p_ent, p_u_ne, p_u_at, reduceIte, if_true, if_false, P_ce z1, P_ce s175]
        exact nx
    · rw [decide_eq_false c1, bN_f, if_neg c1] at z1
      by_cases c2 : tC B T k = 2
      · have nx := plain 1 (d2 c2) (Or.inl rfl) (kN_of hN (show ¬ tC B T k = 0 by omega))
        rw [decide_eq_true c2, bN_t, if_pos c2] at z2
        clear z3 plain hq
        generalize mst I (k + 1) l (mI 1) = J2 at *
        generalize mst I k l (mI 1) = J3 at *
        simp -implicitDefEqProofs (disch := first | omega | decide) only [P_m, ↓P_run_eq _ 169 _ (p_bk 169 0), bk_169_0, pb_169_0, ↓P_run_eq _ 169 _ (p_bk 169 1), bk_169_1, pb_169_1, pw_aload_n0, pw_aloadN_n0, pw_iconst, il_1, pw_iv2, pw_zeq, il_0, pw_goto, il_2, pw_zne, il_3, pw_nop, kd_123, rf_123_1, rf_123_2, rf_123_3, rf_123_4, rf_123_5, rf_123_7, rf_123_11, rf_123_12, rf_123_15, rf_123_16, rf_123_17, rf_123_26, rf_123_29, rf_123_30, rf_123_32, rf_123_34, rf_123_35, rf_123_45, n_0, n_1, n_2, n_3, nn_lt, nn_nlt, nn_le, nn_nle, nn_ne, nn_sub, nn_mul, nI_add, nn_neg, nm_eq, mn_eq, mm_eq, mn_lt, nm_lt, mn_le, nm_le, nn_sub0, nn_of, implies_true, nn_c, nn_in, nn_div, nat_rem, Nat.reduceMul, Nat.reduceSub, Nat.reduceDiv, Nat.reduceMod, pf_at, pf_ne, mk_s, mk_1, Classical.not_not, b2i_T, b2i_F, false_imp_iff, true_imp_iff, false_and, and_false, p_sw, Int.reduceAdd, Int.zero_add, Option.some.injEq, Value.int.injEq, Value.long.injEq, Value.ref.injEq, exists_eq_left', mk_I, mk_L, mk_wI, mk_wL, rf_s, rf_n, true_and, and_true, and_self, or_true, true_or, or_false, false_or, not_true_eq_false, not_false_eq_true, Option.toList_some, Option.toList_none, List.cons_append, List.nil_append, List.map_nil, List.map_cons, List.sum_nil, List.sum_cons, cat_i, cat_l, cat_r, cat_n, Nat.reduceLeDiff, Nat.reduceAdd, Nat.reduceEqDiff, Nat.zero_le, p_ent, p_u_ne, p_u_at, reduceIte, if_true, if_false, P_ce z1, P_ce z2]
        exact nx
      · rw [decide_eq_false c2, bN_f, if_neg c2] at z2
        by_cases c3 : tC B T k = 3
        · have nx := plain 2 (d3 c3) (Or.inr rfl) (kN_of hN (show ¬ tC B T k = 0 by omega))
          rw [if_pos c3] at z3
          clear plain hq
          generalize mst I (k + 1) l (mI 1) = J2 at *
          generalize mst I k l (mI 1) = J3 at *
          simp -implicitDefEqProofs (disch := first | omega | decide) only [P_m, ↓P_run_eq _ 169 _ (p_bk 169 0), bk_169_0, pb_169_0, ↓P_run_eq _ 169 _ (p_bk 169 1), bk_169_1, pb_169_1, pw_aload_n0, pw_aloadN_n0, pw_iconst, il_1, pw_iv2, pw_zeq, il_0, pw_goto, il_2, pw_zne, il_3, pw_nop, kd_123, rf_123_1, rf_123_2, rf_123_3, rf_123_4, rf_123_5, rf_123_7, rf_123_11, rf_123_12, rf_123_15, rf_123_16, rf_123_17, rf_123_26, rf_123_29, rf_123_30, rf_123_32, rf_123_34, rf_123_35, rf_123_45, n_0, n_1, n_2, n_3, nn_lt, nn_nlt, nn_le, nn_nle, nn_ne, nn_sub, nn_mul, nI_add, nn_neg, nm_eq, mn_eq, mm_eq, mn_lt, nm_lt, mn_le, nm_le, nn_sub0, nn_of, implies_true, nn_c, nn_in, nn_div, nat_rem, Nat.reduceMul, Nat.reduceSub, Nat.reduceDiv, Nat.reduceMod, pf_at, pf_ne, mk_s, mk_1, Classical.not_not, b2i_T, b2i_F, false_imp_iff, true_imp_iff, false_and, and_false, p_sw, Int.reduceAdd, Int.zero_add, Option.some.injEq, Value.int.injEq, Value.long.injEq, Value.ref.injEq, exists_eq_left', mk_I, mk_L, mk_wI, mk_wL, rf_s, rf_n, true_and, and_true, and_self, or_true, true_or, or_false, false_or, not_true_eq_false, not_false_eq_true, Option.toList_some, Option.toList_none, List.cons_append, List.nil_append, List.map_nil, List.map_cons, List.sum_nil, List.sum_cons, cat_i, cat_l, cat_r, cat_n, Nat.reduceLeDiff, Nat.reduceAdd, Nat.reduceEqDiff, Nat.zero_le, p_ent, p_u_ne, p_u_at, reduceIte, if_true, if_false, P_ce z1, P_ce z2, P_ce z3]
          exact nx
        · rw [if_neg c3] at z3
          rw [d4 c1 c2 c3, if_pos rfl] at hq
          cases hq
          have nx := (if_er (x := x) (Ls := Ls) (I := I) (L := L) (R := R) (X := X) (k := k) (l := l) (p := tS B T k) (by omega)).1
          have nx := p_run_Q (Q2 := fun v h' => v = none ∧ ∃ J, mR B T I J (.error k : Except Nat (Nat × Nat × tCl)) ∧ h' = p_mk Ls J L R X) nx (by
            rintro _ _ ⟨rfl, rfl⟩
            exact ⟨rfl, _, ⟨k, l, rfl⟩, rfl⟩)
          clear plain
          generalize mst I k l (nI (tS B T k)) = J2 at *
          generalize mst I k l (mI 1) = J3 at *
          simp -implicitDefEqProofs (disch := first | omega | decide) only [P_m, ↓P_run_eq _ 169 _ (p_bk 169 0), bk_169_0, pb_169_0, ↓P_run_eq _ 169 _ (p_bk 169 1), bk_169_1, pb_169_1, pw_aload_n0, pw_aloadN_n0, pw_iconst, il_1, pw_iv2, pw_zeq, il_0, pw_goto, il_2, pw_zne, il_3, pw_nop, kd_123, rf_123_1, rf_123_2, rf_123_3, rf_123_4, rf_123_5, rf_123_7, rf_123_11, rf_123_12, rf_123_15, rf_123_16, rf_123_17, rf_123_26, rf_123_29, rf_123_30, rf_123_32, rf_123_34, rf_123_35, rf_123_45, n_0, n_1, n_2, n_3, nn_lt, nn_nlt, nn_le, nn_nle, nn_ne, nn_sub, nn_mul, nI_add, nn_neg, nm_eq, mn_eq, mm_eq, mn_lt, nm_lt, mn_le, nm_le, nn_sub0, nn_of, implies_true, nn_c, nn_in, nn_div, nat_rem, Nat.reduceMul, Nat.reduceSub, Nat.reduceDiv, Nat.reduceMod, pf_at, pf_ne, mk_s, mk_1, Classical.not_not, b2i_T, b2i_F, false_imp_iff, true_imp_iff, false_and, and_false, p_sw, Int.reduceAdd, Int.zero_add, Option.some.injEq, Value.int.injEq, Value.long.injEq, Value.ref.injEq, exists_eq_left', mk_I, mk_L, mk_wI, mk_wL, rf_s, rf_n, true_and, and_true, and_self, or_true, true_or, or_false, false_or, not_true_eq_false, not_false_eq_true, Option.toList_some, Option.toList_none, List.cons_append, List.nil_append, List.map_nil, List.map_cons, List.sum_nil, List.sum_cons, cat_i, cat_l, cat_r, cat_n, Nat.reduceLeDiff, Nat.reduceAdd, Nat.reduceEqDiff, Nat.zero_le, p_ent, p_u_ne, p_u_at, reduceIte, if_true, if_false, P_ce z1, P_ce z2, P_ce z3]
          exact nx
  obtain ⟨v, g', ⟨rfl, J', f1, rfl⟩, s⟩ := P_mex all
  exact ⟨J', f1, s⟩
end RC1
