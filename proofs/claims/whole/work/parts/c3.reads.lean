/-! THE REFERENCE READS A TEXT -/
section RZ
variable {Ls : Nat} {I : Nat → Nat → Int32} {L : Nat → Nat → Int64} {R : Nat → Nat → Option Nat} {X : List pKd} {h : pHp} {B : Nat → Nat} {T N : Nat} {o : Bool}
theorem en_178e {x k l p n : Nat} (hp : p ≤ 400) (hn : n ≤ 20) : P_run (x + 36) 178 (p_bk 178 1) 0 0 [.ref 123, .int (nI n)] [] (p_mk Ls (mst I k l (nI p)) L R X) (fun v h' => v = some (.int (nI 0)) ∧ h' = p_mk Ls (p_u (mst I k l (nI p)) 123 14 (nI p)) L R X) := by
  have s1 := ta_n (d := x + 34) (Ls := Ls) (I := I) (L := L) (R := R) (X := X) (k := k) (l := l) (c := nI 159) hp
  have s2 := fi_n (d := x + 35) (Ls := Ls) (I := I) (L := L) (R := R) (X := X) (k := k) (l := l) hp
  have e21 := mst_21 (I := I) (k := k) (l := l) (b := nI p)
  have s3 : P_m (x + 35) 162 [.ref 123] (p_mk Ls (p_u (mst I k l (nI p)) 123 14 (nI p)) L R X) (fun v h' => v = some (.int (nI 0)) ∧ h' = p_mk Ls (p_u (mst I k l (nI p)) 123 14 (nI p)) L R X) := by
    have e : p_u (mst I k l (nI p)) 123 14 (nI p) 123 21 = nI p := by rw [p_u_at, if_neg (by omega)]; exact e21
    generalize p_u (mst I k l (nI p)) 123 14 (nI p) = J at *
    simp -implicitDefEqProofs (disch := first | omega | decide) only [P_m, ↓P_run_eq _ 162 _ (p_bk 162 0), bk_162_0, pb_162_0, ↓P_run_eq _ 162 _ (p_bk 162 1), bk_162_1, pb_162_1, ↓P_run_eq _ 162 _ (p_bk 162 2), bk_162_2, pb_162_2, pw_aload_n0, pw_aloadN_n0, pw_getI, pw_iconst, il_m1, pw_cne, il_1, pw_goto, il_0, pw_nop, pw_ret1, kd_123, rf_123_1, rf_123_2, rf_123_3, rf_123_4, rf_123_5, rf_123_7, rf_123_11, rf_123_12, rf_123_15, rf_123_16, rf_123_17, rf_123_26, rf_123_29, rf_123_30, rf_123_32, rf_123_34, rf_123_35, rf_123_45, n_0, n_1, nn_lt, nn_nlt, nn_le, nn_nle, nn_ne, nn_sub, nn_mul, nI_add, nn_neg, nm_eq, mn_eq, mm_eq, mn_lt, nm_lt, mn_le, nm_le, nn_sub0, nn_of, implies_true, nn_c, nn_in, nn_div, nat_rem, Nat.reduceMul, Nat.reduceSub, Nat.reduceDiv, Nat.reduceMod, pf_at, pf_ne, mk_s, mk_1, Classical.not_not, b2i_T, b2i_F, false_imp_iff, true_imp_iff, false_and, and_false, p_sw, Int.reduceAdd, Int.zero_add, Option.some.injEq, Value.int.injEq, Value.long.injEq, Value.ref.injEq, exists_eq_left', mk_I, mk_L, mk_wI, mk_wL, rf_s, rf_n, true_and, and_true, and_self, or_true, true_or, or_false, false_or, not_true_eq_false, not_false_eq_true, Option.toList_some, Option.toList_none, List.cons_append, List.nil_append, List.map_nil, List.map_cons, List.sum_nil, List.sum_cons, cat_i, cat_l, cat_r, cat_n, Nat.reduceLeDiff, Nat.reduceAdd, Nat.reduceEqDiff, Nat.zero_le, p_ent, p_u_ne, p_u_at, reduceIte, if_true, if_false, e]
  generalize hJ1 : p_u (mst I k l (nI p)) 123 14 (nI p) = J1 at *
  generalize mst I k l (nI p) = J at *
  rw [P_run_eq, bk_178_1, pb_178_1]; simp -implicitDefEqProofs (disch := first | omega | decide) only [P_m, ↓P_run_eq _ 178 _ (p_bk 178 4), bk_178_4, pb_178_4, ↓P_run_eq _ 178 _ (p_bk 178 5), bk_178_5, pb_178_5, pw_aload_n0, pw_aloadN_n0, pw_bipush, bl_59, pw_is1, pw_iv2, pw_zeq, pw_iload_n1, bl_12, pw_cne, pw_iv1, pw_nop, pw_getI, pw_cge, pw_putI, pw_ret1, kd_123, rf_123_1, rf_123_2, rf_123_3, rf_123_4, rf_123_5, rf_123_7, rf_123_11, rf_123_12, rf_123_15, rf_123_16, rf_123_17, rf_123_26, rf_123_29, rf_123_30, rf_123_32, rf_123_34, rf_123_35, rf_123_45, n_0, n_1, n_12, n_59, nn_lt, nn_nlt, nn_le, nn_nle, nn_ne, nn_sub, nn_mul, nI_add, nn_neg, nm_eq, mn_eq, mm_eq, mn_lt, nm_lt, mn_le, nm_le, nn_sub0, nn_of, implies_true, nn_c, nn_in, nn_div, nat_rem, Nat.reduceMul, Nat.reduceSub, Nat.reduceDiv, Nat.reduceMod, pf_at, pf_ne, mk_s, mk_1, Classical.not_not, b2i_T, b2i_F, false_imp_iff, true_imp_iff, false_and, and_false, p_sw, Int.reduceAdd, Int.zero_add, Option.some.injEq, Value.int.injEq, Value.long.injEq, Value.ref.injEq, exists_eq_left', mk_I, mk_L, mk_wI, mk_wL, rf_s, rf_n, true_and, and_true, and_self, or_true, true_or, or_false, false_or, not_true_eq_false, not_false_eq_true, Option.toList_some, Option.toList_none, List.cons_append, List.nil_append, List.map_nil, List.map_cons, List.sum_nil, List.sum_cons, cat_i, cat_l, cat_r, cat_n, Nat.reduceLeDiff, Nat.reduceAdd, Nat.reduceEqDiff, Nat.zero_le, p_ent, p_u_ne, p_u_at, reduceIte, if_true, if_false, P_ce (sp_167), e21, hJ1, P_ce s1, P_ce s2, P_ce s3]
/-- where the clauses end -/
theorem en_178 {x k l n : Nat} (hM : mF B T N o I) (hC : ∀ k, tC B T k < 356) (hk : k ≤ N) (hn : n ≤ 20) (h59 : ¬ tC B T k = 159) : P_run (x + 36) 178 (p_bk 178 1) 0 0 [.ref 123, .int (nI n)] [] (p_mk Ls (mst I k l (mI 1)) L R X) (fun v h' => v = some (.int (nI (if k = N then 1 else 0))) ∧ h' = p_mk Ls (if k = N then p_u (mst I k l (mI 1)) 123 14 (mI 1) else p_u (mst I k l (nI (tS B T k))) 123 14 (nI (tS B T k))) L R X) := by
  have h4 := hM.2.1
  have T4 := hM.2.2.2.2.2.2
  have tb := tS_b (B := B) (T := T) k
  have s1 := ta_y (d := x + 34) (Ls := Ls) (L := L) (R := R) (X := X) (l := l) (c := 159) hM hk (by omega) (hC k)
  rw [decide_eq_false h59, bN_f, if_neg h59] at s1
  have s2 := fi_y (d := x + 35) (Ls := Ls) (I := I) (L := L) (R := R) (X := X) (k := k) (l := l)
  have e19 := mst_19 (I := I) (k := k) (l := l) (b := mI 1)
  have e18 : mst I k l (mI 1) 123 18 = nI N := by rw [mst_at (by omega) (by omega) (by omega)]; exact hM.2.2.2.2.2.1
  by_cases e : k = N
  · rw [if_pos e, if_pos e]
    have e21 := mst_21 (I := I) (k := k) (l := l) (b := mI 1)
    have s3 : P_m (x + 35) 162 [.ref 123] (p_mk Ls (p_u (mst I k l (mI 1)) 123 14 (mI 1)) L R X) (fun v h' => v = some (.int (nI 1)) ∧ h' = p_mk Ls (p_u (mst I k l (mI 1)) 123 14 (mI 1)) L R X) := by
      have e : p_u (mst I k l (mI 1)) 123 14 (mI 1) 123 21 = mI 1 := by rw [p_u_at, if_neg (by omega)]; exact e21
      generalize p_u (mst I k l (mI 1)) 123 14 (mI 1) = J at *
      simp -implicitDefEqProofs (disch := first | omega | decide) only [P_m, ↓P_run_eq _ 162 _ (p_bk 162 0), bk_162_0, pb_162_0, ↓P_run_eq _ 162 _ (p_bk 162 2), bk_162_2, pb_162_2, pw_aload_n0, pw_aloadN_n0, pw_getI, pw_iconst, il_m1, pw_cne, il_1, pw_goto, pw_ret1, kd_123, rf_123_1, rf_123_2, rf_123_3, rf_123_4, rf_123_5, rf_123_7, rf_123_11, rf_123_12, rf_123_15, rf_123_16, rf_123_17, rf_123_26, rf_123_29, rf_123_30, rf_123_32, rf_123_34, rf_123_35, rf_123_45, n_0, n_1, nn_lt, nn_nlt, nn_le, nn_nle, nn_ne, nn_sub, nn_mul, nI_add, nn_neg, nm_eq, mn_eq, mm_eq, mn_lt, nm_lt, mn_le, nm_le, nn_sub0, nn_of, implies_true, nn_c, nn_in, nn_div, nat_rem, Nat.reduceMul, Nat.reduceSub, Nat.reduceDiv, Nat.reduceMod, pf_at, pf_ne, mk_s, mk_1, Classical.not_not, b2i_T, b2i_F, false_imp_iff, true_imp_iff, false_and, and_false, p_sw, Int.reduceAdd, Int.zero_add, Option.some.injEq, Value.int.injEq, Value.long.injEq, Value.ref.injEq, exists_eq_left', mk_I, mk_L, mk_wI, mk_wL, rf_s, rf_n, true_and, and_true, and_self, or_true, true_or, or_false, false_or, not_true_eq_false, not_false_eq_true, Option.toList_some, Option.toList_none, List.cons_append, List.nil_append, List.map_nil, List.map_cons, List.sum_nil, List.sum_cons, cat_i, cat_l, cat_r, cat_n, Nat.reduceLeDiff, Nat.reduceAdd, Nat.reduceEqDiff, Nat.zero_le, p_ent, p_u_ne, p_u_at, reduceIte, if_true, if_false, e]
    generalize hJ1 : p_u (mst I k l (mI 1)) 123 14 (mI 1) = J1 at *
    generalize mst I k l (mI 1) = J at *
    subst e
    rw [P_run_eq, bk_178_1, pb_178_1]; simp -implicitDefEqProofs (disch := first | omega | decide) only [P_m, ↓P_run_eq _ 178 _ (p_bk 178 4), bk_178_4, pb_178_4, ↓P_run_eq _ 178 _ (p_bk 178 5), bk_178_5, pb_178_5, pw_aload_n0, pw_aloadN_n0, pw_bipush, bl_59, pw_is1, pw_iv2, pw_zeq, pw_iload_n1, bl_12, pw_cne, pw_iv1, pw_nop, pw_getI, pw_cge, pw_putI, pw_ret1, kd_123, rf_123_1, rf_123_2, rf_123_3, rf_123_4, rf_123_5, rf_123_7, rf_123_11, rf_123_12, rf_123_15, rf_123_16, rf_123_17, rf_123_26, rf_123_29, rf_123_30, rf_123_32, rf_123_34, rf_123_35, rf_123_45, n_0, n_1, n_12, n_59, nn_lt, nn_nlt, nn_le, nn_nle, nn_ne, nn_sub, nn_mul, nI_add, nn_neg, nm_eq, mn_eq, mm_eq, mn_lt, nm_lt, mn_le, nm_le, nn_sub0, nn_of, implies_true, nn_c, nn_in, nn_div, nat_rem, Nat.reduceMul, Nat.reduceSub, Nat.reduceDiv, Nat.reduceMod, pf_at, pf_ne, mk_s, mk_1, Classical.not_not, b2i_T, b2i_F, false_imp_iff, true_imp_iff, false_and, and_false, p_sw, Int.reduceAdd, Int.zero_add, Option.some.injEq, Value.int.injEq, Value.long.injEq, Value.ref.injEq, exists_eq_left', mk_I, mk_L, mk_wI, mk_wL, rf_s, rf_n, true_and, and_true, and_self, or_true, true_or, or_false, false_or, not_true_eq_false, not_false_eq_true, Option.toList_some, Option.toList_none, List.cons_append, List.nil_append, List.map_nil, List.map_cons, List.sum_nil, List.sum_cons, cat_i, cat_l, cat_r, cat_n, Nat.reduceLeDiff, Nat.reduceAdd, Nat.reduceEqDiff, Nat.zero_le, p_ent, p_u_ne, p_u_at, reduceIte, if_true, if_false, P_ce (sp_167), e19, e18, e21, hJ1, P_ce s1, P_ce s2, P_ce s3]
  · rw [if_neg e, if_neg e]
    have sf := fa_y (d := x + 34) (Ls := Ls) (L := L) (R := R) (X := X) (l := l) hM hk
    have e21 := mst_21 (I := I) (k := k) (l := l) (b := nI (tS B T k))
    have s3 : P_m (x + 35) 162 [.ref 123] (p_mk Ls (p_u (mst I k l (nI (tS B T k))) 123 14 (nI (tS B T k))) L R X) (fun v h' => v = some (.int (nI 0)) ∧ h' = p_mk Ls (p_u (mst I k l (nI (tS B T k))) 123 14 (nI (tS B T k))) L R X) := by
      have e : p_u (mst I k l (nI (tS B T k))) 123 14 (nI (tS B T k)) 123 21 = nI (tS B T k) := by rw [p_u_at, if_neg (by omega)]; exact e21
      generalize p_u (mst I k l (nI (tS B T k))) 123 14 (nI (tS B T k)) = J at *
      generalize tS B T k = p at *
      simp -implicitDefEqProofs (disch := first | omega | decide) only [P_m, ↓P_run_eq _ 162 _ (p_bk 162 0), bk_162_0, pb_162_0, ↓P_run_eq _ 162 _ (p_bk 162 1), bk_162_1, pb_162_1, ↓P_run_eq _ 162 _ (p_bk 162 2), bk_162_2, pb_162_2, pw_aload_n0, pw_aloadN_n0, pw_getI, pw_iconst, il_m1, pw_cne, il_1, pw_goto, il_0, pw_nop, pw_ret1, kd_123, rf_123_1, rf_123_2, rf_123_3, rf_123_4, rf_123_5, rf_123_7, rf_123_11, rf_123_12, rf_123_15, rf_123_16, rf_123_17, rf_123_26, rf_123_29, rf_123_30, rf_123_32, rf_123_34, rf_123_35, rf_123_45, n_0, n_1, nn_lt, nn_nlt, nn_le, nn_nle, nn_ne, nn_sub, nn_mul, nI_add, nn_neg, nm_eq, mn_eq, mm_eq, mn_lt, nm_lt, mn_le, nm_le, nn_sub0, nn_of, implies_true, nn_c, nn_in, nn_div, nat_rem, Nat.reduceMul, Nat.reduceSub, Nat.reduceDiv, Nat.reduceMod, pf_at, pf_ne, mk_s, mk_1, Classical.not_not, b2i_T, b2i_F, false_imp_iff, true_imp_iff, false_and, and_false, p_sw, Int.reduceAdd, Int.zero_add, Option.some.injEq, Value.int.injEq, Value.long.injEq, Value.ref.injEq, exists_eq_left', mk_I, mk_L, mk_wI, mk_wL, rf_s, rf_n, true_and, and_true, and_self, or_true, true_or, or_false, false_or, not_true_eq_false, not_false_eq_true, Option.toList_some, Option.toList_none, List.cons_append, List.nil_append, List.map_nil, List.map_cons, List.sum_nil, List.sum_cons, cat_i, cat_l, cat_r, cat_n, Nat.reduceLeDiff, Nat.reduceAdd, Nat.reduceEqDiff, Nat.zero_le, p_ent, p_u_ne, p_u_at, reduceIte, if_true, if_false, e]
    generalize hJ1 : p_u (mst I k l (nI (tS B T k))) 123 14 (nI (tS B T k)) = J1 at *
    generalize mst I k l (nI (tS B T k)) = J2 at *
    generalize mst I k l (mI 1) = J at *
    generalize tS B T k = p at *
    rw [P_run_eq, bk_178_1, pb_178_1]; simp -implicitDefEqProofs (disch := first | omega | decide) only [P_m, ↓P_run_eq _ 178 _ (p_bk 178 4), bk_178_4, pb_178_4, ↓P_run_eq _ 178 _ (p_bk 178 5), bk_178_5, pb_178_5, pw_aload_n0, pw_aloadN_n0, pw_bipush, bl_59, pw_is1, pw_iv2, pw_zeq, pw_iload_n1, bl_12, pw_cne, pw_iv1, pw_nop, pw_getI, pw_cge, pw_putI, pw_ret1, kd_123, rf_123_1, rf_123_2, rf_123_3, rf_123_4, rf_123_5, rf_123_7, rf_123_11, rf_123_12, rf_123_15, rf_123_16, rf_123_17, rf_123_26, rf_123_29, rf_123_30, rf_123_32, rf_123_34, rf_123_35, rf_123_45, n_0, n_1, n_12, n_59, nn_lt, nn_nlt, nn_le, nn_nle, nn_ne, nn_sub, nn_mul, nI_add, nn_neg, nm_eq, mn_eq, mm_eq, mn_lt, nm_lt, mn_le, nm_le, nn_sub0, nn_of, implies_true, nn_c, nn_in, nn_div, nat_rem, Nat.reduceMul, Nat.reduceSub, Nat.reduceDiv, Nat.reduceMod, pf_at, pf_ne, mk_s, mk_1, Classical.not_not, b2i_T, b2i_F, false_imp_iff, true_imp_iff, false_and, and_false, p_sw, Int.reduceAdd, Int.zero_add, Option.some.injEq, Value.int.injEq, Value.long.injEq, Value.ref.injEq, exists_eq_left', mk_I, mk_L, mk_wI, mk_wL, rf_s, rf_n, true_and, and_true, and_self, or_true, true_or, or_false, false_or, not_true_eq_false, not_false_eq_true, Option.toList_some, Option.toList_none, List.cons_append, List.nil_append, List.map_nil, List.map_cons, List.sum_nil, List.sum_cons, cat_i, cat_l, cat_r, cat_n, Nat.reduceLeDiff, Nat.reduceAdd, Nat.reduceEqDiff, Nat.zero_le, p_ent, p_u_ne, p_u_at, reduceIte, if_true, if_false, P_ce (sp_167), e19, e18, e21, hJ1, P_ce s1, P_ce s2, P_ce s3, P_ce sf]
/-- what reading leaves -/
def mX (B : Nat → Nat) (T : Nat) (I J : Nat → Nat → Int32) (r : Except Nat (List tCl)) : Prop := ∃ k l, J = p_u (mst I k l (rdV B T r)) 123 14 (rdV B T r)
theorem RC_l {C V : Nat → Nat} {k l c : Nat} {r : Nat × Nat × tCl} (h : RC o C V k l c = some (.ok r)) (hl : l ≤ 50) : r.2.1 ≤ 50 := by
  rw [RC_e] at h
  split at h
  · cases h
  · obtain ⟨a, h1, h2⟩ := bnd_iok h
    obtain ⟨t, h3, h4⟩ := bnd_iok h2
    obtain ⟨b, h5, h6⟩ := bnd_iok h4
    cases h6
    have a1 : a.2.1 ≤ 50 := by
      unfold RSm at h1
      split at h1
      · exact RS_l h1 hl
      · cases h1; exact hl
    show b.2.1 ≤ 50
    unfold RIf at h5
    split at h5
    · exact RB_l h5 a1
    · cases h5; exact a1
theorem lp_178 {x : Nat} {r : Except Nat (List tCl)} (hM : mF B T N o I) (hC : ∀ k, tC B T k < 356) (hN : ∀ k, N ≤ k → tC B T k = 0) : ∀ M m, m + M = 11 → ∀ k l c acc, k ≤ N → l ≤ 50 → (if k = N then some (.ok acc) else if tC B T k = 159 then (if m = 11 then some (.error (k + 1)) else RX o (tC B T) (tV B T) N (m + 1) (k + 1) l c acc) else some (.error k)) = some r → P_run (x + 36) 178 (p_bk 178 1) 0 0 [.ref 123, .int (nI (m + 1))] [] (p_mk Ls (mst I k l (mI 1)) L R X) (fun v h' => v = some (.int (nI (ocV r))) ∧ ∃ J, mX B T I J r ∧ h' = p_mk Ls J L R X) := by
  have h4 := hM.2.1
  have T4 := hM.2.2.2.2.2.2
  intro M
  induction M with
  | zero =>
    intro m hm k l c acc hk l5 hr
    by_cases c59 : tC B T k = 159
    · have kN := kN_of hN (show ¬ tC B T k = 0 by omega)
      rw [if_neg (by omega), if_pos c59, if_pos (by omega)] at hr
      cases hr
      have m11 : m = 11 := by omega
      have s1 := ta_y (d := x + 34) (Ls := Ls) (L := L) (R := R) (X := X) (l := l) (c := 159) hM hk (by omega) (hC k)
      rw [decide_eq_true c59, bN_t, if_pos c59] at s1
      have sf := fa_y (d := x + 34) (Ls := Ls) (L := L) (R := R) (X := X) (k := k + 1) (l := l) hM (by omega)
      have tb := tS_b (B := B) (T := T) (k + 1)
      have sn := fi_n (d := x + 35) (Ls := Ls) (I := I) (L := L) (R := R) (X := X) (k := k + 1) (l := l) (p := tS B T (k + 1)) (by omega)
      have nx := en_178e (x := x) (Ls := Ls) (I := I) (L := L) (R := R) (X := X) (k := k + 1) (l := l) (p := tS B T (k + 1)) (n := 13) (by omega) (by omega)
      have nx := p_run_Q (Q2 := fun v h' => v = some (.int (nI (ocV (.error (k + 1) : Except Nat (List tCl))))) ∧ ∃ J, mX B T I J (.error (k + 1)) ∧ h' = p_mk Ls J L R X) nx (by
        rintro _ _ ⟨rfl, rfl⟩
        exact ⟨rfl, _, ⟨k + 1, l, rfl⟩, rfl⟩)
      subst m11
      generalize mst I (k + 1) l (nI (tS B T (k + 1))) = J1 at *
      generalize mst I (k + 1) l (mI 1) = J2 at *
      generalize mst I k l (mI 1) = J at *
      generalize nI (ocV (.error (k + 1) : Except Nat (List tCl))) = VV at *
      rw [P_run_eq, bk_178_1, pb_178_1]; simp -implicitDefEqProofs (disch := first | omega | decide) only [P_m, ↓P_run_eq _ 178 _ (p_bk 178 2), bk_178_2, pb_178_2, ↓P_run_eq _ 178 _ (p_bk 178 3), bk_178_3, pb_178_3, pw_aload_n0, pw_aloadN_n0, pw_bipush, bl_59, pw_is1, pw_iv2, pw_zeq, pw_iload_n1, bl_12, pw_cne, pw_iv1, pw_nop, pw_iinc_1, il_1, po_i1, po_r1, po_n1, po_u1, pw_goto, kd_123, rf_123_1, rf_123_2, rf_123_3, rf_123_4, rf_123_5, rf_123_7, rf_123_11, rf_123_12, rf_123_15, rf_123_16, rf_123_17, rf_123_26, rf_123_29, rf_123_30, rf_123_32, rf_123_34, rf_123_35, rf_123_45, n_0, n_1, n_12, n_59, nn_lt, nn_nlt, nn_le, nn_nle, nn_ne, nn_sub, nn_mul, nI_add, nn_neg, nm_eq, mn_eq, mm_eq, mn_lt, nm_lt, mn_le, nm_le, nn_sub0, nn_of, implies_true, nn_c, nn_in, nn_div, nat_rem, Nat.reduceMul, Nat.reduceSub, Nat.reduceDiv, Nat.reduceMod, pf_at, pf_ne, mk_s, mk_1, Classical.not_not, b2i_T, b2i_F, false_imp_iff, true_imp_iff, false_and, and_false, p_sw, Int.reduceAdd, Int.zero_add, Option.some.injEq, Value.int.injEq, Value.long.injEq, Value.ref.injEq, exists_eq_left', mk_I, mk_L, mk_wI, mk_wL, rf_s, rf_n, true_and, and_true, and_self, or_true, true_or, or_false, false_or, not_true_eq_false, not_false_eq_true, Option.toList_some, Option.toList_none, List.cons_append, List.nil_append, List.map_nil, List.map_cons, List.sum_nil, List.sum_cons, cat_i, cat_l, cat_r, cat_n, Nat.reduceLeDiff, Nat.reduceAdd, Nat.reduceEqDiff, Nat.zero_le, p_ent, p_u_ne, p_u_at, reduceIte, if_true, if_false, P_ce (sp_167), P_ce s1, P_ce sf, P_ce sn]
      exact nx
    · refine p_run_Q (en_178 (x := x) (Ls := Ls) (L := L) (R := R) (X := X) (n := m + 1) (l := l) hM hC hk (by omega) c59) ?_
      rintro _ _ ⟨rfl, rfl⟩
      by_cases e : k = N
      · rw [if_pos e] at hr
        cases hr
        rw [if_pos e, if_pos e]
        exact ⟨rfl, _, ⟨k, l, rfl⟩, rfl⟩
      · rw [if_neg e, if_neg c59] at hr
        cases hr
        rw [if_neg e, if_neg e]
        exact ⟨rfl, _, ⟨k, l, rfl⟩, rfl⟩
  | succ M ih =>
    intro m hm k l c acc hk l5 hr
    by_cases c59 : tC B T k = 159
    · have kN := kN_of hN (show ¬ tC B T k = 0 by omega)
      rw [if_neg (by omega), if_pos c59, if_neg (by omega), RX_e hN h4 (by omega)] at hr
      have s1 := ta_y (d := x + 34) (Ls := Ls) (L := L) (R := R) (X := X) (l := l) (c := 159) hM hk (by omega) (hC k)
      rw [decide_eq_true c59, bN_t, if_pos c59] at s1
      have s2 := fi_y (d := x + 35) (Ls := Ls) (I := I) (L := L) (R := R) (X := X) (k := k + 1) (l := l)
      obtain ⟨q, hq⟩ := RC_t (o := o) (V := tV B T) (l := l) (c := c) hN h4 (show k + 1 ≤ N by omega)
      obtain ⟨J, o1, s171⟩ := pl_171 (x := x) (Ls := Ls) (L := L) (R := R) (X := X) hM hC hN (show k + 1 ≤ N by omega) l5 hq
      rw [hq] at hr
      match q, hq, o1, hr with
      | .error e, hq, o1, hr =>
        cases hr
        obtain ⟨k', l', rfl⟩ := o1
        have te := tS_b (B := B) (T := T) e
        have nx := en_178e (x := x) (Ls := Ls) (I := I) (L := L) (R := R) (X := X) (k := k') (l := l') (p := tS B T e) (n := m + 1 + 1) (by omega) (by omega)
        have nx := p_run_Q (Q2 := fun v h' => v = some (.int (nI (ocV (.error e : Except Nat (List tCl))))) ∧ ∃ J, mX B T I J (.error e) ∧ h' = p_mk Ls J L R X) nx (by
          rintro _ _ ⟨rfl, rfl⟩
          exact ⟨rfl, _, ⟨k', l', rfl⟩, rfl⟩)
        clear ih
        generalize mst I k' l' (nI (tS B T e)) = J1 at *
        generalize mst I (k + 1) l (mI 1) = J2 at *
        generalize mst I k l (mI 1) = J at *
        generalize nI (ocV (.error e : Except Nat (List tCl))) = VV at *
        rw [P_run_eq, bk_178_1, pb_178_1]; simp -implicitDefEqProofs (disch := first | omega | decide) only [P_m, ↓P_run_eq _ 178 _ (p_bk 178 2), bk_178_2, pb_178_2, ↓P_run_eq _ 178 _ (p_bk 178 3), bk_178_3, pb_178_3, pw_aload_n0, pw_aloadN_n0, pw_bipush, bl_59, pw_is1, pw_iv2, pw_zeq, pw_iload_n1, bl_12, pw_cne, pw_iv1, pw_nop, pw_iinc_1, il_1, po_i1, po_r1, po_n1, po_u1, pw_goto, kd_123, rf_123_1, rf_123_2, rf_123_3, rf_123_4, rf_123_5, rf_123_7, rf_123_11, rf_123_12, rf_123_15, rf_123_16, rf_123_17, rf_123_26, rf_123_29, rf_123_30, rf_123_32, rf_123_34, rf_123_35, rf_123_45, n_0, n_1, n_12, n_59, nn_lt, nn_nlt, nn_le, nn_nle, nn_ne, nn_sub, nn_mul, nI_add, nn_neg, nm_eq, mn_eq, mm_eq, mn_lt, nm_lt, mn_le, nm_le, nn_sub0, nn_of, implies_true, nn_c, nn_in, nn_div, nat_rem, Nat.reduceMul, Nat.reduceSub, Nat.reduceDiv, Nat.reduceMod, pf_at, pf_ne, mk_s, mk_1, Classical.not_not, b2i_T, b2i_F, false_imp_iff, true_imp_iff, false_and, and_false, p_sw, Int.reduceAdd, Int.zero_add, Option.some.injEq, Value.int.injEq, Value.long.injEq, Value.ref.injEq, exists_eq_left', mk_I, mk_L, mk_wI, mk_wL, rf_s, rf_n, true_and, and_true, and_self, or_true, true_or, or_false, false_or, not_true_eq_false, not_false_eq_true, Option.toList_some, Option.toList_none, List.cons_append, List.nil_append, List.map_nil, List.map_cons, List.sum_nil, List.sum_cons, cat_i, cat_l, cat_r, cat_n, Nat.reduceLeDiff, Nat.reduceAdd, Nat.reduceEqDiff, Nat.zero_le, p_ent, p_u_ne, p_u_at, reduceIte, if_true, if_false, P_ce (sp_167), P_ce s1, P_ce s2, P_ce s171]
        exact nx
      | .ok q, hq, o1, hr =>
        rw [bnd_ok] at hr
        have o1 : J = mst I q.1 q.2.1 (mI 1) := o1
        subst o1
        obtain ⟨q1, q2, -⟩ := RC_pr hN (show k + 1 ≤ N by omega) hq
        have nx := ih (m + 1) (by omega) q.1 q.2.1 _ _ q2 (RC_l hq l5) hr
        clear ih hr
        generalize mst I q.1 q.2.1 (mI 1) = J1 at *
        generalize mst I (k + 1) l (mI 1) = J2 at *
        generalize mst I k l (mI 1) = J at *
        generalize nI (ocV r) = VV at *
        rw [P_run_eq, bk_178_1, pb_178_1]; simp -implicitDefEqProofs (disch := first | omega | decide) only [P_m, ↓P_run_eq _ 178 _ (p_bk 178 2), bk_178_2, pb_178_2, ↓P_run_eq _ 178 _ (p_bk 178 3), bk_178_3, pb_178_3, pw_aload_n0, pw_aloadN_n0, pw_bipush, bl_59, pw_is1, pw_iv2, pw_zeq, pw_iload_n1, bl_12, pw_cne, pw_iv1, pw_nop, pw_iinc_1, il_1, po_i1, po_r1, po_n1, po_u1, pw_goto, kd_123, rf_123_1, rf_123_2, rf_123_3, rf_123_4, rf_123_5, rf_123_7, rf_123_11, rf_123_12, rf_123_15, rf_123_16, rf_123_17, rf_123_26, rf_123_29, rf_123_30, rf_123_32, rf_123_34, rf_123_35, rf_123_45, n_0, n_1, n_12, n_59, nn_lt, nn_nlt, nn_le, nn_nle, nn_ne, nn_sub, nn_mul, nI_add, nn_neg, nm_eq, mn_eq, mm_eq, mn_lt, nm_lt, mn_le, nm_le, nn_sub0, nn_of, implies_true, nn_c, nn_in, nn_div, nat_rem, Nat.reduceMul, Nat.reduceSub, Nat.reduceDiv, Nat.reduceMod, pf_at, pf_ne, mk_s, mk_1, Classical.not_not, b2i_T, b2i_F, false_imp_iff, true_imp_iff, false_and, and_false, p_sw, Int.reduceAdd, Int.zero_add, Option.some.injEq, Value.int.injEq, Value.long.injEq, Value.ref.injEq, exists_eq_left', mk_I, mk_L, mk_wI, mk_wL, rf_s, rf_n, true_and, and_true, and_self, or_true, true_or, or_false, false_or, not_true_eq_false, not_false_eq_true, Option.toList_some, Option.toList_none, List.cons_append, List.nil_append, List.map_nil, List.map_cons, List.sum_nil, List.sum_cons, cat_i, cat_l, cat_r, cat_n, Nat.reduceLeDiff, Nat.reduceAdd, Nat.reduceEqDiff, Nat.zero_le, p_ent, p_u_ne, p_u_at, reduceIte, if_true, if_false, P_ce (sp_167), P_ce s1, P_ce s2, P_ce s171]
        exact nx
    · refine p_run_Q (en_178 (x := x) (Ls := Ls) (L := L) (R := R) (X := X) (n := m + 1) (l := l) hM hC hk (by omega) c59) ?_
      rintro _ _ ⟨rfl, rfl⟩
      by_cases e : k = N
      · rw [if_pos e] at hr
        cases hr
        rw [if_pos e, if_pos e]
        exact ⟨rfl, _, ⟨k, l, rfl⟩, rfl⟩
      · rw [if_neg e, if_neg c59] at hr
        cases hr
        rw [if_neg e, if_neg e]
        exact ⟨rfl, _, ⟨k, l, rfl⟩, rfl⟩
/-- all but what reading writes -/
def frRd (I J : Nat → Nat → Int32) : Prop := (∀ a, ¬ a = 123 → ¬ a = 132 → ¬ a = 133 → ¬ a = 134 → J a = I a) ∧ ∀ k, ¬ k = 8 → ¬ k = 9 → ¬ k = 10 → ¬ k = 13 → ¬ k = 14 → ¬ k = 18 → ¬ k = 19 → ¬ k = 20 → ¬ k = 21 → J 123 k = I 123 k
theorem pl_179 {x : Nat} {r : Except Nat (List tCl)} (hM : mB B T I) (hN : tkN B T N) (e13 : I 123 13 = nI T) (hr : RX o (tC B T) (tV B T) N 0 0 0 0 [] = some r) : ∃ J, (frRd I J ∧ J 123 13 = nI 0 ∧ J 123 14 = rdV B T r ∧ J 123 18 = nI N ∧ tkR B T J (N + 1)) ∧ P_m (x + 37) 179 [.ref 123, .int (nI (bN o))] (p_mk Ls I L R X) (fun v h' => v = some (.int (nI (ocV r))) ∧ h' = p_mk Ls J L R X) := by
  have T4 := hM.1
  have hC : ∀ k, tC B T k < 356 := fun k => by
    have := tC_le (B := B) (T := T) (i := k) (fun j hj => (hM.2.1 j hj).2)
    omega
  have b01 : bN o = 0 ∨ bN o = 1 := by cases o <;> simp [bN_f, bN_t]
  -- the flags
  have hM0 : mB B T (p_u (p_u (p_u I 123 10 (nI (bN o))) 123 8 (nI (if o = true then 12 else 8))) 123 9 (nI (if o = true then 18 else 16))) := ⟨hM.1, fun k hk => by rw [p_u_ne (by omega), p_u_ne (by omega), p_u_ne (by omega)]; exact hM.2.1 k hk, by rw [p_u_ne (by omega), p_u_ne (by omega), p_u_ne (by omega)]; exact hM.2.2⟩
  obtain ⟨J1, ⟨f1, t1, n1⟩, s161⟩ := pl_161 (d := x + 34) (Ls := Ls) (L := L) (R := R) (X := X) hM0 hN
  have N4 := hN.1
  have g10 : J1 123 10 = nI (bN o) := by rw [f1.2 10 (by omega), p_u_at, if_neg (by omega), p_u_at, if_neg (by omega), p_u_at, if_pos rfl]
  have g8 : J1 123 8 = nI (if o = true then 12 else 8) := by rw [f1.2 8 (by omega), p_u_at, if_neg (by omega), p_u_at, if_pos rfl]
  have g9 : J1 123 9 = nI (if o = true then 18 else 16) := by rw [f1.2 9 (by omega), p_u_at, if_pos rfl]
  have g13 : p_u (p_u (p_u I 123 10 (nI (bN o))) 123 8 (nI (if o = true then 12 else 8))) 123 9 (nI (if o = true then 18 else 16)) 123 13 = nI T := by rw [p_u_at, if_neg (by omega), p_u_at, if_neg (by omega), p_u_at, if_neg (by omega)]; exact e13
  have mf : mF B T N o (p_u J1 123 13 (nI 0)) := ⟨fun j hj => by rw [p_u_ne (by omega), p_u_ne (by omega), p_u_ne (by omega)]; exact t1 j hj, by omega, by rw [p_u_at, if_neg (by omega)]; exact g10, by rw [p_u_at, if_neg (by omega)]; exact g8, by rw [p_u_at, if_neg (by omega)]; exact g9, by rw [p_u_at, if_neg (by omega)]; exact n1, T4⟩
  have hN0 := hN.2.2.2
  rw [RX_e hN0 (by omega) (Nat.zero_le N)] at hr
  obtain ⟨q, hq⟩ := RC_t (o := o) (V := tV B T) (l := 0) (c := 0) hN0 (by omega) (Nat.zero_le N)
  obtain ⟨J2, o2, s171⟩ := pl_171 (x := x) (Ls := Ls) (L := L) (R := R) (X := X) mf hC hN0 (Nat.zero_le N) (by omega) hq
  have st : P_run (x + 36) 178 (p_bk 178 1) 0 0 [.ref 123, .int (nI 1)] [] (p_mk Ls J2 L R X) (fun v h' => v = some (.int (nI (ocV r))) ∧ ∃ J, mX B T (p_u J1 123 13 (nI 0)) J r ∧ h' = p_mk Ls J L R X) := by
    rw [hq] at hr
    match q, hq, o2, hr with
    | .error e, hq, o2, hr =>
      cases hr
      obtain ⟨k', l', rfl⟩ := o2
      have te := tS_b (B := B) (T := T) e
      refine p_run_Q (en_178e (x := x) (Ls := Ls) (L := L) (R := R) (X := X) (k := k') (l := l') (p := tS B T e) (n := 1) (by omega) (by omega)) ?_
      rintro _ _ ⟨rfl, rfl⟩
      exact ⟨rfl, _, ⟨k', l', rfl⟩, rfl⟩
    | .ok q, hq, o2, hr =>
      rw [bnd_ok] at hr
      have o2 : J2 = mst (p_u J1 123 13 (nI 0)) q.1 q.2.1 (mI 1) := o2
      subst o2
      exact lp_178 (x := x) (Ls := Ls) (L := L) (R := R) (X := X) mf hC hN0 11 0 rfl q.1 q.2.1 _ _ (RC_pr hN0 (Nat.zero_le N) hq).2.1 (RC_l hq (by omega)) hr
  have s178 : P_m (x + 36) 178 [.ref 123] (p_mk Ls (p_u (p_u (p_u I 123 10 (nI (bN o))) 123 8 (nI (if o = true then 12 else 8))) 123 9 (nI (if o = true then 18 else 16))) L R X) (fun v h' => v = some (.int (nI (ocV r))) ∧ ∃ J, mX B T (p_u J1 123 13 (nI 0)) J r ∧ h' = p_mk Ls J L R X) := by
    have em : p_u (p_u (p_u (p_u J1 123 13 (nI 0)) 123 19 (nI 0)) 123 20 (nI 0)) 123 21 (mI 1) = mst (p_u J1 123 13 (nI 0)) 0 0 (mI 1) := rfl
    clear hr mf o2
    generalize mst (p_u J1 123 13 (nI 0)) 0 0 (mI 1) = J3 at *
    generalize p_u (p_u (p_u I 123 10 (nI (bN o))) 123 8 (nI (if o = true then 12 else 8))) 123 9 (nI (if o = true then 18 else 16)) = I1 at *
    generalize nI (ocV r) = VV at *
    simp -implicitDefEqProofs (disch := first | omega | decide) only [P_m, ↓P_run_eq _ 178 _ (p_bk 178 0), bk_178_0, pb_178_0, pw_aload_n0, pw_aloadN_n0, pw_getI, pw_iv2, pw_iconst, il_0, pw_putI, il_m1, pw_iv1, il_1, pw_istore_n1, ps_1, pe_1, po_i1, po_r1, po_n1, po_u1, pw_nop, kd_123, rf_123_1, rf_123_2, rf_123_3, rf_123_4, rf_123_5, rf_123_7, rf_123_11, rf_123_12, rf_123_15, rf_123_16, rf_123_17, rf_123_26, rf_123_29, rf_123_30, rf_123_32, rf_123_34, rf_123_35, rf_123_45, n_0, n_1, nn_lt, nn_nlt, nn_le, nn_nle, nn_ne, nn_sub, nn_mul, nI_add, nn_neg, nm_eq, mn_eq, mm_eq, mn_lt, nm_lt, mn_le, nm_le, nn_sub0, nn_of, implies_true, nn_c, nn_in, nn_div, nat_rem, Nat.reduceMul, Nat.reduceSub, Nat.reduceDiv, Nat.reduceMod, pf_at, pf_ne, mk_s, mk_1, Classical.not_not, b2i_T, b2i_F, false_imp_iff, true_imp_iff, false_and, and_false, p_sw, Int.reduceAdd, Int.zero_add, Option.some.injEq, Value.int.injEq, Value.long.injEq, Value.ref.injEq, exists_eq_left', mk_I, mk_L, mk_wI, mk_wL, rf_s, rf_n, true_and, and_true, and_self, or_true, true_or, or_false, false_or, not_true_eq_false, not_false_eq_true, Option.toList_some, Option.toList_none, List.cons_append, List.nil_append, List.map_nil, List.map_cons, List.sum_nil, List.sum_cons, cat_i, cat_l, cat_r, cat_n, Nat.reduceLeDiff, Nat.reduceAdd, Nat.reduceEqDiff, Nat.zero_le, p_ent, p_u_ne, p_u_at, reduceIte, if_true, if_false, g13, em, P_ce s161, P_ce s171]
    exact st
  obtain ⟨v, g', ⟨rfl, J, ⟨k, l, hJ⟩, rfl⟩, s⟩ := P_mex s178
  have fJ : ∀ a, ¬ a = 123 → J a = J1 a := fun a ha => by rw [hJ, p_u_ne ha, mst_ne ha, p_u_ne ha]
  have fK : ∀ j, ¬ j = 13 → ¬ j = 14 → ¬ j = 19 → ¬ j = 20 → ¬ j = 21 → J 123 j = J1 123 j := fun j h1 h2 h3 h5 h6 => by rw [hJ, p_u_at, if_neg h2, mst_at h3 h5 h6, p_u_at, if_neg h1]
  refine ⟨J, ⟨⟨fun a a1 a2 a3 a4 => ?_, fun j j1 j2 j3 j4 j5 j6 j7 j8 j9 => ?_⟩, ?_, ?_, ?_, fun j hj => ?_⟩, ?_⟩
  · rw [fJ a a1, f1.1 a a1 a2 a3 a4, p_u_ne a1, p_u_ne a1, p_u_ne a1]
  · rw [fK j j4 j5 j7 j8 j9, f1.2 j j6, p_u_at, if_neg j2, p_u_at, if_neg j1, p_u_at, if_neg j3]
  · rw [hJ, p_u_at, if_neg (by omega), mst_at (by omega) (by omega) (by omega), p_u_at, if_pos rfl]
  · rw [hJ, p_u_at, if_pos rfl]
  · rw [fK 18 (by omega) (by omega) (by omega) (by omega) (by omega)]; exact n1
  · rw [fJ 132 (by omega), fJ 133 (by omega), fJ 134 (by omega)]; exact t1 j hj
  · have nv : p_nv 3 (nI (bN o)) = nI (bN o) := by rcases b01 with e | e <;> rw [e] <;> decide
    have v01 : nI (ocV r) = nI 0 ∨ nI (ocV r) = nI 1 := by
      match r with
      | .ok _ => exact Or.inr rfl
      | .error _ => exact Or.inl rfl
    clear s178 hr st hJ
    generalize nI (ocV r) = VV at *
    cases o with
    | false =>
      rw [bN_f] at *
      replace s : P_m (x + 36) 178 [.ref 123] (p_mk Ls (p_u (p_u (p_u I 123 10 (nI 0)) 123 8 (nI 8)) 123 9 (nI 16)) L R X) (fun w k => w = some (Value.int VV) ∧ k = p_mk Ls J L R X) := s
      simp -implicitDefEqProofs (disch := first | omega | decide) only [P_m, ↓P_run_eq _ 179 _ (p_bk 179 0), bk_179_0, pb_179_0, ↓P_run_eq _ 179 _ (p_bk 179 1), bk_179_1, pb_179_1, ↓P_run_eq _ 179 _ (p_bk 179 2), bk_179_2, pb_179_2, ↓P_run_eq _ 179 _ (p_bk 179 3), bk_179_3, pb_179_3, ↓P_run_eq _ 179 _ (p_bk 179 4), bk_179_4, pb_179_4, pw_aload_n0, pw_aloadN_n0, pw_iload_n1, pw_putZ, pw_zeq, pw_bipush, bl_12, pw_goto, bl_8, pw_nop, pw_putI, bl_18, bl_16, pw_iv1, pw_ret1, kd_123, rf_123_1, rf_123_2, rf_123_3, rf_123_4, rf_123_5, rf_123_7, rf_123_11, rf_123_12, rf_123_15, rf_123_16, rf_123_17, rf_123_26, rf_123_29, rf_123_30, rf_123_32, rf_123_34, rf_123_35, rf_123_45, n_0, n_1, n_8, n_12, n_16, n_18, nn_lt, nn_nlt, nn_le, nn_nle, nn_ne, nn_sub, nn_mul, nI_add, nn_neg, nm_eq, mn_eq, mm_eq, mn_lt, nm_lt, mn_le, nm_le, nn_sub0, nn_of, implies_true, nn_c, nn_in, nn_div, nat_rem, Nat.reduceMul, Nat.reduceSub, Nat.reduceDiv, Nat.reduceMod, pf_at, pf_ne, mk_s, mk_1, Classical.not_not, b2i_T, b2i_F, false_imp_iff, true_imp_iff, false_and, and_false, p_sw, Int.reduceAdd, Int.zero_add, Option.some.injEq, Value.int.injEq, Value.long.injEq, Value.ref.injEq, exists_eq_left', mk_I, mk_L, mk_wI, mk_wL, rf_s, rf_n, true_and, and_true, and_self, or_true, true_or, or_false, false_or, not_true_eq_false, not_false_eq_true, Option.toList_some, Option.toList_none, List.cons_append, List.nil_append, List.map_nil, List.map_cons, List.sum_nil, List.sum_cons, cat_i, cat_l, cat_r, cat_n, Nat.reduceLeDiff, Nat.reduceAdd, Nat.reduceEqDiff, Nat.zero_le, p_ent, p_u_ne, p_u_at, reduceIte, if_true, if_false, nv, P_ce s]
      exact v01
    | true =>
      rw [bN_t] at *
      replace s : P_m (x + 36) 178 [.ref 123] (p_mk Ls (p_u (p_u (p_u I 123 10 (nI 1)) 123 8 (nI 12)) 123 9 (nI 18)) L R X) (fun w k => w = some (Value.int VV) ∧ k = p_mk Ls J L R X) := s
      simp -implicitDefEqProofs (disch := first | omega | decide) only [P_m, ↓P_run_eq _ 179 _ (p_bk 179 0), bk_179_0, pb_179_0, ↓P_run_eq _ 179 _ (p_bk 179 2), bk_179_2, pb_179_2, ↓P_run_eq _ 179 _ (p_bk 179 4), bk_179_4, pb_179_4, pw_aload_n0, pw_aloadN_n0, pw_iload_n1, pw_putZ, pw_zeq, pw_bipush, bl_12, pw_goto, pw_putI, bl_18, pw_iv1, pw_ret1, kd_123, rf_123_1, rf_123_2, rf_123_3, rf_123_4, rf_123_5, rf_123_7, rf_123_11, rf_123_12, rf_123_15, rf_123_16, rf_123_17, rf_123_26, rf_123_29, rf_123_30, rf_123_32, rf_123_34, rf_123_35, rf_123_45, n_0, n_1, n_12, n_18, nn_lt, nn_nlt, nn_le, nn_nle, nn_ne, nn_sub, nn_mul, nI_add, nn_neg, nm_eq, mn_eq, mm_eq, mn_lt, nm_lt, mn_le, nm_le, nn_sub0, nn_of, implies_true, nn_c, nn_in, nn_div, nat_rem, Nat.reduceMul, Nat.reduceSub, Nat.reduceDiv, Nat.reduceMod, pf_at, pf_ne, mk_s, mk_1, Classical.not_not, b2i_T, b2i_F, false_imp_iff, true_imp_iff, false_and, and_false, p_sw, Int.reduceAdd, Int.zero_add, Option.some.injEq, Value.int.injEq, Value.long.injEq, Value.ref.injEq, exists_eq_left', mk_I, mk_L, mk_wI, mk_wL, rf_s, rf_n, true_and, and_true, and_self, or_true, true_or, or_false, false_or, not_true_eq_false, not_false_eq_true, Option.toList_some, Option.toList_none, List.cons_append, List.nil_append, List.map_nil, List.map_cons, List.sum_nil, List.sum_cons, cat_i, cat_l, cat_r, cat_n, Nat.reduceLeDiff, Nat.reduceAdd, Nat.reduceEqDiff, Nat.zero_le, p_ent, p_u_ne, p_u_at, reduceIte, if_true, if_false, nv, P_ce s]
      exact v01
end RZ
