/-! ORDERS RUN BY THE REFERENCE -/
section GA
variable {D Ls : Nat} {I : Nat → Nat → Int32} {L : Nat → Nat → Int64} {R : Nat → Nat → Option Nat} {X : List pKd} {W : Nat → Int32} {Q : Option Value → pHp → Prop}
theorem ev_mk {I : Nat → Nat → Int32} {g : Nat} {b : Bool} : p_u (p_u I 123 22 (nI g)) 123 24 (bI b) = EV I g b := by
  unfold EV
  funext a k
  by_cases e : a = 123
  · subst e; rw [p_u_at, p_u_at, pf_at]; rfl
  · rw [p_u_ne e, p_u_ne e, pf_ne e]
theorem ev_mk0 {I : Nat → Nat → Int32} {g : Nat} : p_u (p_u I 123 22 (nI g)) 123 24 (nI 0) = EV I g false := ev_mk (b := false)
theorem ev_pu {I : Nat → Nat → Int32} {g k : Nat} {b : Bool} {v : Int32} (h1 : ¬ k = 22) (h2 : ¬ k = 24) : p_u (EV I g b) 123 k v = EV (p_u I 123 k v) g b := by
  unfold EV
  funext a j
  by_cases e : a = 123
  · subst e
    rw [p_u_at, pf_at, pf_at]
    unfold upd
    rw [p_u_at]
    by_cases ej : j = k
    · subst ej; rw [if_pos rfl, if_neg h2, if_neg h1, if_pos rfl]
    · rw [if_neg ej, if_neg ej]
  · rw [p_u_ne e, pf_ne e, pf_ne e, p_u_ne e]
theorem evH_fr {o : Bool} {i : Nat} {I I' : Nat → Nat → Int32} (h : evH o I i W) (e125 : I' 125 = I 125) (e135 : I' 135 = I 135) (e : ∀ k, k = 23 ∨ k = 25 ∨ k = 27 ∨ k = 28 → I' 123 k = I 123 k) : evH o I' i W := by
  unfold evH envR at *
  rw [e125, e135, e 23 (by omega), e 25 (by omega), e 27 (by omega), e 28 (by omega)]
  exact h
/-- an order's test, and on to the next -/
theorem ga_5 {y l n cc : Nat} {to : Int32} {z : Nat × Nat × tDB × tCd} {lv b : Bool} (hE : evH true I 6 W) (e5 : pIf true (kC (I 125) 6) (kV (I 125) 6) n y l cc = some (.ok z)) (hz : z.1 ≤ 400) (hl : l ≤ 50) (hy : y ≤ 400) (hD : 44 ≤ D)
    (H : ∀ J, (∀ a, ¬ a = 123 → J a = I a) → (∀ q, ¬ q = 22 → ¬ q = 24 → ¬ q = 42 → J 123 q = I 123 q) → J 123 22 = nI (2400 + z.1 + 1) → (lv = true → J 123 42 = bI (decide (z.2.2.1 W = some true))) → Q none (p_mk Ls J L R X)) :
    P_run (D + 2) 254 (p_bk 254 5) 0 0 [.ref 123, .int to, .int (bI lv)] [] (p_mk Ls (EV I (2400 + y) b) L R X) Q := by
  have fin : ∀ (x x2 : Int32) (B : Bool), (lv = true → x2 = bI (decide (z.2.2.1 W = some true))) → Q none (p_mk Ls (p_u (EV (p_u (p_u I 123 42 x) 123 42 x2) (2400 + z.1) B) 123 22 (nI (2400 + z.1 + 1))) L R X) := fun x x2 B hx => by
    refine H _ (fun a ha => ?_) (fun q q1 q2 q3 => ?_) ?_ (fun hlv => ?_)
    · rw [ev_wg, ev_ne ha, p_u_ne ha, p_u_ne ha]
    · rw [ev_wg, ev_f q1 q2, p_u_at, if_neg q3, p_u_at, if_neg q3]
    · rw [ev_wg, ev_go]
    · rw [ev_wg, ev_f (by omega) (by omega), p_u_at, if_pos rfl]; exact hx hlv
  unfold pIf at e5
  split at e5
  · rename_i h4
    have s4 := sp_186t (d := D) (Ls := Ls) (L := L) (R := R) (X := X) (c := 4) (k := y) (b := false) hE (by omega) h4
    obtain ⟨w, hw, s5⟩ := (pB_r (Ls := Ls) hE n).2.1 _ _ _ _ _ _ _ _ e5 (by omega) hl (by omega) (D + 1) (by omega) L R X lv false
    simp only [Nat.reduceMul] at s4 s5
    have okx : ∀ B, B = rb lv false (z.2.2.1 W) → lv = true → (if w = true ∧ B = false then nI 1 else nI 0) = bI (decide (z.2.2.1 W = some true)) := by
      intro B hB hlv
      cases hg : z.2.2.1 W with
      | none =>
        rw [hg, hlv] at hB
        have : B = true := hB
        subst this
        rw [if_neg (by rintro ⟨-, h⟩; cases h)]; rfl
      | some x =>
        have := hw hlv rfl x hg
        subst this
        rw [hg, rb_some] at hB
        subst hB
        cases w with
        | true => rfl
        | false => rfl
    generalize hB : rb lv false (z.2.2.1 W) = B at *
    replace okx := okx B rfl
    clear H hw e5
    cases w with
    | true =>
      cases B with
      | false =>
        have hf := fin (nI 1) (nI 1) false okx
        clear fin okx
        rw [bI_t] at s5
        generalize bI lv = lvv at *
        generalize z.1 = zz at *
        rw [P_run_eq, bk_254_5, pb_254_5]; simp -implicitDefEqProofs (disch := first | omega | decide) only [P_m, ↓P_run_eq _ 254 _ (p_bk 254 6), bk_254_6, pb_254_6, ↓P_run_eq _ 254 _ (p_bk 254 8), bk_254_8, pb_254_8, ↓P_run_eq _ 254 _ (p_bk 254 10), bk_254_10, pb_254_10, pw_aload_n0, pw_aloadN_n0, pw_iconst, il_0, pw_putZ, il_4, pw_iv2, pw_zeq, pw_iload_n2, pw_nop, il_1, pw_goto, pw_getI, pw_zne, pw_dupi, pw_dupr, pw_iadd, pw_putI, pw_vret, kd_123, rf_123_1, rf_123_2, rf_123_3, rf_123_4, rf_123_5, rf_123_7, rf_123_11, rf_123_12, rf_123_15, rf_123_16, rf_123_17, rf_123_26, rf_123_29, rf_123_30, rf_123_32, rf_123_34, rf_123_35, rf_123_45, n_0, n_1, n_4, nn_lt, nn_nlt, nn_le, nn_nle, nn_ne, nn_sub, nn_mul, nI_add, nn_neg, nm_eq, mn_eq, mm_eq, mn_lt, nm_lt, mn_le, nm_le, nn_sub0, nn_of, implies_true, nn_c, nn_in, nn_div, nat_rem, Nat.reduceMul, Nat.reduceSub, Nat.reduceDiv, Nat.reduceMod, pf_at, pf_ne, mk_s, mk_1, Classical.not_not, b2i_T, b2i_F, false_imp_iff, true_imp_iff, false_and, and_false, p_sw, Int.reduceAdd, Int.zero_add, Option.some.injEq, Value.int.injEq, Value.long.injEq, Value.ref.injEq, exists_eq_left', mk_I, mk_L, mk_wI, mk_wL, rf_s, rf_n, true_and, and_true, and_self, or_true, true_or, or_false, false_or, not_true_eq_false, not_false_eq_true, Option.toList_some, Option.toList_none, List.cons_append, List.nil_append, List.map_nil, List.map_cons, List.sum_nil, List.sum_cons, cat_i, cat_l, cat_r, cat_n, Nat.reduceLeDiff, Nat.reduceAdd, Nat.reduceEqDiff, Nat.zero_le, p_ent, p_u_ne, p_u_at, reduceIte, if_true, if_false, ev_w0, ev_pu, ev_go, ev_f, ev_br, P_ce s4, P_ce s5, bI_f]
        exact hf
      | true =>
        have hf := fin (nI 1) (nI 0) true okx
        clear fin okx
        rw [bI_t] at s5
        generalize bI lv = lvv at *
        generalize z.1 = zz at *
        rw [P_run_eq, bk_254_5, pb_254_5]; simp -implicitDefEqProofs (disch := first | omega | decide) only [P_m, ↓P_run_eq _ 254 _ (p_bk 254 6), bk_254_6, pb_254_6, ↓P_run_eq _ 254 _ (p_bk 254 8), bk_254_8, pb_254_8, ↓P_run_eq _ 254 _ (p_bk 254 9), bk_254_9, pb_254_9, ↓P_run_eq _ 254 _ (p_bk 254 10), bk_254_10, pb_254_10, pw_aload_n0, pw_aloadN_n0, pw_iconst, il_0, pw_putZ, il_4, pw_iv2, pw_zeq, pw_iload_n2, pw_nop, il_1, pw_goto, pw_getI, pw_zne, pw_dupi, pw_dupr, pw_iadd, pw_putI, pw_vret, kd_123, rf_123_1, rf_123_2, rf_123_3, rf_123_4, rf_123_5, rf_123_7, rf_123_11, rf_123_12, rf_123_15, rf_123_16, rf_123_17, rf_123_26, rf_123_29, rf_123_30, rf_123_32, rf_123_34, rf_123_35, rf_123_45, n_0, n_1, n_4, nn_lt, nn_nlt, nn_le, nn_nle, nn_ne, nn_sub, nn_mul, nI_add, nn_neg, nm_eq, mn_eq, mm_eq, mn_lt, nm_lt, mn_le, nm_le, nn_sub0, nn_of, implies_true, nn_c, nn_in, nn_div, nat_rem, Nat.reduceMul, Nat.reduceSub, Nat.reduceDiv, Nat.reduceMod, pf_at, pf_ne, mk_s, mk_1, Classical.not_not, b2i_T, b2i_F, false_imp_iff, true_imp_iff, false_and, and_false, p_sw, Int.reduceAdd, Int.zero_add, Option.some.injEq, Value.int.injEq, Value.long.injEq, Value.ref.injEq, exists_eq_left', mk_I, mk_L, mk_wI, mk_wL, rf_s, rf_n, true_and, and_true, and_self, or_true, true_or, or_false, false_or, not_true_eq_false, not_false_eq_true, Option.toList_some, Option.toList_none, List.cons_append, List.nil_append, List.map_nil, List.map_cons, List.sum_nil, List.sum_cons, cat_i, cat_l, cat_r, cat_n, Nat.reduceLeDiff, Nat.reduceAdd, Nat.reduceEqDiff, Nat.zero_le, p_ent, p_u_ne, p_u_at, reduceIte, if_true, if_false, ev_w0, ev_pu, ev_go, ev_f, ev_br, P_ce s4, P_ce s5, bI_t]
        exact hf
    | false =>
      have hf := fin (nI 0) (nI 0) B okx
      clear fin okx
      rw [bI_f] at s5
      generalize bI lv = lvv at *
      generalize z.1 = zz at *
      rw [P_run_eq, bk_254_5, pb_254_5]; simp -implicitDefEqProofs (disch := first | omega | decide) only [P_m, ↓P_run_eq _ 254 _ (p_bk 254 7), bk_254_7, pb_254_7, ↓P_run_eq _ 254 _ (p_bk 254 8), bk_254_8, pb_254_8, ↓P_run_eq _ 254 _ (p_bk 254 9), bk_254_9, pb_254_9, ↓P_run_eq _ 254 _ (p_bk 254 10), bk_254_10, pb_254_10, pw_aload_n0, pw_aloadN_n0, pw_iconst, il_0, pw_putZ, il_4, pw_iv2, pw_zeq, pw_iload_n2, pw_nop, pw_getI, pw_zne, il_1, pw_goto, pw_dupi, pw_dupr, pw_iadd, pw_putI, pw_vret, kd_123, rf_123_1, rf_123_2, rf_123_3, rf_123_4, rf_123_5, rf_123_7, rf_123_11, rf_123_12, rf_123_15, rf_123_16, rf_123_17, rf_123_26, rf_123_29, rf_123_30, rf_123_32, rf_123_34, rf_123_35, rf_123_45, n_0, n_1, n_4, nn_lt, nn_nlt, nn_le, nn_nle, nn_ne, nn_sub, nn_mul, nI_add, nn_neg, nm_eq, mn_eq, mm_eq, mn_lt, nm_lt, mn_le, nm_le, nn_sub0, nn_of, implies_true, nn_c, nn_in, nn_div, nat_rem, Nat.reduceMul, Nat.reduceSub, Nat.reduceDiv, Nat.reduceMod, pf_at, pf_ne, mk_s, mk_1, Classical.not_not, b2i_T, b2i_F, false_imp_iff, true_imp_iff, false_and, and_false, p_sw, Int.reduceAdd, Int.zero_add, Option.some.injEq, Value.int.injEq, Value.long.injEq, Value.ref.injEq, exists_eq_left', mk_I, mk_L, mk_wI, mk_wL, rf_s, rf_n, true_and, and_true, and_self, or_true, true_or, or_false, false_or, not_true_eq_false, not_false_eq_true, Option.toList_some, Option.toList_none, List.cons_append, List.nil_append, List.map_nil, List.map_cons, List.sum_nil, List.sum_cons, cat_i, cat_l, cat_r, cat_n, Nat.reduceLeDiff, Nat.reduceAdd, Nat.reduceEqDiff, Nat.zero_le, p_ent, p_u_ne, p_u_at, reduceIte, if_true, if_false, ev_w0, ev_pu, ev_go, ev_f, ev_br, P_ce s4, P_ce s5]
      exact hf
  · rename_i h4
    cases e5
    have s4 := sp_186f (d := D) (Ls := Ls) (L := L) (R := R) (X := X) (c := 4) (k := y) (b := false) hE (by omega) (by omega) h4
    simp only [Nat.reduceMul] at s4
    have hf := fin (nI 1) (nI 1) false (fun _ => rfl)
    clear fin H
    dsimp only at hf
    generalize bI lv = lvv at *
    rw [P_run_eq, bk_254_5, pb_254_5]; simp -implicitDefEqProofs (disch := first | omega | decide) only [P_m, ↓P_run_eq _ 254 _ (p_bk 254 6), bk_254_6, pb_254_6, ↓P_run_eq _ 254 _ (p_bk 254 8), bk_254_8, pb_254_8, ↓P_run_eq _ 254 _ (p_bk 254 10), bk_254_10, pb_254_10, pw_aload_n0, pw_aloadN_n0, pw_iconst, il_0, pw_putZ, il_4, pw_iv2, pw_zeq, pw_iload_n2, pw_nop, il_1, pw_goto, pw_getI, pw_zne, pw_dupi, pw_dupr, pw_iadd, pw_putI, pw_vret, kd_123, rf_123_1, rf_123_2, rf_123_3, rf_123_4, rf_123_5, rf_123_7, rf_123_11, rf_123_12, rf_123_15, rf_123_16, rf_123_17, rf_123_26, rf_123_29, rf_123_30, rf_123_32, rf_123_34, rf_123_35, rf_123_45, n_0, n_1, n_4, nn_lt, nn_nlt, nn_le, nn_nle, nn_ne, nn_sub, nn_mul, nI_add, nn_neg, nm_eq, mn_eq, mm_eq, mn_lt, nm_lt, mn_le, nm_le, nn_sub0, nn_of, implies_true, nn_c, nn_in, nn_div, nat_rem, Nat.reduceMul, Nat.reduceSub, Nat.reduceDiv, Nat.reduceMod, pf_at, pf_ne, mk_s, mk_1, Classical.not_not, b2i_T, b2i_F, false_imp_iff, true_imp_iff, false_and, and_false, p_sw, Int.reduceAdd, Int.zero_add, Option.some.injEq, Value.int.injEq, Value.long.injEq, Value.ref.injEq, exists_eq_left', mk_I, mk_L, mk_wI, mk_wL, rf_s, rf_n, true_and, and_true, and_self, or_true, true_or, or_false, false_or, not_true_eq_false, not_false_eq_true, Option.toList_some, Option.toList_none, List.cons_append, List.nil_append, List.map_nil, List.map_cons, List.sum_nil, List.sum_cons, cat_i, cat_l, cat_r, cat_n, Nat.reduceLeDiff, Nat.reduceAdd, Nat.reduceEqDiff, Nat.zero_le, p_ent, p_u_ne, p_u_at, reduceIte, if_true, if_false, ev_w0, ev_pu, ev_go, ev_f, ev_br, P_ce s4, bI_f]
    exact hf
end GA
