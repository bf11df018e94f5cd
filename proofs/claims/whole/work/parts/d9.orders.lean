section GB
variable {D Ls : Nat} {I : Nat → Nat → Int32} {L : Nat → Nat → Int64} {R : Nat → Nat → Option Nat} {X : List pKd} {W : Nat → Int32} {Q : Option Value → pHp → Prop}
/-- how often, and the test -/
theorem ga_4 {k1 l n cc : Nat} {to : Int32} {t : Nat × Nat} {z : Nat × Nat × tDB × tCd} {lv b sB : Bool} (hE : evH true I 6 W) (et : pTm true (kC (I 125) 6) (kV (I 125) 6) k1 = some (.ok t)) (e5 : pIf true (kC (I 125) 6) (kV (I 125) 6) n t.1 l cc = some (.ok z)) (hz : z.1 ≤ 400) (hl : l ≤ 50) (ht : t.1 ≤ 400) (hD : 44 ≤ D)
    (H : ∀ J, (∀ a, ¬ a = 123 → J a = I a) → (∀ q, ¬ q = 22 → ¬ q = 24 → ¬ q = 39 → ¬ q = 41 → ¬ q = 42 → J 123 q = I 123 q) → J 123 22 = nI (2400 + z.1 + 1) → J 123 41 = bI sB → J 123 39 = nI t.2 → (lv = true → J 123 42 = bI (decide (z.2.2.1 W = some true))) → Q none (p_mk Ls J L R X)) :
    P_run (D + 2) 254 (p_bk 254 4) 0 0 [.ref 123, .int to, .int (bI lv)] [.int (bI sB), .ref 123] (p_mk Ls (EV I (2400 + k1) b) L R X) Q := by
  have go : ∀ (I' : Nat → Nat → Int32), (∀ a, ¬ a = 123 → I' a = I a) → (∀ q, ¬ q = 39 → ¬ q = 41 → I' 123 q = I 123 q) → I' 123 41 = bI sB → I' 123 39 = nI t.2 → P_run (D + 2) 254 (p_bk 254 5) 0 0 [.ref 123, .int to, .int (bI lv)] [] (p_mk Ls (EV I' (2400 + t.1) b) L R X) Q := by
    intro I' f1 f2 f3 f4
    have e125 : I' 125 = I 125 := f1 125 (by omega)
    have hE' : evH true I' 6 W := evH_fr hE e125 (f1 135 (by omega)) (fun k hk => f2 k (by omega) (by omega))
    rw [← e125] at e5
    refine ga_5 hE' e5 hz hl ht hD (fun J j1 j2 j3 j4 => H J (fun a ha => (j1 a ha).trans (f1 a ha)) (fun q q1 q2 q3 q4 q5 => (j2 q q1 q2 q5).trans (f2 q q3 q4)) j3 ((j2 41 (by omega) (by omega) (by omega)).trans f3) ((j2 39 (by omega) (by omega) (by omega)).trans f4) j4)
  have hE2 : evH true (p_u (p_u I 123 41 (bI sB)) 123 39 (nI 1)) 6 W := evH_fr hE (by rw [p_u_ne (by omega), p_u_ne (by omega)]) (by rw [p_u_ne (by omega), p_u_ne (by omega)]) (fun k hk => by rw [p_u_at, if_neg (by omega), p_u_at, if_neg (by omega)])
  have e125 : p_u (p_u I 123 41 (bI sB)) 123 39 (nI 1) 125 = I 125 := by rw [p_u_ne (by omega), p_u_ne (by omega)]
  clear H
  unfold pTm at et
  split at et
  · rename_i h23
    split at et
    · rename_i h50
      cases et
      obtain ⟨h50, hv1, hv2⟩ := h50
      have hk1 : k1 + 2 ≤ 400 := ht
      obtain ⟨T, hT, eT, hk⟩ := hE.1
      have hlt : k1 + 1 < T := by
        rcases Nat.lt_or_ge (k1 + 1) T with h | h
        · exact h
        · rw [kC_0 eT hT h] at h50; omega
      have eV : I 125 (2864 + (2400 + (k1 + 1))) = nI (kV (I 125) 6 (k1 + 1)) := by
        rw [← (hk _ hlt).2.2.1]; congr 1; omega
      have s := sp_186t (d := D) (Ls := Ls) (L := L) (R := R) (X := X) (c := 23) (k := k1) (b := b) hE2 (by omega) (by rw [e125]; exact h23.2)
      have go := go (p_u (p_u (p_u I 123 41 (bI sB)) 123 39 (nI 1)) 123 39 (nI (kV (I 125) 6 (k1 + 1)))) (fun a ha => by rw [p_u_ne ha, p_u_ne ha, p_u_ne ha]) (fun q q1 q2 => by rw [p_u_at, if_neg q1, p_u_at, if_neg q1, p_u_at, if_neg q2]) (by rw [p_u_at, if_neg (by omega), p_u_at, if_neg (by omega), p_u_at, if_pos rfl]) (by rw [p_u_at, if_pos rfl])
      rw [show 2400 + (k1 + 2) = 2400 + (k1 + 1) + 1 by omega] at go
      simp only [Nat.reduceMul] at s
      clear hE2 hE e5 h23 hk
      generalize bI lv = lvv at *
      generalize kV (I 125) 6 (k1 + 1) = vv at *
      cases sB with
      | true =>
        rw [bI_t] at s go
        rw [P_run_eq, bk_254_4, pb_254_4]; simp -implicitDefEqProofs (disch := first | omega | decide) only [P_m, pw_putZ, pw_aload_n0, pw_aloadN_n0, pw_iconst, il_1, pw_putI, pw_bipush, bl_23, pw_iv2, pw_zeq, pw_getR, pw_sipush, sl_2864, pw_getI, pw_iadd, pw_iald, pw_dupi, pw_dupr, pw_nop, kd_123, rf_123_1, rf_123_2, rf_123_3, rf_123_4, rf_123_5, rf_123_7, rf_123_11, rf_123_12, rf_123_15, rf_123_16, rf_123_17, rf_123_26, rf_123_29, rf_123_30, rf_123_32, rf_123_34, rf_123_35, rf_123_45, kd_125, n_0, n_1, n_23, n_2864, nn_lt, nn_nlt, nn_le, nn_nle, nn_ne, nn_sub, nn_mul, nI_add, nn_neg, nm_eq, mn_eq, mm_eq, mn_lt, nm_lt, mn_le, nm_le, nn_sub0, nn_of, implies_true, nn_c, nn_in, nn_div, nat_rem, Nat.reduceMul, Nat.reduceSub, Nat.reduceDiv, Nat.reduceMod, pf_at, pf_ne, mk_s, mk_1, Classical.not_not, b2i_T, b2i_F, false_imp_iff, true_imp_iff, false_and, and_false, p_sw, Int.reduceAdd, Int.zero_add, Option.some.injEq, Value.int.injEq, Value.long.injEq, Value.ref.injEq, exists_eq_left', mk_I, mk_L, mk_wI, mk_wL, rf_s, rf_n, true_and, and_true, and_self, or_true, true_or, or_false, false_or, not_true_eq_false, not_false_eq_true, Option.toList_some, Option.toList_none, List.cons_append, List.nil_append, List.map_nil, List.map_cons, List.sum_nil, List.sum_cons, cat_i, cat_l, cat_r, cat_n, Nat.reduceLeDiff, Nat.reduceAdd, Nat.reduceEqDiff, Nat.zero_le, p_ent, p_u_ne, p_u_at, reduceIte, if_true, if_false, ev_pu, ev_go, ev_ne, ev_wg, P_ce s, bI_t, eV]
        exact go
      | false =>
        rw [bI_f] at s go
        rw [P_run_eq, bk_254_4, pb_254_4]; simp -implicitDefEqProofs (disch := first | omega | decide) only [P_m, pw_putZ, pw_aload_n0, pw_aloadN_n0, pw_iconst, il_1, pw_putI, pw_bipush, bl_23, pw_iv2, pw_zeq, pw_getR, pw_sipush, sl_2864, pw_getI, pw_iadd, pw_iald, pw_dupi, pw_dupr, pw_nop, kd_123, rf_123_1, rf_123_2, rf_123_3, rf_123_4, rf_123_5, rf_123_7, rf_123_11, rf_123_12, rf_123_15, rf_123_16, rf_123_17, rf_123_26, rf_123_29, rf_123_30, rf_123_32, rf_123_34, rf_123_35, rf_123_45, kd_125, n_0, n_1, n_23, n_2864, nn_lt, nn_nlt, nn_le, nn_nle, nn_ne, nn_sub, nn_mul, nI_add, nn_neg, nm_eq, mn_eq, mm_eq, mn_lt, nm_lt, mn_le, nm_le, nn_sub0, nn_of, implies_true, nn_c, nn_in, nn_div, nat_rem, Nat.reduceMul, Nat.reduceSub, Nat.reduceDiv, Nat.reduceMod, pf_at, pf_ne, mk_s, mk_1, Classical.not_not, b2i_T, b2i_F, false_imp_iff, true_imp_iff, false_and, and_false, p_sw, Int.reduceAdd, Int.zero_add, Option.some.injEq, Value.int.injEq, Value.long.injEq, Value.ref.injEq, exists_eq_left', mk_I, mk_L, mk_wI, mk_wL, rf_s, rf_n, true_and, and_true, and_self, or_true, true_or, or_false, false_or, not_true_eq_false, not_false_eq_true, Option.toList_some, Option.toList_none, List.cons_append, List.nil_append, List.map_nil, List.map_cons, List.sum_nil, List.sum_cons, cat_i, cat_l, cat_r, cat_n, Nat.reduceLeDiff, Nat.reduceAdd, Nat.reduceEqDiff, Nat.zero_le, p_ent, p_u_ne, p_u_at, reduceIte, if_true, if_false, ev_pu, ev_go, ev_ne, ev_wg, P_ce s, bI_f, eV]
        exact go
    · cases et
  · rename_i h23
    cases et
    have n23 : ¬ kC (I 125) 6 k1 = 23 := fun h => h23 ⟨rfl, h⟩
    have hk1 : k1 ≤ 400 := ht
    have s := sp_186f (d := D) (Ls := Ls) (L := L) (R := R) (X := X) (c := 23) (k := k1) (b := b) hE2 (by omega) (by omega) (by rw [e125]; exact n23)
    have go := go (p_u (p_u I 123 41 (bI sB)) 123 39 (nI 1)) (fun a ha => by rw [p_u_ne ha, p_u_ne ha]) (fun q q1 q2 => by rw [p_u_at, if_neg q1, p_u_at, if_neg q2]) (by rw [p_u_at, if_neg (by omega), p_u_at, if_pos rfl]) (by rw [p_u_at, if_pos rfl])
    simp only [Nat.reduceMul] at s
    clear hE2 hE e5
    generalize bI lv = lvv at *
    cases sB with
    | true =>
      rw [bI_t] at s go
      rw [P_run_eq, bk_254_4, pb_254_4]; simp -implicitDefEqProofs (disch := first | omega | decide) only [P_m, pw_putZ, pw_aload_n0, pw_aloadN_n0, pw_iconst, il_1, pw_putI, pw_bipush, bl_23, pw_iv2, pw_zeq, pw_getR, pw_sipush, sl_2864, pw_getI, pw_iadd, pw_iald, pw_dupi, pw_dupr, pw_nop, kd_123, rf_123_1, rf_123_2, rf_123_3, rf_123_4, rf_123_5, rf_123_7, rf_123_11, rf_123_12, rf_123_15, rf_123_16, rf_123_17, rf_123_26, rf_123_29, rf_123_30, rf_123_32, rf_123_34, rf_123_35, rf_123_45, kd_125, n_0, n_1, n_23, n_2864, nn_lt, nn_nlt, nn_le, nn_nle, nn_ne, nn_sub, nn_mul, nI_add, nn_neg, nm_eq, mn_eq, mm_eq, mn_lt, nm_lt, mn_le, nm_le, nn_sub0, nn_of, implies_true, nn_c, nn_in, nn_div, nat_rem, Nat.reduceMul, Nat.reduceSub, Nat.reduceDiv, Nat.reduceMod, pf_at, pf_ne, mk_s, mk_1, Classical.not_not, b2i_T, b2i_F, false_imp_iff, true_imp_iff, false_and, and_false, p_sw, Int.reduceAdd, Int.zero_add, Option.some.injEq, Value.int.injEq, Value.long.injEq, Value.ref.injEq, exists_eq_left', mk_I, mk_L, mk_wI, mk_wL, rf_s, rf_n, true_and, and_true, and_self, or_true, true_or, or_false, false_or, not_true_eq_false, not_false_eq_true, Option.toList_some, Option.toList_none, List.cons_append, List.nil_append, List.map_nil, List.map_cons, List.sum_nil, List.sum_cons, cat_i, cat_l, cat_r, cat_n, Nat.reduceLeDiff, Nat.reduceAdd, Nat.reduceEqDiff, Nat.zero_le, p_ent, p_u_ne, p_u_at, reduceIte, if_true, if_false, ev_pu, ev_go, ev_ne, ev_wg, P_ce s, bI_t]
      exact go
    | false =>
      rw [bI_f] at s go
      rw [P_run_eq, bk_254_4, pb_254_4]; simp -implicitDefEqProofs (disch := first | omega | decide) only [P_m, pw_putZ, pw_aload_n0, pw_aloadN_n0, pw_iconst, il_1, pw_putI, pw_bipush, bl_23, pw_iv2, pw_zeq, pw_getR, pw_sipush, sl_2864, pw_getI, pw_iadd, pw_iald, pw_dupi, pw_dupr, pw_nop, kd_123, rf_123_1, rf_123_2, rf_123_3, rf_123_4, rf_123_5, rf_123_7, rf_123_11, rf_123_12, rf_123_15, rf_123_16, rf_123_17, rf_123_26, rf_123_29, rf_123_30, rf_123_32, rf_123_34, rf_123_35, rf_123_45, kd_125, n_0, n_1, n_23, n_2864, nn_lt, nn_nlt, nn_le, nn_nle, nn_ne, nn_sub, nn_mul, nI_add, nn_neg, nm_eq, mn_eq, mm_eq, mn_lt, nm_lt, mn_le, nm_le, nn_sub0, nn_of, implies_true, nn_c, nn_in, nn_div, nat_rem, Nat.reduceMul, Nat.reduceSub, Nat.reduceDiv, Nat.reduceMod, pf_at, pf_ne, mk_s, mk_1, Classical.not_not, b2i_T, b2i_F, false_imp_iff, true_imp_iff, false_and, and_false, p_sw, Int.reduceAdd, Int.zero_add, Option.some.injEq, Value.int.injEq, Value.long.injEq, Value.ref.injEq, exists_eq_left', mk_I, mk_L, mk_wI, mk_wL, rf_s, rf_n, true_and, and_true, and_self, or_true, true_or, or_false, false_or, not_true_eq_false, not_false_eq_true, Option.toList_some, Option.toList_none, List.cons_append, List.nil_append, List.map_nil, List.map_cons, List.sum_nil, List.sum_cons, cat_i, cat_l, cat_r, cat_n, Nat.reduceLeDiff, Nat.reduceAdd, Nat.reduceEqDiff, Nat.zero_le, p_ent, p_u_ne, p_u_at, reduceIte, if_true, if_false, ev_pu, ev_go, ev_ne, ev_wg, P_ce s, bI_f]
      exact go
theorem sp_185p {d i k T : Nat} (h1 : kOk (I 125) i) (h2 : i ≤ 6) (hT : T ≤ 400) (e1 : I 125 (57 + i) = nI T) (e2 : I 123 23 = nI (400 * i + T)) (hk : k ≤ 2000) : P_m d 185 [.ref 123, .int (nI (400 * i + k))] (p_mk Ls I L R X) (fun v h' => v = some (.int (nI (kC (I 125) i k))) ∧ h' = p_mk Ls I L R X) := by
  by_cases c : k < T
  · obtain ⟨T', hT', e1', hk'⟩ := h1
    have : T' = T := (nI_eq (by omega) (by omega)).mp (e1'.symm.trans e1)
    subst this
    have e3 := (hk' k c).1
    rw [show 64 + 400 * i + k = 64 + (400 * i + k) by omega] at e3
    simp -implicitDefEqProofs (disch := first | omega | decide) only [P_m, ↓P_run_eq _ 185 _ (p_bk 185 0), bk_185_0, pb_185_0, ↓P_run_eq _ 185 _ (p_bk 185 1), bk_185_1, pb_185_1, ↓P_run_eq _ 185 _ (p_bk 185 2), bk_185_2, pb_185_2, pw_iload_n1, pw_aload_n0, pw_aloadN_n0, pw_getI, pw_cge, pw_getR, pw_bipush, bl_64, pw_iadd, pw_iald, pw_goto, pw_iconst, il_0, pw_nop, pw_ret0, kd_123, rf_123_1, rf_123_2, rf_123_3, rf_123_4, rf_123_5, rf_123_7, rf_123_11, rf_123_12, rf_123_15, rf_123_16, rf_123_17, rf_123_26, rf_123_29, rf_123_30, rf_123_32, rf_123_34, rf_123_35, rf_123_45, kd_125, n_0, n_1, n_64, nn_lt, nn_nlt, nn_le, nn_nle, nn_ne, nn_sub, nn_mul, nI_add, nn_neg, nm_eq, mn_eq, mm_eq, mn_lt, nm_lt, mn_le, nm_le, nn_sub0, nn_of, implies_true, nn_c, nn_in, nn_div, nat_rem, Nat.reduceMul, Nat.reduceSub, Nat.reduceDiv, Nat.reduceMod, pf_at, pf_ne, mk_s, mk_1, Classical.not_not, b2i_T, b2i_F, false_imp_iff, true_imp_iff, false_and, and_false, p_sw, Int.reduceAdd, Int.zero_add, Option.some.injEq, Value.int.injEq, Value.long.injEq, Value.ref.injEq, exists_eq_left', mk_I, mk_L, mk_wI, mk_wL, rf_s, rf_n, true_and, and_true, and_self, or_true, true_or, or_false, false_or, not_true_eq_false, not_false_eq_true, Option.toList_some, Option.toList_none, List.cons_append, List.nil_append, List.map_nil, List.map_cons, List.sum_nil, List.sum_cons, cat_i, cat_l, cat_r, cat_n, Nat.reduceLeDiff, Nat.reduceAdd, Nat.reduceEqDiff, Nat.zero_le, p_ent, p_u_ne, p_u_at, reduceIte, if_true, if_false, e2, e3]
  · rw [kC_0 e1 hT (by omega)]
    simp -implicitDefEqProofs (disch := first | omega | decide) only [P_m, ↓P_run_eq _ 185 _ (p_bk 185 0), bk_185_0, pb_185_0, ↓P_run_eq _ 185 _ (p_bk 185 1), bk_185_1, pb_185_1, ↓P_run_eq _ 185 _ (p_bk 185 2), bk_185_2, pb_185_2, pw_iload_n1, pw_aload_n0, pw_aloadN_n0, pw_getI, pw_cge, pw_getR, pw_bipush, bl_64, pw_iadd, pw_iald, pw_goto, pw_iconst, il_0, pw_nop, pw_ret0, kd_123, rf_123_1, rf_123_2, rf_123_3, rf_123_4, rf_123_5, rf_123_7, rf_123_11, rf_123_12, rf_123_15, rf_123_16, rf_123_17, rf_123_26, rf_123_29, rf_123_30, rf_123_32, rf_123_34, rf_123_35, rf_123_45, n_0, n_1, n_64, nn_lt, nn_nlt, nn_le, nn_nle, nn_ne, nn_sub, nn_mul, nI_add, nn_neg, nm_eq, mn_eq, mm_eq, mn_lt, nm_lt, mn_le, nm_le, nn_sub0, nn_of, implies_true, nn_c, nn_in, nn_div, nat_rem, Nat.reduceMul, Nat.reduceSub, Nat.reduceDiv, Nat.reduceMod, pf_at, pf_ne, mk_s, mk_1, Classical.not_not, b2i_T, b2i_F, false_imp_iff, true_imp_iff, false_and, and_false, p_sw, Int.reduceAdd, Int.zero_add, Option.some.injEq, Value.int.injEq, Value.long.injEq, Value.ref.injEq, exists_eq_left', mk_I, mk_L, mk_wI, mk_wL, rf_s, rf_n, true_and, and_true, and_self, or_true, true_or, or_false, false_or, not_true_eq_false, not_false_eq_true, Option.toList_some, Option.toList_none, List.cons_append, List.nil_append, List.map_nil, List.map_cons, List.sum_nil, List.sum_cons, cat_i, cat_l, cat_r, cat_n, Nat.reduceLeDiff, Nat.reduceAdd, Nat.reduceEqDiff, Nat.zero_le, p_ent, p_u_ne, p_u_at, reduceIte, if_true, if_false, e2]
theorem ce_185p {d i k T : Nat} (h2 : i ≤ 6) (hT : T ≤ 400) (hk : k ≤ 2000) {yy : Nat} {rr : List pI} {kc ks : Nat} {lls st : List Value} {Q : Option Value → pHp → Prop} (h1 : kOk (I 125) i) (e1 : I 125 (57 + i) = nI T) (e2 : I 123 23 = nI (400 * i + T)) : P_call d yy 185 [.ref 123, .int (nI (400 * i + k))] rr kc ks lls st (p_mk Ls I L R X) Q = P_w (d + 1) yy Q rr kc ks lls ((.int (nI (kC (I 125) i k))) :: st) (p_mk Ls I L R X) := P_ce (sp_185p h1 h2 hT e1 e2 hk)
/-- what an order's reading leaves -/
def gaO (I J : Nat → Nat → Int32) (W : Nat → Int32) (v : Int64) (T e : Nat) (cl : tCl) (lv : Bool) : Prop := (∀ a, ¬ a = 123 → J a = I a) ∧ (∀ q, ¬ (22 ≤ q ∧ q ≤ 25) → ¬ (39 ≤ q ∧ q ≤ 42) → J 123 q = I 123 q) ∧ J 123 23 = nI (2400 + T) ∧ J 123 25 = nI 1 ∧ J 123 22 = nI (2400 + e + 1) ∧ J 123 40 = nI (19 + cl_k cl) ∧ J 123 39 = nI (cl_t cl) ∧ (lv = true → J 123 41 = bI (cl_f cl W).isSome ∧ J 123 42 = bI (decide (cl_g cl W = some true)) ∧ ∀ x, cl_f cl W = some x → ¬ cl_k cl = 2 → v = lI x)
theorem ga_0 {k l n cc T : Nat} {a : Nat × Nat × tCl} {lv : Bool} (k38 : I 123 38 = nI (2400 + k)) (hK : kOk (I 125) 6) (hT : T ≤ 400) (eT : I 125 63 = nI T) (hV : envR true I W) (hW : bW (nw true) W) (h : pC true (kC (I 125) 6) (kV (I 125) 6) n k l cc = some (.ok a)) (ha : a.1 ≤ 400) (hl : l ≤ 50) (hD : 44 ≤ D)
    (H : ∀ J v, gaO I J W v T a.1 a.2.2 lv → Q none (p_mk Ls J (p_u L 123 43 v) R X)) :
    P_m (D + 2) 254 [.ref 123, .int (nI (2400 + T)), .int (bI lv)] (p_mk Ls I L R X) Q := by
  unfold pC at h
  split at h
  · cases h
  rename_i hk
  obtain ⟨x, e1, e2⟩ := bnd_iok h
  obtain ⟨y, e3, e4⟩ := bnd_iok e2
  obtain ⟨z, e5, e6⟩ := bnd_iok e4
  cases e6
  have hk' : 19 ≤ kC (I 125) 6 k ∧ kC (I 125) 6 k ≤ 22 := by
    unfold hdK at hk
    rw [if_pos rfl] at hk
    split at hk
    · assumption
    · exact absurd rfl hk
  have hkd : hdK true (kC (I 125) 6 k) = kC (I 125) 6 k - 19 := by
    unfold hdK; rw [if_pos rfl, if_pos hk']
  have hkT : k < T := by
    rcases Nat.lt_or_ge k T with h | h
    · exact h
    · rw [kC_0 eT hT h] at hk'; omega
  have hz : z.1 ≤ 400 := ha
  have m3 : y.1 ≤ z.1 := by
    unfold pIf at e5
    split at e5
    · have := ((pB_g n).2.1 _ _ _ _ _ _ _ _ e5).2.2.2.1
      omega
    · cases e5; exact Nat.le_refl _
  have m2 : x.1 ≤ y.1 := by
    unfold pTm at e3
    split at e3
    · split at e3
      · cases e3; show x.1 ≤ x.1 + 2; omega
      · cases e3
    · cases e3; exact Nat.le_refl _
  have ml : x.2.1 ≤ 50 := by
    unfold pSm at e1
    split at e1
    · exact ((pS_g n).2.1 _ _ _ _ _ _ e1).2.2.1
    · cases e1; exact hl
  rw [hkd] at e1
  obtain ⟨Z0, hZ0⟩ : ∃ Z0, Z0 = p_u (p_u (p_u I 123 25 (nI 1)) 123 23 (nI (2400 + T))) 123 22 (nI (2400 + k)) := ⟨_, rfl⟩
  obtain ⟨Z, hZ⟩ : ∃ Z, Z = p_u Z0 123 40 (nI (kC (I 125) 6 k)) := ⟨_, rfl⟩
  have z0n : ∀ a, ¬ a = 123 → Z0 a = I a := fun a ha => by rw [hZ0, p_u_ne ha, p_u_ne ha, p_u_ne ha]
  have zn : ∀ a, ¬ a = 123 → Z a = I a := fun a ha => by rw [hZ, p_u_ne ha, z0n a ha]
  have zf : ∀ q, ¬ (22 ≤ q ∧ q ≤ 25) → ¬ q = 40 → Z 123 q = I 123 q := fun q q1 q2 => by rw [hZ, p_u_at, if_neg q2, hZ0, p_u_at, if_neg (by omega), p_u_at, if_neg (by omega), p_u_at, if_neg (by omega)]
  have z23 : Z 123 23 = nI (2400 + T) := by rw [hZ, p_u_at, if_neg (by omega), hZ0, p_u_at, if_neg (by omega), p_u_at, if_pos rfl]
  have z23' : Z0 123 23 = nI (2400 + T) := by rw [hZ0, p_u_at, if_neg (by omega), p_u_at, if_pos rfl]
  have z22' : Z0 123 22 = nI (2400 + k) := by rw [hZ0, p_u_at, if_pos rfl]
  have z25 : Z 123 25 = nI 1 := by rw [hZ, p_u_at, if_neg (by omega), hZ0, p_u_at, if_neg (by omega), p_u_at, if_neg (by omega), p_u_at, if_pos rfl]
  have z40 : Z 123 40 = nI (kC (I 125) 6 k) := by rw [hZ, p_u_at, if_pos rfl]
  have z22 : Z 123 22 = nI (2400 + k) := by rw [hZ, p_u_at, if_neg (by omega)]; exact z22'
  have zK : Z 125 = I 125 := zn 125 (by omega)
  have zK0 : Z0 125 = I 125 := z0n 125 (by omega)
  have hE : evH true Z 6 W := by
    refine ⟨by rw [zK]; exact hK, by omega, ⟨T, hT, by rw [zK]; exact eT, z23⟩, z25, ?_, hW⟩
    unfold envR at hV ⊢
    rw [if_pos rfl] at hV ⊢
    rw [zK, zf 27 (by omega) (by omega), zf 28 (by omega) (by omega)]
    exact hV
  have s185 := sp_185p (d := D + 1) (Ls := Ls) (I := Z0) (L := L) (R := R) (X := X) (i := 6) (k := k) (T := T) (by rw [zK0]; exact hK) (by omega) hT (by rw [zK0]; exact eT) z23' (by omega)
  simp only [Nat.reduceMul] at s185
  rw [zK0] at s185
  have g4 : ∀ (L' : Nat → Nat → Int64) (v : Int64) (b sB : Bool), L' = p_u L 123 43 v → (lv = true → sB = (x.2.2.1 W).isSome) → (∀ w, lv = true → x.2.2.1 W = some w → ¬ kC (I 125) 6 k = 21 → v = lI w) → P_run (D + 2) 254 (p_bk 254 4) 0 0 [.ref 123, .int (nI (2400 + T)), .int (bI lv)] [.int (bI sB), .ref 123] (p_mk Ls (EV Z (2400 + x.1) b) L' R X) Q := by
    intro L' v b sB hL hs hv
    rw [← zK] at e3 e5
    refine ga_4 hE e3 e5 hz ml (by omega) hD (fun J j1 j2 j3 j4 j5 j6 => ?_)
    rw [hL]
    refine H J v ⟨fun a ha => (j1 a ha).trans (zn a ha), fun q q1 q2 => (j2 q (by omega) (by omega) (by omega) (by omega) (by omega)).trans (zf q q1 (by omega)), (j2 23 (by omega) (by omega) (by omega) (by omega) (by omega)).trans z23, (j2 25 (by omega) (by omega) (by omega) (by omega) (by omega)).trans z25, j3, ?_, j5, fun hlv => ⟨?_, j6 hlv, fun w hw hn => hv w hlv hw ?_⟩⟩
    · rw [j2 40 (by omega) (by omega) (by omega) (by omega) (by omega), z40]
      show _ = nI (19 + hdK true (kC (I 125) 6 k))
      rw [hkd, show 19 + (kC (I 125) 6 k - 19) = kC (I 125) 6 k by omega]
    · rw [j4, hs hlv]
    · intro h21
      apply hn
      show hdK true (kC (I 125) 6 k) = 2
      rw [hkd, h21]
  clear H e5 e3 e4 e2 h hk zf z23 z25 zn z0n hV hkd
  by_cases c21 : kC (I 125) 6 k = 21
  · have ex : x = (k + 1, l, (fun _ => some 1), []) := by
      unfold pSm hasS at e1
      rw [if_pos rfl, if_neg (by rw [c21]; decide)] at e1
      cases e1; rfl
    have g4 := g4 _ (lI 0) false true rfl (fun _ => by rw [ex]; rfl) (fun w _ _ hn => absurd c21 hn)
    rw [ex] at g4
    rw [bI_t] at g4
    dsimp only at g4
    rw [show 2400 + (k + 1) = 2400 + k + 1 by omega] at g4
    rw [c21] at s185 hZ z40
    clear hE e1 zK zK0 hK hkT ex
    generalize bI lv = lvv at *
    simp -implicitDefEqProofs (disch := first | omega | decide) only [P_m, ↓P_run_eq _ 254 _ (p_bk 254 0), bk_254_0, pb_254_0, ↓P_run_eq _ 254 _ (p_bk 254 2), bk_254_2, pb_254_2, pw_aload_n0, pw_aloadN_n0, pw_iconst, il_1, pw_putZ, pw_iload_n1, pw_putI, pw_getI, pw_iv2, pw_dupi, pw_dupr, pw_iadd, il_0, pw_bipush, bl_21, pw_cne, pw_lconst, ll_0, pw_goto, pw_putL, pw_zne, kd_123, rf_123_1, rf_123_2, rf_123_3, rf_123_4, rf_123_5, rf_123_7, rf_123_11, rf_123_12, rf_123_15, rf_123_16, rf_123_17, rf_123_26, rf_123_29, rf_123_30, rf_123_32, rf_123_34, rf_123_35, rf_123_45, n_0, n_1, n_21, nn_lt, nn_nlt, nn_le, nn_nle, nn_ne, nn_sub, nn_mul, nI_add, nn_neg, nm_eq, mn_eq, mm_eq, mn_lt, nm_lt, mn_le, nm_le, nn_sub0, nn_of, implies_true, nn_c, nn_in, nn_div, nat_rem, Nat.reduceMul, Nat.reduceSub, Nat.reduceDiv, Nat.reduceMod, pf_at, pf_ne, mk_s, mk_1, Classical.not_not, b2i_T, b2i_F, false_imp_iff, true_imp_iff, false_and, and_false, p_sw, Int.reduceAdd, Int.zero_add, Option.some.injEq, Value.int.injEq, Value.long.injEq, Value.ref.injEq, exists_eq_left', mk_I, mk_L, mk_wI, mk_wL, rf_s, rf_n, true_and, and_true, and_self, or_true, true_or, or_false, false_or, not_true_eq_false, not_false_eq_true, Option.toList_some, Option.toList_none, List.cons_append, List.nil_append, List.map_nil, List.map_cons, List.sum_nil, List.sum_cons, cat_i, cat_l, cat_r, cat_n, Nat.reduceLeDiff, Nat.reduceAdd, Nat.reduceEqDiff, Nat.zero_le, p_ent, p_u_ne, p_u_at, reduceIte, if_true, if_false, ← hZ0, z22', P_ce s185, ← hZ, z22, ev_mk0, l_0, ev_br, ev_f, z40, bI_f, k38]
    exact g4
  · have c2 : ¬ kC (I 125) 6 k - 19 = 2 := by omega
    unfold pSm hasS at e1
    rw [if_pos rfl, if_pos (decide_eq_true c2)] at e1
    rw [← zK] at e1
    have s := (pS_r (Ls := Ls) hE n).2.1 _ _ _ _ _ _ e1 (by omega) hl (by omega) (D + 1) (by omega) L R X lv false
    simp only [Nat.reduceMul] at s
    rw [show 2400 + (k + 1) = 2400 + k + 1 by omega] at s
    have g4 := g4 _ (lI (rv lv false (x.2.2.1 W))) (rb lv false (x.2.2.1 W)) (!rb lv false (x.2.2.1 W)) rfl (fun hlv => by subst hlv; unfold rb; cases x.2.2.1 W <;> rfl) (fun w hlv hw _ => by rw [hw, hlv, rv_t]; rfl)
    clear hE e1 zK zK0 hK hkT
    generalize lI (rv lv false (x.2.2.1 W)) = vv at *
    generalize rb lv false (x.2.2.1 W) = B at *
    generalize kC (I 125) 6 k = cc at *
    generalize bI lv = lvv at *
    cases B with
    | true =>
      have g4 : P_run (D + 2) 254 (p_bk 254 4) 0 0 [.ref 123, .int (nI (2400 + T)), .int lvv] [.int (nI 0), .ref 123] (p_mk Ls (EV Z (2400 + x.1) true) (p_u L 123 43 vv) R X) Q := g4
      simp -implicitDefEqProofs (disch := first | omega | decide) only [P_m, ↓P_run_eq _ 254 _ (p_bk 254 0), bk_254_0, pb_254_0, ↓P_run_eq _ 254 _ (p_bk 254 1), bk_254_1, pb_254_1, ↓P_run_eq _ 254 _ (p_bk 254 2), bk_254_2, pb_254_2, ↓P_run_eq _ 254 _ (p_bk 254 3), bk_254_3, pb_254_3, pw_aload_n0, pw_aloadN_n0, pw_iconst, il_1, pw_putZ, pw_iload_n1, pw_putI, pw_getI, pw_iv2, pw_dupi, pw_dupr, pw_iadd, il_0, pw_bipush, bl_21, pw_cne, pw_lconst, ll_0, pw_goto, pw_iload_n2, pw_nop, pw_putL, pw_zne, kd_123, rf_123_1, rf_123_2, rf_123_3, rf_123_4, rf_123_5, rf_123_7, rf_123_11, rf_123_12, rf_123_15, rf_123_16, rf_123_17, rf_123_26, rf_123_29, rf_123_30, rf_123_32, rf_123_34, rf_123_35, rf_123_45, n_0, n_1, n_21, nn_lt, nn_nlt, nn_le, nn_nle, nn_ne, nn_sub, nn_mul, nI_add, nn_neg, nm_eq, mn_eq, mm_eq, mn_lt, nm_lt, mn_le, nm_le, nn_sub0, nn_of, implies_true, nn_c, nn_in, nn_div, nat_rem, Nat.reduceMul, Nat.reduceSub, Nat.reduceDiv, Nat.reduceMod, pf_at, pf_ne, mk_s, mk_1, Classical.not_not, b2i_T, b2i_F, false_imp_iff, true_imp_iff, false_and, and_false, p_sw, Int.reduceAdd, Int.zero_add, Option.some.injEq, Value.int.injEq, Value.long.injEq, Value.ref.injEq, exists_eq_left', mk_I, mk_L, mk_wI, mk_wL, rf_s, rf_n, true_and, and_true, and_self, or_true, true_or, or_false, false_or, not_true_eq_false, not_false_eq_true, Option.toList_some, Option.toList_none, List.cons_append, List.nil_append, List.map_nil, List.map_cons, List.sum_nil, List.sum_cons, cat_i, cat_l, cat_r, cat_n, Nat.reduceLeDiff, Nat.reduceAdd, Nat.reduceEqDiff, Nat.zero_le, p_ent, p_u_ne, p_u_at, reduceIte, if_true, if_false, ← hZ0, z22', P_ce s185, ← hZ, z22, ev_mk0, P_ce s, ev_br, ev_f, z40, bI_t, k38, c21]
      exact g4
    | false =>
      have g4 : P_run (D + 2) 254 (p_bk 254 4) 0 0 [.ref 123, .int (nI (2400 + T)), .int lvv] [.int (nI 1), .ref 123] (p_mk Ls (EV Z (2400 + x.1) false) (p_u L 123 43 vv) R X) Q := g4
      simp -implicitDefEqProofs (disch := first | omega | decide) only [P_m, ↓P_run_eq _ 254 _ (p_bk 254 0), bk_254_0, pb_254_0, ↓P_run_eq _ 254 _ (p_bk 254 1), bk_254_1, pb_254_1, ↓P_run_eq _ 254 _ (p_bk 254 2), bk_254_2, pb_254_2, pw_aload_n0, pw_aloadN_n0, pw_iconst, il_1, pw_putZ, pw_iload_n1, pw_putI, pw_getI, pw_iv2, pw_dupi, pw_dupr, pw_iadd, il_0, pw_bipush, bl_21, pw_cne, pw_lconst, ll_0, pw_goto, pw_iload_n2, pw_nop, pw_putL, pw_zne, kd_123, rf_123_1, rf_123_2, rf_123_3, rf_123_4, rf_123_5, rf_123_7, rf_123_11, rf_123_12, rf_123_15, rf_123_16, rf_123_17, rf_123_26, rf_123_29, rf_123_30, rf_123_32, rf_123_34, rf_123_35, rf_123_45, n_0, n_1, n_21, nn_lt, nn_nlt, nn_le, nn_nle, nn_ne, nn_sub, nn_mul, nI_add, nn_neg, nm_eq, mn_eq, mm_eq, mn_lt, nm_lt, mn_le, nm_le, nn_sub0, nn_of, implies_true, nn_c, nn_in, nn_div, nat_rem, Nat.reduceMul, Nat.reduceSub, Nat.reduceDiv, Nat.reduceMod, pf_at, pf_ne, mk_s, mk_1, Classical.not_not, b2i_T, b2i_F, false_imp_iff, true_imp_iff, false_and, and_false, p_sw, Int.reduceAdd, Int.zero_add, Option.some.injEq, Value.int.injEq, Value.long.injEq, Value.ref.injEq, exists_eq_left', mk_I, mk_L, mk_wI, mk_wL, rf_s, rf_n, true_and, and_true, and_self, or_true, true_or, or_false, false_or, not_true_eq_false, not_false_eq_true, Option.toList_some, Option.toList_none, List.cons_append, List.nil_append, List.map_nil, List.map_cons, List.sum_nil, List.sum_cons, cat_i, cat_l, cat_r, cat_n, Nat.reduceLeDiff, Nat.reduceAdd, Nat.reduceEqDiff, Nat.zero_le, p_ent, p_u_ne, p_u_at, reduceIte, if_true, if_false, ← hZ0, z22', P_ce s185, ← hZ, z22, ev_mk0, P_ce s, ev_br, ev_f, z40, bI_f, k38, c21]
      exact g4
end GB
