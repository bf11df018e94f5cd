theorem m1_nlt : ¬ mI 1 < mI 1 := by decide
section GY
variable {d Ls : Nat} {I : Nat → Nat → Int32} {L : Nat → Nat → Int64} {R : Nat → Nat → Option Nat} {X : List pKd} {h : pHp} {c : Option (List tCl)} {K : Nat → Int32}
theorem pl_280 : ∃ J, (∀ a, ¬ a = 69 → J a = I a) ∧ (∀ j, j < 8 → J 69 j = nI 0) ∧ P_m d 280 [.ref 69, .int (nI 0)] (p_mk Ls I L R X) (fun v h' => v = none ∧ h' = p_mk Ls J L R X) := by
  have loop : ∀ i, i ≤ 8 → ∀ M : Nat → Nat → Int32, (∀ a, ¬ a = 69 → M a = I a) → (∀ j, j < i → M 69 j = nI 0) → P_run d 280 (p_bk 280 1) 0 0 [.ref 69, .int (nI 0), .int (nI i), .int (nI 8)] [] (p_mk Ls M L R X) (fun w h' => w = none ∧ ∃ J, ((∀ a, ¬ a = 69 → J a = I a) ∧ (∀ j, j < 8 → J 69 j = nI 0)) ∧ h' = p_mk Ls J L R X) := by
    refine down_ind ?_ ?_
    · intro M h1 h2
      rw [P_run_eq, bk_280_1, pb_280_1]; simp -implicitDefEqProofs (disch := first | omega | decide) only [P_m, ↓P_run_eq _ 280 _ (p_bk 280 2), bk_280_2, pb_280_2, pw_iload_n2, pw_iload_n3, pw_cge, pw_aload_n0, pw_aloadN_n0, pw_iload_n1, pw_iast, pw_iinc_2, il_1, po_i2, po_r2, po_n2, po_u2, pw_goto, pw_vret, kd_69, n_0, n_1, nn_lt, nn_nlt, nn_le, nn_nle, nn_ne, nn_sub, nn_mul, nI_add, nn_neg, nm_eq, mn_eq, mm_eq, mn_lt, nm_lt, mn_le, nm_le, nn_sub0, nn_of, implies_true, nn_c, nn_in, nn_div, nat_rem, Nat.reduceMul, Nat.reduceSub, Nat.reduceDiv, Nat.reduceMod, pf_at, pf_ne, mk_s, mk_1, Classical.not_not, b2i_T, b2i_F, false_imp_iff, true_imp_iff, false_and, and_false, p_sw, Int.reduceAdd, Int.zero_add, Option.some.injEq, Value.int.injEq, Value.long.injEq, Value.ref.injEq, exists_eq_left', mk_I, mk_L, mk_wI, mk_wL, rf_s, rf_n, true_and, and_true, and_self, or_true, true_or, or_false, false_or, not_true_eq_false, not_false_eq_true, Option.toList_some, Option.toList_none, List.cons_append, List.nil_append, List.map_nil, List.map_cons, List.sum_nil, List.sum_cons, cat_i, cat_l, cat_r, cat_n, Nat.reduceLeDiff, Nat.reduceAdd, Nat.reduceEqDiff, Nat.zero_le, p_ent, p_u_ne, p_u_at, reduceIte, if_true, if_false]
      exact ⟨M, ⟨h1, h2⟩, rfl⟩
    · intro i hi nx M h1 h2
      replace nx := nx (p_u M 69 i (nI 0)) (fun a ha => by rw [p_u_ne ha]; exact h1 a ha) (fun j hj => by
        rw [p_u_at]
        by_cases e : j = i
        · rw [if_pos e]
        · rw [if_neg e]; exact h2 j (by omega))
      rw [P_run_eq, bk_280_1, pb_280_1]; simp -implicitDefEqProofs (disch := first | omega | decide) only [P_m, pw_iload_n2, pw_iload_n3, pw_cge, pw_aload_n0, pw_aloadN_n0, pw_iload_n1, pw_iast, pw_iinc_2, il_1, po_i2, po_r2, po_n2, po_u2, pw_goto, kd_69, n_0, n_1, nn_lt, nn_nlt, nn_le, nn_nle, nn_ne, nn_sub, nn_mul, nI_add, nn_neg, nm_eq, mn_eq, mm_eq, mn_lt, nm_lt, mn_le, nm_le, nn_sub0, nn_of, implies_true, nn_c, nn_in, nn_div, nat_rem, Nat.reduceMul, Nat.reduceSub, Nat.reduceDiv, Nat.reduceMod, pf_at, pf_ne, mk_s, mk_1, Classical.not_not, b2i_T, b2i_F, false_imp_iff, true_imp_iff, false_and, and_false, p_sw, Int.reduceAdd, Int.zero_add, Option.some.injEq, Value.int.injEq, Value.long.injEq, Value.ref.injEq, exists_eq_left', mk_I, mk_L, mk_wI, mk_wL, rf_s, rf_n, true_and, and_true, and_self, or_true, true_or, or_false, false_or, not_true_eq_false, not_false_eq_true, Option.toList_some, Option.toList_none, List.cons_append, List.nil_append, List.map_nil, List.map_cons, List.sum_nil, List.sum_cons, cat_i, cat_l, cat_r, cat_n, Nat.reduceLeDiff, Nat.reduceAdd, Nat.reduceEqDiff, Nat.zero_le, p_ent, p_u_ne, p_u_at, reduceIte, if_true, if_false]
      exact nx
  have st := loop 0 (by omega) I (fun _ _ => rfl) (fun j hj => absurd hj (by omega))
  have all : P_m d 280 [.ref 69, .int (nI 0)] (p_mk Ls I L R X) (fun w h' => w = none ∧ ∃ J, ((∀ a, ¬ a = 69 → J a = I a) ∧ (∀ j, j < 8 → J 69 j = nI 0)) ∧ h' = p_mk Ls J L R X) := by
    simp -implicitDefEqProofs (disch := first | omega | decide) only [P_m, ↓P_run_eq _ 280 _ (p_bk 280 0), bk_280_0, pb_280_0, pw_iconst, il_0, pw_istore_n2, ps_2, pe_2, po_i2, po_r2, po_n2, po_u2, pw_aload_n0, pw_aloadN_n0, pw_alen, pw_istore_n3, ps_3, pe_3, po_i3, po_r3, po_n3, po_u3, pw_nop, kd_69, n_0, n_1, nn_lt, nn_nlt, nn_le, nn_nle, nn_ne, nn_sub, nn_mul, nI_add, nn_neg, nm_eq, mn_eq, mm_eq, mn_lt, nm_lt, mn_le, nm_le, nn_sub0, nn_of, implies_true, nn_c, nn_in, nn_div, nat_rem, Nat.reduceMul, Nat.reduceSub, Nat.reduceDiv, Nat.reduceMod, pf_at, pf_ne, mk_s, mk_1, Classical.not_not, b2i_T, b2i_F, false_imp_iff, true_imp_iff, false_and, and_false, p_sw, Int.reduceAdd, Int.zero_add, Option.some.injEq, Value.int.injEq, Value.long.injEq, Value.ref.injEq, exists_eq_left', mk_I, mk_L, mk_wI, mk_wL, rf_s, rf_n, true_and, and_true, and_self, or_true, true_or, or_false, false_or, not_true_eq_false, not_false_eq_true, Option.toList_some, Option.toList_none, List.cons_append, List.nil_append, List.map_nil, List.map_cons, List.sum_nil, List.sum_cons, cat_i, cat_l, cat_r, cat_n, Nat.reduceLeDiff, Nat.reduceAdd, Nat.reduceEqDiff, Nat.zero_le, p_ent, p_u_ne, p_u_at, reduceIte, if_true, if_false]
    exact st
  obtain ⟨w, g, ⟨rfl, J', ⟨f1, f2⟩, rfl⟩, s⟩ := P_mex all
  exact ⟨J', f1, f2, s⟩
def frV (I J : Nat → Nat → Int32) : Prop := ∀ a, ¬ a = 48 → ¬ a = 50 → ¬ a = 51 → ¬ a = 61 → ¬ a = 66 → ¬ a = 69 → J a = I a
def guS (c : Option (List tCl)) (K : Nat → Int32) (w : Option Nat) (k a : Nat) : guT := gdf c K (kn K 53) w k a (fun _ => 0) [] (0, [])
theorem pl_49 {a k : Nat} {w : Option Nat} (hx : Cx Ls I R X c) (ha : a ≤ 9999) (hk : k ≤ 3) (hw : ∀ i, w = some i → i < 2147483648) : ∃ J, frV I J ∧ gcl J w (guS c (I 125) w k a) k ∧ P_m (d + 12) 49 [.ref 48, .ref 71, .int (nI a), .int (nI k), .int (pnI w)] (p_mk Ls I L R X) (fun v h' => v = some (.int (nI (guS c (I 125) w k a).1)) ∧ h' = p_mk Ls J L (layR R (fRef R 71 (I 125))) X) := by
  have hV := hx.2.2.1
  have s2 := fc_n (d := d + 10) (L := L) hx
  have s34 := pl_34 (d := d + 11) (Ls := Ls) (I := I) (L := L) (R := R) (X := X) (r := fRef R 71 (I 125))
  have rr : ∀ r : Option Nat, p_cats [.ref 48, .ref 71, va_rf r] ≤ p_mx 34 := fun r => by cases r <;> exact Nat.le_of_ble_eq_true rfl
  have hR1 : layR R (fRef R 71 (I 125)) 48 1 = some 71 := layR_1
  have hR2 : layR R (fRef R 71 (I 125)) 48 2 = fRef R 71 (I 125) := layR_2
  have hcl : clw Ls I (layR R (fRef R 71 (I 125))) X (fRef R 71 (I 125)) c := clw_R hx.2.2.2.2 (fun a ha => layR_ne (by omega))
  obtain ⟨J1, f1, f2, s280⟩ := pl_280 (d := d + 11) (Ls := Ls) (I := p_u (p_u I 48 16 (pnI w)) 48 17 (nI 0)) (L := L) (R := layR R (fRef R 71 (I 125))) (X := X)
  have g1 : ∀ a, ¬ a = 48 → ¬ a = 69 → J1 a = I a := fun a a1 a2 => by rw [f1 a a2, p_u_ne a1, p_u_ne a1]
  have e8 : 8 ^ k ≤ 8 ^ 3 := Nat.pow_le_pow_right (by omega) hk
  obtain ⟨J, ⟨u1, u2, u3, u4⟩, s50⟩ := pl_50 (d := d) (Ls := Ls) (L := L) (R := layR R (fRef R 71 (I 125))) (X := X) (c := c) (K := I 125) (r := fRef R 71 (I 125)) (k := k) (m := kn (I 125) 53) (w := w) (I0 := J1) hV (hutR_f hx.1 (fun b b1 b2 => g1 b (by omega) (by omega))) (clw_fr hcl (fun a ha => g1 a (by omega) (by omega))) (lawOf_c hx.2.2.2.1) hR1 hR2 hk rfl hw (by rw [f1 48 (by omega), p_u_at, if_neg (by omega), p_u_at, if_pos rfl]) k 0 a (fun _ => 0) [] (0, []) J1 (by omega) (by omega) rfl (fun _ _ => Nat.le_refl 0) (fun q hq => f2 q hq) (fun j hj => absurd hj (by simp)) frU_rf ⟨by rw [f1 48 (by omega), p_u_at, if_pos rfl], by show 0 ≤ 512; omega, fun i _ hi => absurd hi (Nat.not_lt_zero i)⟩ (by show 0 + 8 ^ k ≤ 512; omega)
  replace s50 := P_mup s50 (show d + k + 6 ≤ d + 11 by omega)
  have bb : gcl J w (guS c (I 125) w k a) k := u4
  refine ⟨J, fun b b1 b2 b3 b4 b5 b6 => by rw [u1.1 b b1 b2 b3 b4 b5 b6]; exact g1 b b1 b6, bb, ?_⟩
  have j17 : J 48 17 = nI (guS c (I 125) w k a).1 := bb.1
  clear u4 bb
  generalize (guS c (I 125) w k a).1 = S at *
  generalize layR R (fRef R 71 (I 125)) = RR at *
  generalize fRef R 71 (I 125) = r at *
  generalize pnI w = W at *
  simp -implicitDefEqProofs (disch := first | omega | decide) only [P_m, ↓P_run_eq _ 49 _ (p_bk 49 0), bk_49_0, pb_49_0, pw_aload_n0, pw_aloadN_n0, pw_aload_n1, pw_aloadN_n1, pw_iv1, pw_iv3, pw_iload_4, pw_putI, pw_iconst, il_0, pw_getR, pw_is2, pw_iload_n3, pw_iload_n2, pw_iv4, pw_getI, pw_ret0, kd_48, rf_48_0, rf_48_6, rf_48_7, rf_48_8, rf_48_9, rf_48_10, rf_48_12, rf_48_13, rf_48_14, rf_48_15, rf_48_1, rf_48_2, kd_69, kd_71, rf_71_1, rf_71_3, rf_71_4, rf_71_5, rf_71_6, rf_71_11, rf_71_12, rf_71_14, n_0, n_1, nn_lt, nn_nlt, nn_le, nn_nle, nn_ne, nn_sub, nn_mul, nI_add, nn_neg, nm_eq, mn_eq, mm_eq, mn_lt, nm_lt, mn_le, nm_le, nn_sub0, nn_of, implies_true, nn_c, nn_in, nn_div, nat_rem, Nat.reduceMul, Nat.reduceSub, Nat.reduceDiv, Nat.reduceMod, pf_at, pf_ne, mk_s, mk_1, Classical.not_not, b2i_T, b2i_F, false_imp_iff, true_imp_iff, false_and, and_false, p_sw, Int.reduceAdd, Int.zero_add, Option.some.injEq, Value.int.injEq, Value.long.injEq, Value.ref.injEq, exists_eq_left', mk_I, mk_L, mk_wI, mk_wL, rf_s, rf_n, true_and, and_true, and_self, or_true, true_or, or_false, false_or, not_true_eq_false, not_false_eq_true, Option.toList_some, Option.toList_none, List.cons_append, List.nil_append, List.map_nil, List.map_cons, List.sum_nil, List.sum_cons, cat_i, cat_l, cat_r, cat_n, Nat.reduceLeDiff, Nat.reduceAdd, Nat.reduceEqDiff, Nat.zero_le, p_ent, p_u_ne, p_u_at, reduceIte, if_true, if_false, va_rf_c, j17, P_ce s2, P_ce s34 (rr _), P_ce s280, P_ce s50]
def guA (w : Option Nat) (s : guT) (y : Int32) : Int32 := match w with
  | none => nI s.1
  | some i => if i < s.1 then nI (s.2.getD y.toNatClampNeg 0) else mI 1
theorem c_107 {a k : Nat} {w : Option Nat} {y : Int32} (hx : Cx Ls I R X c) (h9 : I 1 2 = nI 9999) (ha : a ≤ 9999) (hk : k ≤ 3) (hw : ∀ i, w = some i → i < 2147483648 ∧ ∃ j, j < k ∧ y = nI j) : ∃ J, frV I J ∧ P_m (d + 13) 107 [.ref 32, .int (nI a), .int (nI k), .int (pnI w), .int y] (p_mk Ls I L R X) (fun v h' => v = some (.int (guA w (guS c (I 125) w k a) y)) ∧ h' = p_mk Ls J L (layR R (fRef R 71 (I 125))) X) := by
  obtain ⟨J, f1, ⟨b1, b2, b3⟩, s⟩ := pl_49 (d := d) (L := L) hx ha hk (fun i hi => (hw i hi).1)
  refine ⟨J, f1, ?_⟩
  generalize layR R (fRef R 71 (I 125)) = RR at *
  cases w with
  | none =>
    replace s : P_m (d + 12) 49 [.ref 48, .ref 71, .int (nI a), .int (nI k), .int (mI 1)] (p_mk Ls I L R X) (fun v h' => v = some (.int (nI (guS c (I 125) none k a).1)) ∧ h' = p_mk Ls J L RR X) := s
    show P_m _ _ [.ref 32, .int (nI a), .int (nI k), .int (mI 1), .int y] _ (fun v h' => v = some (.int (nI (guS c (I 125) none k a).1)) ∧ _)
    clear b3
    generalize (guS c (I 125) none k a).1 = S at *
    simp -implicitDefEqProofs (disch := first | omega | decide) only [P_m, ↓P_run_eq _ 107 _ (p_bk 107 0), bk_107_0, pb_107_0, ↓P_run_eq _ 107 _ (p_bk 107 2), bk_107_2, pb_107_2, ↓P_run_eq _ 107 _ (p_bk 107 4), bk_107_4, pb_107_4, pw_iload_n1, pw_zlt, pw_getsR, pw_iconst, il_2, pw_iald, pw_cgt, pw_iload_n2, il_3, pw_iload_n3, il_m1, pw_cge, pw_nop, pw_ceq, pw_iload_4, pw_clt, pw_aload_n0, pw_aloadN_n0, pw_getR, pw_iv5, pw_istore, ps_5, pe_5, po_i5, po_r5, po_n5, po_u5, pw_cne, pw_iload_5, pw_ret0, kd_1, rf_30_1, rf_30_2, kd_32, rf_32_0, rf_32_1, rf_32_2, rf_32_3, rf_32_4, rf_32_5, rf_32_6, rf_32_7, rf_32_8, rf_32_9, rf_32_11, rf_32_12, rf_32_13, kd_48, rf_48_0, rf_48_6, rf_48_7, rf_48_8, rf_48_9, rf_48_10, rf_48_12, rf_48_13, rf_48_14, rf_48_15, rf_48_1, rf_48_2, kd_71, rf_71_1, rf_71_3, rf_71_4, rf_71_5, rf_71_6, rf_71_11, rf_71_12, rf_71_14, n_0, n_1, n_2, n_3, nn_lt, nn_nlt, nn_le, nn_nle, nn_ne, nn_sub, nn_mul, nI_add, nn_neg, nm_eq, mn_eq, mm_eq, mn_lt, nm_lt, mn_le, nm_le, nn_sub0, nn_of, implies_true, nn_c, nn_in, nn_div, nat_rem, Nat.reduceMul, Nat.reduceSub, Nat.reduceDiv, Nat.reduceMod, pf_at, pf_ne, mk_s, mk_1, Classical.not_not, b2i_T, b2i_F, false_imp_iff, true_imp_iff, false_and, and_false, p_sw, Int.reduceAdd, Int.zero_add, Option.some.injEq, Value.int.injEq, Value.long.injEq, Value.ref.injEq, exists_eq_left', mk_I, mk_L, mk_wI, mk_wL, rf_s, rf_n, true_and, and_true, and_self, or_true, true_or, or_false, false_or, not_true_eq_false, not_false_eq_true, Option.toList_some, Option.toList_none, List.cons_append, List.nil_append, List.map_nil, List.map_cons, List.sum_nil, List.sum_cons, cat_i, cat_l, cat_r, cat_n, Nat.reduceLeDiff, Nat.reduceAdd, Nat.reduceEqDiff, Nat.zero_le, p_ent, p_u_ne, p_u_at, reduceIte, if_true, if_false, h9, m1_le, m1_nlt, P_ce s]
  | some i =>
    obtain ⟨hi, j, hj, rfl⟩ := hw i rfl
    replace s : P_m (d + 12) 49 [.ref 48, .ref 71, .int (nI a), .int (nI k), .int (nI i)] (p_mk Ls I L R X) (fun v h' => v = some (.int (nI (guS c (I 125) (some i) k a).1)) ∧ h' = p_mk Ls J L RR X) := s
    show P_m _ _ [.ref 32, .int (nI a), .int (nI k), .int (nI i), .int (nI j)] _ (fun v h' => v = some (.int (if i < (guS c (I 125) (some i) k a).1 then nI ((guS c (I 125) (some i) k a).2.getD (nI j).toNatClampNeg 0) else mI 1)) ∧ _)
    rw [nI_clamp (by omega)]
    by_cases hl : i < (guS c (I 125) (some i) k a).1
    · have b4 := (b3 i rfl hl).2 j hj
      rw [if_pos hl]
      clear b3
      generalize (guS c (I 125) (some i) k a).2.getD j 0 = V at *
      generalize (guS c (I 125) (some i) k a).1 = S at *
      simp -implicitDefEqProofs (disch := first | omega | decide) only [P_m, ↓P_run_eq _ 107 _ (p_bk 107 0), bk_107_0, pb_107_0, ↓P_run_eq _ 107 _ (p_bk 107 2), bk_107_2, pb_107_2, ↓P_run_eq _ 107 _ (p_bk 107 4), bk_107_4, pb_107_4, ↓P_run_eq _ 107 _ (p_bk 107 5), bk_107_5, pb_107_5, ↓P_run_eq _ 107 _ (p_bk 107 7), bk_107_7, pb_107_7, pw_iload_n1, pw_zlt, pw_getsR, pw_iconst, il_2, pw_iald, pw_cgt, pw_iload_n2, il_3, pw_iload_n3, il_m1, pw_cge, pw_nop, pw_ceq, pw_iload_4, pw_clt, pw_aload_n0, pw_aloadN_n0, pw_getR, pw_iv5, pw_istore, ps_5, pe_5, po_i5, po_r5, po_n5, po_u5, pw_cne, pw_iload_5, pw_ret0, pw_goto, kd_1, rf_30_1, rf_30_2, kd_32, rf_32_0, rf_32_1, rf_32_2, rf_32_3, rf_32_4, rf_32_5, rf_32_6, rf_32_7, rf_32_8, rf_32_9, rf_32_11, rf_32_12, rf_32_13, kd_48, rf_48_0, rf_48_6, rf_48_7, rf_48_8, rf_48_9, rf_48_10, rf_48_12, rf_48_13, rf_48_14, rf_48_15, rf_48_1, rf_48_2, kd_61, kd_71, rf_71_1, rf_71_3, rf_71_4, rf_71_5, rf_71_6, rf_71_11, rf_71_12, rf_71_14, n_0, n_1, n_2, n_3, nn_lt, nn_nlt, nn_le, nn_nle, nn_ne, nn_sub, nn_mul, nI_add, nn_neg, nm_eq, mn_eq, mm_eq, mn_lt, nm_lt, mn_le, nm_le, nn_sub0, nn_of, implies_true, nn_c, nn_in, nn_div, nat_rem, Nat.reduceMul, Nat.reduceSub, Nat.reduceDiv, Nat.reduceMod, pf_at, pf_ne, mk_s, mk_1, Classical.not_not, b2i_T, b2i_F, false_imp_iff, true_imp_iff, false_and, and_false, p_sw, Int.reduceAdd, Int.zero_add, Option.some.injEq, Value.int.injEq, Value.long.injEq, Value.ref.injEq, exists_eq_left', mk_I, mk_L, mk_wI, mk_wL, rf_s, rf_n, true_and, and_true, and_self, or_true, true_or, or_false, false_or, not_true_eq_false, not_false_eq_true, Option.toList_some, Option.toList_none, List.cons_append, List.nil_append, List.map_nil, List.map_cons, List.sum_nil, List.sum_cons, cat_i, cat_l, cat_r, cat_n, Nat.reduceLeDiff, Nat.reduceAdd, Nat.reduceEqDiff, Nat.zero_le, p_ent, p_u_ne, p_u_at, reduceIte, if_true, if_false, h9, b4, P_ce s]
    · rw [if_neg hl]
      clear b3
      generalize (guS c (I 125) (some i) k a).1 = S at *
      simp -implicitDefEqProofs (disch := first | omega | decide) only [P_m, ↓P_run_eq _ 107 _ (p_bk 107 0), bk_107_0, pb_107_0, ↓P_run_eq _ 107 _ (p_bk 107 2), bk_107_2, pb_107_2, ↓P_run_eq _ 107 _ (p_bk 107 4), bk_107_4, pb_107_4, ↓P_run_eq _ 107 _ (p_bk 107 5), bk_107_5, pb_107_5, ↓P_run_eq _ 107 _ (p_bk 107 6), bk_107_6, pb_107_6, ↓P_run_eq _ 107 _ (p_bk 107 7), bk_107_7, pb_107_7, pw_iload_n1, pw_zlt, pw_getsR, pw_iconst, il_2, pw_iald, pw_cgt, pw_iload_n2, il_3, pw_iload_n3, il_m1, pw_cge, pw_nop, pw_ceq, pw_iload_4, pw_clt, pw_aload_n0, pw_aloadN_n0, pw_getR, pw_iv5, pw_istore, ps_5, pe_5, po_i5, po_r5, po_n5, po_u5, pw_cne, pw_iload_5, pw_ret0, pw_goto, kd_1, rf_30_1, rf_30_2, kd_32, rf_32_0, rf_32_1, rf_32_2, rf_32_3, rf_32_4, rf_32_5, rf_32_6, rf_32_7, rf_32_8, rf_32_9, rf_32_11, rf_32_12, rf_32_13, kd_48, rf_48_0, rf_48_6, rf_48_7, rf_48_8, rf_48_9, rf_48_10, rf_48_12, rf_48_13, rf_48_14, rf_48_15, rf_48_1, rf_48_2, kd_71, rf_71_1, rf_71_3, rf_71_4, rf_71_5, rf_71_6, rf_71_11, rf_71_12, rf_71_14, n_0, n_1, n_2, n_3, nn_lt, nn_nlt, nn_le, nn_nle, nn_ne, nn_sub, nn_mul, nI_add, nn_neg, nm_eq, mn_eq, mm_eq, mn_lt, nm_lt, mn_le, nm_le, nn_sub0, nn_of, implies_true, nn_c, nn_in, nn_div, nat_rem, Nat.reduceMul, Nat.reduceSub, Nat.reduceDiv, Nat.reduceMod, pf_at, pf_ne, mk_s, mk_1, Classical.not_not, b2i_T, b2i_F, false_imp_iff, true_imp_iff, false_and, and_false, p_sw, Int.reduceAdd, Int.zero_add, Option.some.injEq, Value.int.injEq, Value.long.injEq, Value.ref.injEq, exists_eq_left', mk_I, mk_L, mk_wI, mk_wL, rf_s, rf_n, true_and, and_true, and_self, or_true, true_or, or_false, false_or, not_true_eq_false, not_false_eq_true, Option.toList_some, Option.toList_none, List.cons_append, List.nil_append, List.map_nil, List.map_cons, List.sum_nil, List.sum_cons, cat_i, cat_l, cat_r, cat_n, Nat.reduceLeDiff, Nat.reduceAdd, Nat.reduceEqDiff, Nat.zero_le, p_ent, p_u_ne, p_u_at, reduceIte, if_true, if_false, h9, P_ce s]
/-- what the reference has found -/
def gFd (w : Option Nat) (s : guT) (y : Int32) : Int32 := match w with
  | none => mI 1
  | some i => if i < s.1 then nI (s.2.getD y.toNatClampNeg 0) else mI 1
def frW (I J : Nat → Nat → Int32) : Prop := (∀ a, ¬ a = 123 → ¬ a = 128 → ¬ a = 135 → ¬ a = 139 → J a = I a) ∧ ∀ k, k ≠ 22 → k ≠ 23 → k ≠ 24 → k ≠ 25 → J 123 k = I 123 k
theorem r_247 {a k : Nat} {w : Option Nat} {y : Int32} (hV : vld (I 125)) (hc : lawOf (I 125) c) (ha : a ≤ 9999) (hk : k ≤ 3) (hw : ∀ i, w = some i → i < 2147483648 ∧ ∃ j, j < k ∧ y = nI j) : ∃ J, frW I J ∧ P_m (d + 51) 247 [.ref 123, .int (nI a), .int (nI k), .int (pnI w), .int y] (p_mk Ls I L R X) (fun v h' => v = some (.int (guA w (guS c (I 125) w k a) y)) ∧ h' = p_mk Ls J L R X) := by
  have m2 := (kn_53 hV).2
  have m1 := (kn_53 hV).1
  have g2 : I 125 2 = nI (kn (I 125) 2) ∧ kn (I 125) 2 ≤ 9999 := kn_e hV (by omega) (by omega) (by omega)
  have e8 : kn (I 125) 53 ^ k ≤ 8 ^ k := Nat.pow_le_pow_left m2 k
  have e83 : 8 ^ k ≤ 8 ^ 3 := Nat.pow_le_pow_right (by omega) hk
  have eR : guS c (I 125) w k a = gR c (I 125) (kn (I 125) 53) w k a (fun _ => 0) [] (kn (I 125) 53 ^ k) (0, []) := gdf_R m2 k hk a _ [] (0, [])
  have cnt : ∀ n, (gR c (I 125) (kn (I 125) 53) w k a (fun _ => 0) [] n (0, [])).1 ≤ n := by
    intro n
    have := foG_le (g := fun N s => if gE c (I 125) (rowN (kn (I 125) 53) k N) a (fun _ => 0) = kn (I 125) 2 then stG w ([] ++ rowN (kn (I 125) 53) k N) s else s) (B := 1) n (0, []) (fun i s _ => by
      show (if _ then stG w _ s else s).1 ≤ s.1 + 1
      split
      · exact Nat.le_refl _
      · omega)
    show (foG _ n (0, [])).1 ≤ n
    have h0 : ((0, []) : guT).1 = 0 := rfl
    omega
  have loop : ∀ n, n ≤ kn (I 125) 53 ^ k → ∀ J, frW I J → (∀ j, j < 13 → J 128 j = I 125 j) → P_run (d + 51) 247 (p_bk 247 3) 0 0 [.ref 123, .int (nI a), .int (nI k), .int (pnI w), .int y, .int (nI (kn (I 125) 2)), .int (nI (gR c (I 125) (kn (I 125) 53) w k a (fun _ => 0) [] n (0, [])).1), .int (gFd w (gR c (I 125) (kn (I 125) 53) w k a (fun _ => 0) [] n (0, [])) y), .int (nI n)] [] (p_mk Ls J L R X) (fun v h' => v = some (.int (guA w (guS c (I 125) w k a) y)) ∧ ∃ J', frW I J' ∧ h' = p_mk Ls J' L R X) := by
    refine down_ind ?_ ?_
    · intro J fJ hJ
      have e125 : J 125 = I 125 := fJ.1 125 (by omega) (by omega) (by omega) (by omega)
      have s246 := sp_246 (d := d + 50) (Ls := Ls) (I := J) (L := L) (R := R) (X := X) (k := k) m2 hk (by rw [e125]; exact m1)
      rw [← eR]
      have fin : guA w (guS c (I 125) w k a) y = if w = none then nI (guS c (I 125) w k a).1 else gFd w (guS c (I 125) w k a) y := by
        cases w with
        | none => rfl
        | some i => rfl
      rw [fin]
      clear fin cnt eR
      generalize kn (I 125) 53 ^ k = M at *
      generalize kn (I 125) 2 = A at *
      cases w with
      | none =>
        show P_run _ _ _ _ _ [_, _, _, .int (mI 1), _, _, _, _, _] _ _ (fun v h' => v = some (.int (nI (guS c (I 125) none k a).1)) ∧ _)
        generalize (guS c (I 125) none k a).1 = S at *
        generalize gFd none (guS c (I 125) none k a) y = F at *
        rw [P_run_eq, bk_247_3, pb_247_3]; simp -implicitDefEqProofs (disch := first | omega | decide) only [P_m, ↓P_run_eq _ 247 _ (p_bk 247 7), bk_247_7, pb_247_7, ↓P_run_eq _ 247 _ (p_bk 247 9), bk_247_9, pb_247_9, pw_iload_8, pw_aload_n0, pw_aloadN_n0, pw_iload_n2, pw_iv2, pw_cge, pw_iv3, pw_iload_n1, pw_iload_5, pw_ceq, pw_goto, pw_iload_n3, pw_iconst, il_m1, pw_cne, pw_iload_6, pw_ret0, kd_123, rf_123_1, rf_123_2, rf_123_3, rf_123_4, rf_123_5, rf_123_7, rf_123_11, rf_123_12, rf_123_15, rf_123_16, rf_123_17, rf_123_26, rf_123_29, rf_123_30, rf_123_32, rf_123_34, rf_123_35, rf_123_45, n_0, n_1, nn_lt, nn_nlt, nn_le, nn_nle, nn_ne, nn_sub, nn_mul, nI_add, nn_neg, nm_eq, mn_eq, mm_eq, mn_lt, nm_lt, mn_le, nm_le, nn_sub0, nn_of, implies_true, nn_c, nn_in, nn_div, nat_rem, Nat.reduceMul, Nat.reduceSub, Nat.reduceDiv, Nat.reduceMod, pf_at, pf_ne, mk_s, mk_1, Classical.not_not, b2i_T, b2i_F, false_imp_iff, true_imp_iff, false_and, and_false, p_sw, Int.reduceAdd, Int.zero_add, Option.some.injEq, Value.int.injEq, Value.long.injEq, Value.ref.injEq, exists_eq_left', mk_I, mk_L, mk_wI, mk_wL, rf_s, rf_n, true_and, and_true, and_self, or_true, true_or, or_false, false_or, not_true_eq_false, not_false_eq_true, Option.toList_some, Option.toList_none, List.cons_append, List.nil_append, List.map_nil, List.map_cons, List.sum_nil, List.sum_cons, cat_i, cat_l, cat_r, cat_n, Nat.reduceLeDiff, Nat.reduceAdd, Nat.reduceEqDiff, Nat.zero_le, p_ent, p_u_ne, p_u_at, reduceIte, if_true, if_false, P_ce s246]
        exact ⟨J, fJ, rfl⟩
      | some i =>
        have hi := (hw i rfl).1
        rw [if_neg (by intro h; cases h)]
        show P_run _ _ _ _ _ [_, _, _, .int (nI i), _, _, _, _, _] _ _ _
        generalize (guS c (I 125) (some i) k a).1 = S at *
        generalize gFd (some i) (guS c (I 125) (some i) k a) y = F at *
        rw [P_run_eq, bk_247_3, pb_247_3]; simp -implicitDefEqProofs (disch := first | omega | decide) only [P_m, ↓P_run_eq _ 247 _ (p_bk 247 7), bk_247_7, pb_247_7, ↓P_run_eq _ 247 _ (p_bk 247 8), bk_247_8, pb_247_8, ↓P_run_eq _ 247 _ (p_bk 247 9), bk_247_9, pb_247_9, pw_iload_8, pw_aload_n0, pw_aloadN_n0, pw_iload_n2, pw_iv2, pw_cge, pw_iv3, pw_iload_n1, pw_iload_5, pw_ceq, pw_goto, pw_iload_n3, pw_iconst, il_m1, pw_cne, pw_iload_6, pw_iload_7, pw_nop, pw_ret0, kd_123, rf_123_1, rf_123_2, rf_123_3, rf_123_4, rf_123_5, rf_123_7, rf_123_11, rf_123_12, rf_123_15, rf_123_16, rf_123_17, rf_123_26, rf_123_29, rf_123_30, rf_123_32, rf_123_34, rf_123_35, rf_123_45, n_0, n_1, nn_lt, nn_nlt, nn_le, nn_nle, nn_ne, nn_sub, nn_mul, nI_add, nn_neg, nm_eq, mn_eq, mm_eq, mn_lt, nm_lt, mn_le, nm_le, nn_sub0, nn_of, implies_true, nn_c, nn_in, nn_div, nat_rem, Nat.reduceMul, Nat.reduceSub, Nat.reduceDiv, Nat.reduceMod, pf_at, pf_ne, mk_s, mk_1, Classical.not_not, b2i_T, b2i_F, false_imp_iff, true_imp_iff, false_and, and_false, p_sw, Int.reduceAdd, Int.zero_add, Option.some.injEq, Value.int.injEq, Value.long.injEq, Value.ref.injEq, exists_eq_left', mk_I, mk_L, mk_wI, mk_wL, rf_s, rf_n, true_and, and_true, and_self, or_true, true_or, or_false, false_or, not_true_eq_false, not_false_eq_true, Option.toList_some, Option.toList_none, List.cons_append, List.nil_append, List.map_nil, List.map_cons, List.sum_nil, List.sum_cons, cat_i, cat_l, cat_r, cat_n, Nat.reduceLeDiff, Nat.reduceAdd, Nat.reduceEqDiff, Nat.zero_le, p_ent, p_u_ne, p_u_at, reduceIte, if_true, if_false, P_ce s246]
        exact ⟨J, fJ, rfl⟩
    · intro n hn nx J fJ hJ
      have e125 : J 125 = I 125 := fJ.1 125 (by omega) (by omega) (by omega) (by omega)
      have s246 := sp_246 (d := d + 50) (Ls := Ls) (I := J) (L := L) (R := R) (X := X) (k := k) m2 hk (by rw [e125]; exact m1)
      obtain ⟨J1, f1, f2, s244⟩ := pl_244 (d := d + 50) (Ls := Ls) (I := J) (L := L) (R := R) (X := X) (k := k) m2 hk hn (by rw [e125]; exact m1)
      have e1 : J1 125 = I 125 := (f1 125 (by omega)).trans e125
      have m0 : k = 0 ∨ 0 < kn (I 125) 53 := by
        rcases Nat.eq_zero_or_pos (kn (I 125) 53) with h | h
        · rcases Nat.eq_zero_or_pos k with hk0 | hk0
          · exact Or.inl hk0
          · rw [h, Nat.zero_pow hk0] at hn; omega
        · exact Or.inr h
      have rl : ∀ q ∈ rowN (kn (I 125) 53) k n, q < 8 := fun q hq => by
        rcases m0 with h | h
        · subst h; cases hq
        · have := rowN_lt h k n q hq; omega
      obtain ⟨J2, f3, s245⟩ := pl_245 (d := d + 1) (Ls := Ls) (I := J1) (L := L) (R := R) (X := X) (c := c) (k := k) (a0 := a) (l := rowN (kn (I 125) 53) k n) (by rw [e1]; exact hV) (by rw [e1]; exact hc) hk (rowN_len k n) rl ha f2 (fun j hj => by rw [f1 128 (by omega), e1]; exact hJ j hj)
      rw [e1] at s245
      have fJ2 : frW I J2 := ⟨fun b b1 b2 b3 b4 => by rw [f3.1 b b1 b3, f1 b b4]; exact fJ.1 b b1 b2 b3 b4, fun j x1 x2 x3 x4 => by rw [f3.2 j x1 x2 x3 x4, f1 123 (by omega)]; exact fJ.2 j x1 x2 x3 x4⟩
      replace nx := nx J2 fJ2 (fun j hj => by rw [f3.1 128 (by omega) (by omega), f1 128 (by omega)]; exact hJ j hj)
      have cn := cnt n
      have ge := gE_le (c := c) hV (rowN (kn (I 125) 53) k n) a (fun _ => 0) rl (by rw [rowN_len]; omega)
      rw [rowN_len] at ge
      have fs : gR c (I 125) (kn (I 125) 53) w k a (fun _ => 0) [] (n + 1) (0, []) = if gE c (I 125) (rowN (kn (I 125) 53) k n) a (fun _ => 0) = kn (I 125) 2 then stG w (rowN (kn (I 125) 53) k n) (gR c (I 125) (kn (I 125) 53) w k a (fun _ => 0) [] n (0, [])) else gR c (I 125) (kn (I 125) 53) w k a (fun _ => 0) [] n (0, []) := rfl
      rw [fs] at nx
      clear fs cnt eR
      have j139 : ∀ j, j < k → J2 139 j = nI ((rowN (kn (I 125) 53) k n).getD j 0) := fun j hj => by rw [f3.1 139 (by omega) (by omega)]; exact f2 j hj
      generalize gR c (I 125) (kn (I 125) 53) w k a (fun _ => 0) [] n (0, []) = s0 at *
      generalize rowN (kn (I 125) 53) k n = row at *
      generalize gE c (I 125) row a (fun _ => 0) = E at *
      generalize guA w (guS c (I 125) w k a) y = Z at *
      generalize kn (I 125) 53 ^ k = M at *
      by_cases hE : E = kn (I 125) 2
      · rw [if_pos hE] at nx
        subst hE
        by_cases ew : w = some s0.1
        · obtain ⟨-, j, hj, ey⟩ := hw _ ew
          have e3 : gFd w (stG w row s0) y = nI (row.getD j 0) := by
            unfold gFd stG
            rw [ew]
            dsimp only
            rw [if_pos (by omega), if_pos rfl, ey, nI_clamp (by omega)]
          rw [e3] at nx
          have e4 : (stG w row s0).1 = s0.1 + 1 := rfl
          rw [e4] at nx
          have j9 := j139 j hj
          have ep : pnI w = nI s0.1 := by rw [ew]; rfl
          rw [ep] at nx ⊢
          rw [ey] at nx ⊢
          clear e3 e4 j139
          generalize row.getD j 0 = V at *
          generalize gFd w s0 (nI j) = F at *
          generalize s0.1 = S at *
          generalize kn (I 125) 2 = A at *
          rw [P_run_eq, bk_247_3, pb_247_3]; simp -implicitDefEqProofs (disch := first | omega | decide) only [P_m, ↓P_run_eq _ 247 _ (p_bk 247 4), bk_247_4, pb_247_4, ↓P_run_eq _ 247 _ (p_bk 247 5), bk_247_5, pb_247_5, ↓P_run_eq _ 247 _ (p_bk 247 6), bk_247_6, pb_247_6, pw_iload_8, pw_aload_n0, pw_aloadN_n0, pw_iload_n2, pw_iv2, pw_cge, pw_iv3, pw_iload_n1, pw_iload_5, pw_ceq, pw_goto, pw_iload_6, pw_iload_n3, pw_cne, pw_getR, pw_iload_4, pw_iald, pw_istore, ps_7, pe_7, po_i7, po_r7, po_n7, po_u7, pw_nop, pw_iinc_6, il_1, po_i6, po_r6, po_n6, po_u6, pw_iinc_8, po_i8, po_r8, po_n8, po_u8, kd_123, rf_123_1, rf_123_2, rf_123_3, rf_123_4, rf_123_5, rf_123_7, rf_123_11, rf_123_12, rf_123_15, rf_123_16, rf_123_17, rf_123_26, rf_123_29, rf_123_30, rf_123_32, rf_123_34, rf_123_35, rf_123_45, kd_139, n_0, n_1, nn_lt, nn_nlt, nn_le, nn_nle, nn_ne, nn_sub, nn_mul, nI_add, nn_neg, nm_eq, mn_eq, mm_eq, mn_lt, nm_lt, mn_le, nm_le, nn_sub0, nn_of, implies_true, nn_c, nn_in, nn_div, nat_rem, Nat.reduceMul, Nat.reduceSub, Nat.reduceDiv, Nat.reduceMod, pf_at, pf_ne, mk_s, mk_1, Classical.not_not, b2i_T, b2i_F, false_imp_iff, true_imp_iff, false_and, and_false, p_sw, Int.reduceAdd, Int.zero_add, Option.some.injEq, Value.int.injEq, Value.long.injEq, Value.ref.injEq, exists_eq_left', mk_I, mk_L, mk_wI, mk_wL, rf_s, rf_n, true_and, and_true, and_self, or_true, true_or, or_false, false_or, not_true_eq_false, not_false_eq_true, Option.toList_some, Option.toList_none, List.cons_append, List.nil_append, List.map_nil, List.map_cons, List.sum_nil, List.sum_cons, cat_i, cat_l, cat_r, cat_n, Nat.reduceLeDiff, Nat.reduceAdd, Nat.reduceEqDiff, Nat.zero_le, p_ent, p_u_ne, p_u_at, reduceIte, if_true, if_false, j9, P_ce s246, P_ce s244, P_ce s245]
          exact nx
        · have ne : ¬ nI s0.1 = pnI w := by
            cases w with
            | none =>
              intro h
              have := congrArg Int32.toInt h
              rw [nI_toInt (by omega), show (pnI none).toInt = -1 from by decide] at this
              omega
            | some i =>
              intro h
              have h := congrArg Int32.toInt h
              have hi := (hw i rfl).1
              rw [nI_toInt (by omega), show (pnI (some i)).toInt = i from nI_toInt (by omega)] at h
              exact ew (by rw [show i = s0.1 by omega])
          have e3 : gFd w (stG w row s0) y = gFd w s0 y := by
            unfold gFd stG
            cases w with
            | none => rfl
            | some i =>
              dsimp only
              rw [if_neg ew]
              have hne : ¬ i = s0.1 := fun h => ew (by rw [h])
              by_cases hl : i < s0.1
              · rw [if_pos hl, if_pos (by omega)]
              · rw [if_neg hl, if_neg (by omega)]
          rw [e3] at nx
          have e4 : (stG w row s0).1 = s0.1 + 1 := rfl
          rw [e4] at nx
          clear e3 e4 j139
          generalize gFd w s0 y = F at *
          generalize s0.1 = S at *
          generalize kn (I 125) 2 = A at *
          generalize pnI w = W at *
          rw [P_run_eq, bk_247_3, pb_247_3]; simp -implicitDefEqProofs (disch := first | omega | decide) only [P_m, ↓P_run_eq _ 247 _ (p_bk 247 4), bk_247_4, pb_247_4, ↓P_run_eq _ 247 _ (p_bk 247 5), bk_247_5, pb_247_5, ↓P_run_eq _ 247 _ (p_bk 247 6), bk_247_6, pb_247_6, pw_iload_8, pw_aload_n0, pw_aloadN_n0, pw_iload_n2, pw_iv2, pw_cge, pw_iv3, pw_iload_n1, pw_iload_5, pw_ceq, pw_goto, pw_iload_6, pw_iload_n3, pw_cne, pw_getR, pw_iload_4, pw_iald, pw_istore, ps_7, pe_7, po_i7, po_r7, po_n7, po_u7, pw_nop, pw_iinc_6, il_1, po_i6, po_r6, po_n6, po_u6, pw_iinc_8, po_i8, po_r8, po_n8, po_u8, kd_123, rf_123_1, rf_123_2, rf_123_3, rf_123_4, rf_123_5, rf_123_7, rf_123_11, rf_123_12, rf_123_15, rf_123_16, rf_123_17, rf_123_26, rf_123_29, rf_123_30, rf_123_32, rf_123_34, rf_123_35, rf_123_45, n_0, n_1, nn_lt, nn_nlt, nn_le, nn_nle, nn_ne, nn_sub, nn_mul, nI_add, nn_neg, nm_eq, mn_eq, mm_eq, mn_lt, nm_lt, mn_le, nm_le, nn_sub0, nn_of, implies_true, nn_c, nn_in, nn_div, nat_rem, Nat.reduceMul, Nat.reduceSub, Nat.reduceDiv, Nat.reduceMod, pf_at, pf_ne, mk_s, mk_1, Classical.not_not, b2i_T, b2i_F, false_imp_iff, true_imp_iff, false_and, and_false, p_sw, Int.reduceAdd, Int.zero_add, Option.some.injEq, Value.int.injEq, Value.long.injEq, Value.ref.injEq, exists_eq_left', mk_I, mk_L, mk_wI, mk_wL, rf_s, rf_n, true_and, and_true, and_self, or_true, true_or, or_false, false_or, not_true_eq_false, not_false_eq_true, Option.toList_some, Option.toList_none, List.cons_append, List.nil_append, List.map_nil, List.map_cons, List.sum_nil, List.sum_cons, cat_i, cat_l, cat_r, cat_n, Nat.reduceLeDiff, Nat.reduceAdd, Nat.reduceEqDiff, Nat.zero_le, p_ent, p_u_ne, p_u_at, reduceIte, if_true, if_false, ne, P_ce s246, P_ce s244, P_ce s245]
          exact nx
      · rw [if_neg hE] at nx
        clear j139
        generalize gFd w s0 y = F at *
        generalize s0.1 = S at *
        generalize kn (I 125) 2 = A at *
        generalize pnI w = W at *
        rw [P_run_eq, bk_247_3, pb_247_3]; simp -implicitDefEqProofs (disch := first | omega | decide) only [P_m, ↓P_run_eq _ 247 _ (p_bk 247 6), bk_247_6, pb_247_6, pw_iload_8, pw_aload_n0, pw_aloadN_n0, pw_iload_n2, pw_iv2, pw_cge, pw_iv3, pw_iload_n1, pw_iload_5, pw_ceq, pw_goto, pw_iinc_8, il_1, po_i8, po_r8, po_n8, po_u8, kd_123, rf_123_1, rf_123_2, rf_123_3, rf_123_4, rf_123_5, rf_123_7, rf_123_11, rf_123_12, rf_123_15, rf_123_16, rf_123_17, rf_123_26, rf_123_29, rf_123_30, rf_123_32, rf_123_34, rf_123_35, rf_123_45, n_0, n_1, nn_lt, nn_nlt, nn_le, nn_nle, nn_ne, nn_sub, nn_mul, nI_add, nn_neg, nm_eq, mn_eq, mm_eq, mn_lt, nm_lt, mn_le, nm_le, nn_sub0, nn_of, implies_true, nn_c, nn_in, nn_div, nat_rem, Nat.reduceMul, Nat.reduceSub, Nat.reduceDiv, Nat.reduceMod, pf_at, pf_ne, mk_s, mk_1, Classical.not_not, b2i_T, b2i_F, false_imp_iff, true_imp_iff, false_and, and_false, p_sw, Int.reduceAdd, Int.zero_add, Option.some.injEq, Value.int.injEq, Value.long.injEq, Value.ref.injEq, exists_eq_left', mk_I, mk_L, mk_wI, mk_wL, rf_s, rf_n, true_and, and_true, and_self, or_true, true_or, or_false, false_or, not_true_eq_false, not_false_eq_true, Option.toList_some, Option.toList_none, List.cons_append, List.nil_append, List.map_nil, List.map_cons, List.sum_nil, List.sum_cons, cat_i, cat_l, cat_r, cat_n, Nat.reduceLeDiff, Nat.reduceAdd, Nat.reduceEqDiff, Nat.zero_le, p_ent, p_u_ne, p_u_at, reduceIte, if_true, if_false, P_ce s246, P_ce s244, P_ce s245]
        exact nx
  have s134 := sp_134 (d := d + 50) (Ls := Ls) (I := I) (L := L) (R := R) (X := X)
  have st := loop 0 (by omega) (p_fn I 128 (va_cpy (I 125) (I 128) 0 0 13)) ⟨fun b _ b2 _ _ => pf_ne b2, fun j _ _ _ _ => by rw [pf_ne (by omega)]⟩ (fun j hj => by
    rw [pf_at]
    unfold va_cpy
    rw [if_pos (by omega), show 0 + (j - 0) = j by omega])
  have z0 : gR c (I 125) (kn (I 125) 53) w k a (fun _ => 0) [] 0 (0, []) = (0, []) := rfl
  have z1 : gFd w (0, []) y = mI 1 := by
    cases w with
    | none => rfl
    | some i => rfl
  rw [z0, z1] at st
  have s1 := sp_125 (d := d + 50) (h := p_mk Ls I L R X) (nI a) (nI 0) (nI 9999)
  rw [show b2i (nI 0 ≤ nI a ∧ nI a ≤ nI 9999) = nI 1 from b2i_t ⟨by rw [Int32.le_iff_toInt_le, nI_toInt (by omega), nI_toInt (by omega)]; omega, by rw [Int32.le_iff_toInt_le, nI_toInt (by omega), nI_toInt (by omega)]; omega⟩] at s1
  have s2 := sp_125 (d := d + 50) (h := p_mk Ls I L R X) (nI k) (nI 0) (nI 3)
  rw [show b2i (nI 0 ≤ nI k ∧ nI k ≤ nI 3) = nI 1 from b2i_t ⟨by rw [Int32.le_iff_toInt_le, nI_toInt (by omega), nI_toInt (by omega)]; omega, by rw [Int32.le_iff_toInt_le, nI_toInt (by omega), nI_toInt (by omega)]; omega⟩] at s2
  have a2 : I 125 2 = nI (kn (I 125) 2) := g2.1
  have all : P_m (d + 51) 247 [.ref 123, .int (nI a), .int (nI k), .int (pnI w), .int y] (p_mk Ls I L R X) (fun v h' => v = some (.int (guA w (guS c (I 125) w k a) y)) ∧ ∃ J', frW I J' ∧ h' = p_mk Ls J' L R X) := by
    clear loop cnt eR
    generalize guA w (guS c (I 125) w k a) y = Z at *
    generalize va_cpy (I 125) (I 128) 0 0 13 = C at *
    cases w with
    | none =>
      replace st : P_run (d + 51) 247 (p_bk 247 3) 0 0 [.ref 123, .int (nI a), .int (nI k), .int (mI 1), .int y, .int (nI (kn (I 125) 2)), .int (nI 0), .int (mI 1), .int (nI 0)] [] (p_mk Ls (p_fn I 128 C) L R X) _ := st
      show P_m _ _ [_, _, _, .int (mI 1), _] _ _
      generalize kn (I 125) 2 = A at *
      simp -implicitDefEqProofs (disch := first | omega | decide) only [P_m, ↓P_run_eq _ 247 _ (p_bk 247 0), bk_247_0, pb_247_0, ↓P_run_eq _ 247 _ (p_bk 247 2), bk_247_2, pb_247_2, pw_iload_n1, pw_iconst, il_0, pw_sipush, sl_9999, pw_is3, pw_zeq, pw_iload_n2, il_3, pw_iload_n3, il_m1, pw_clt, pw_cle, pw_iload_4, il_1, pw_isub, pw_zne, pw_nop, pw_aload_n0, pw_aloadN_n0, pw_getR, il_2, pw_iald, pw_istore, ps_5, pe_5, po_i5, po_r5, po_n5, po_u5, ps_6, pe_6, po_i6, po_r6, po_n6, po_u6, ps_7, pe_7, po_i7, po_r7, po_n7, po_u7, pw_iv2, ps_8, pe_8, po_i8, po_r8, po_n8, po_u8, kd_123, rf_123_1, rf_123_2, rf_123_3, rf_123_4, rf_123_5, rf_123_7, rf_123_11, rf_123_12, rf_123_15, rf_123_16, rf_123_17, rf_123_26, rf_123_29, rf_123_30, rf_123_32, rf_123_34, rf_123_35, rf_123_45, kd_125, n_0, n_1, n_2, n_3, n_9999, nn_lt, nn_nlt, nn_le, nn_nle, nn_ne, nn_sub, nn_mul, nI_add, nn_neg, nm_eq, mn_eq, mm_eq, mn_lt, nm_lt, mn_le, nm_le, nn_sub0, nn_of, implies_true, nn_c, nn_in, nn_div, nat_rem, Nat.reduceMul, Nat.reduceSub, Nat.reduceDiv, Nat.reduceMod, pf_at, pf_ne, mk_s, mk_1, Classical.not_not, b2i_T, b2i_F, false_imp_iff, true_imp_iff, false_and, and_false, p_sw, Int.reduceAdd, Int.zero_add, Option.some.injEq, Value.int.injEq, Value.long.injEq, Value.ref.injEq, exists_eq_left', mk_I, mk_L, mk_wI, mk_wL, rf_s, rf_n, true_and, and_true, and_self, or_true, true_or, or_false, false_or, not_true_eq_false, not_false_eq_true, Option.toList_some, Option.toList_none, List.cons_append, List.nil_append, List.map_nil, List.map_cons, List.sum_nil, List.sum_cons, cat_i, cat_l, cat_r, cat_n, Nat.reduceLeDiff, Nat.reduceAdd, Nat.reduceEqDiff, Nat.zero_le, p_ent, p_u_ne, p_u_at, reduceIte, if_true, if_false, a2, m1_le, m1_nlt, P_ce s1, P_ce s2, P_ce s134]
      exact st
    | some i =>
      obtain ⟨hi, j, hj, rfl⟩ := hw i rfl
      replace st : P_run (d + 51) 247 (p_bk 247 3) 0 0 [.ref 123, .int (nI a), .int (nI k), .int (nI i), .int (nI j), .int (nI (kn (I 125) 2)), .int (nI 0), .int (mI 1), .int (nI 0)] [] (p_mk Ls (p_fn I 128 C) L R X) _ := st
      show P_m _ _ [_, _, _, .int (nI i), _] _ _
      have s3 := sp_125 (d := d + 50) (h := p_mk Ls I L R X) (nI j) (nI 0) (nI (k - 1))
      rw [show b2i (nI 0 ≤ nI j ∧ nI j ≤ nI (k - 1)) = nI 1 from b2i_t ⟨by rw [Int32.le_iff_toInt_le, nI_toInt (by omega), nI_toInt (by omega)]; omega, by rw [Int32.le_iff_toInt_le, nI_toInt (by omega), nI_toInt (by omega)]; omega⟩] at s3
      have sk : nI k - nI 1 = nI (k - 1) := nn_sub (by omega)
      generalize kn (I 125) 2 = A at *
      generalize k - 1 = k1 at *
      simp -implicitDefEqProofs (disch := first | omega | decide) only [P_m, ↓P_run_eq _ 247 _ (p_bk 247 0), bk_247_0, pb_247_0, ↓P_run_eq _ 247 _ (p_bk 247 2), bk_247_2, pb_247_2, pw_iload_n1, pw_iconst, il_0, pw_sipush, sl_9999, pw_is3, pw_zeq, pw_iload_n2, il_3, pw_iload_n3, il_m1, pw_clt, pw_cle, pw_iload_4, il_1, pw_isub, pw_zne, pw_nop, pw_aload_n0, pw_aloadN_n0, pw_getR, il_2, pw_iald, pw_istore, ps_5, pe_5, po_i5, po_r5, po_n5, po_u5, ps_6, pe_6, po_i6, po_r6, po_n6, po_u6, ps_7, pe_7, po_i7, po_r7, po_n7, po_u7, pw_iv2, ps_8, pe_8, po_i8, po_r8, po_n8, po_u8, kd_123, rf_123_1, rf_123_2, rf_123_3, rf_123_4, rf_123_5, rf_123_7, rf_123_11, rf_123_12, rf_123_15, rf_123_16, rf_123_17, rf_123_26, rf_123_29, rf_123_30, rf_123_32, rf_123_34, rf_123_35, rf_123_45, kd_125, n_0, n_1, n_2, n_3, n_9999, nn_lt, nn_nlt, nn_le, nn_nle, nn_ne, nn_sub, nn_mul, nI_add, nn_neg, nm_eq, mn_eq, mm_eq, mn_lt, nm_lt, mn_le, nm_le, nn_sub0, nn_of, implies_true, nn_c, nn_in, nn_div, nat_rem, Nat.reduceMul, Nat.reduceSub, Nat.reduceDiv, Nat.reduceMod, pf_at, pf_ne, mk_s, mk_1, Classical.not_not, b2i_T, b2i_F, false_imp_iff, true_imp_iff, false_and, and_false, p_sw, Int.reduceAdd, Int.zero_add, Option.some.injEq, Value.int.injEq, Value.long.injEq, Value.ref.injEq, exists_eq_left', mk_I, mk_L, mk_wI, mk_wL, rf_s, rf_n, true_and, and_true, and_self, or_true, true_or, or_false, false_or, not_true_eq_false, not_false_eq_true, Option.toList_some, Option.toList_none, List.cons_append, List.nil_append, List.map_nil, List.map_cons, List.sum_nil, List.sum_cons, cat_i, cat_l, cat_r, cat_n, Nat.reduceLeDiff, Nat.reduceAdd, Nat.reduceEqDiff, Nat.zero_le, p_ent, p_u_ne, p_u_at, reduceIte, if_true, if_false, a2, sk, P_ce s1, P_ce s2, P_ce s3, P_ce s134]
      exact st
  obtain ⟨v, g, ⟨rfl, J', f1, rfl⟩, s⟩ := P_mex all
  exact ⟨J', f1, s⟩
end GY
