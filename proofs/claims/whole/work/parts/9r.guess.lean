theorem am0 : nI 0 + mI 1 = mI 1 := by decide
theorem am1 : nI 1 + mI 1 = nI 0 := by decide
theorem am2 : nI 2 + mI 1 = nI 1 := by decide
theorem su0 : nI 0 - nI 1 = mI 1 := by decide
theorem su1 : nI 1 - nI 1 = nI 0 := by decide
theorem su2 : nI 2 - nI 1 = nI 1 := by decide
theorem su3 : nI 3 - nI 1 = nI 2 := by decide
theorem lm1 : (mI 1 < nI 0) = True := by decide
section GX
variable {d Ls : Nat} {I : Nat → Nat → Int32} {L : Nat → Nat → Int64} {R : Nat → Nat → Option Nat} {X : List pKd} {h : pHp} {c : Option (List tCl)} {K : Nat → Int32}
theorem rowN_get {m : Nat} : ∀ k N j, j < k → (rowN m k N).getD j 0 = N / m ^ (k - 1 - j) % m
  | 0, _, _, h => absurd h (by omega)
  | k + 1, N, j, h => by
    unfold rowN
    by_cases e : j = k
    · subst e
      rw [List.getD_eq_getElem?_getD, List.getElem?_append_right (by rw [rowN_len]; omega), rowN_len, Nat.sub_self]
      rw [show j + 1 - 1 - j = 0 by omega, Nat.pow_zero, Nat.div_one]
      rfl
    · rw [gd_ap (by rw [rowN_len]; omega), rowN_get k _ j (by omega), Nat.div_div_eq_div_mul]
      rw [show k + 1 - 1 - j = k - 1 - j + 1 by omega, Nat.pow_succ, Nat.mul_comm]
theorem pl_244 {m k N : Nat} (hm : m ≤ 8) (hk : k ≤ 3) (hN : N < m ^ k) (e53 : I 125 53 = nI m) : ∃ J, (∀ a, ¬ a = 139 → J a = I a) ∧ (∀ j, j < k → J 139 j = nI ((rowN m k N).getD j 0)) ∧ P_m d 244 [.ref 123, .int (nI N), .int (nI k)] (p_mk Ls I L R X) (fun v h' => v = none ∧ h' = p_mk Ls J L R X) := by
  have hN9 : N < 1000 := by
    have e8 : m ^ k ≤ 8 ^ k := Nat.pow_le_pow_left hm k
    have e83 : 8 ^ k ≤ 8 ^ 3 := Nat.pow_le_pow_right (by omega) hk
    omega
  have loop : ∀ i, i ≤ k → ∀ J, (∀ a, ¬ a = 139 → J a = I a) → (∀ j, i ≤ j → j < k → J 139 j = nI ((rowN m k N).getD j 0)) → P_run d 244 (p_bk 244 1) 0 0 [.ref 123, .int (nI N), .int (nI k), .int (nI (N / m ^ (k - i))), .int (if i = 0 then mI 1 else nI (i - 1))] [] (p_mk Ls J L R X) (fun v h' => v = none ∧ ∃ J', ((∀ a, ¬ a = 139 → J' a = I a) ∧ (∀ j, j < k → J' 139 j = nI ((rowN m k N).getD j 0))) ∧ h' = p_mk Ls J' L R X) := by
    intro i
    induction i with
    | zero =>
      intro _ J f1 f2
      rw [if_pos rfl]
      have fin : ∀ j, j < k → J 139 j = nI ((rowN m k N).getD j 0) := fun j hj => f2 j (by omega) hj
      clear f2
      generalize N / m ^ (k - 0) = V at *
      rw [P_run_eq, bk_244_1, pb_244_1]; simp -implicitDefEqProofs (disch := first | omega | decide) only [P_m, ↓P_run_eq _ 244 _ (p_bk 244 2), bk_244_2, pb_244_2, pw_iload_4, pw_zlt, pw_aload_n0, pw_aloadN_n0, pw_getR, pw_iload_n3, pw_bipush, bl_53, pw_iald, pw_irem, pw_iast, pw_idiv, pw_istore_n3, ps_3, pe_3, po_i3, po_r3, po_n3, po_u3, pw_iinc_4, il_m1, po_i4, po_r4, po_n4, po_u4, pw_goto, pw_vret, kd_123, rf_123_1, rf_123_2, rf_123_3, rf_123_4, rf_123_5, rf_123_7, rf_123_11, rf_123_12, rf_123_15, rf_123_16, rf_123_17, rf_123_26, rf_123_29, rf_123_30, rf_123_32, rf_123_34, rf_123_35, rf_123_45, n_0, n_1, n_53, nn_lt, nn_nlt, nn_le, nn_nle, nn_ne, nn_sub, nn_mul, nI_add, nn_neg, nm_eq, mn_eq, mm_eq, mn_lt, nm_lt, mn_le, nm_le, nn_sub0, nn_of, implies_true, nn_c, nn_in, nn_div, nat_rem, Nat.reduceMul, Nat.reduceSub, Nat.reduceDiv, Nat.reduceMod, pf_at, pf_ne, mk_s, mk_1, Classical.not_not, b2i_T, b2i_F, false_imp_iff, true_imp_iff, false_and, and_false, p_sw, Int.reduceAdd, Int.zero_add, Option.some.injEq, Value.int.injEq, Value.long.injEq, Value.ref.injEq, exists_eq_left', mk_I, mk_L, mk_wI, mk_wL, rf_s, rf_n, true_and, and_true, and_self, or_true, true_or, or_false, false_or, not_true_eq_false, not_false_eq_true, Option.toList_some, Option.toList_none, List.cons_append, List.nil_append, List.map_nil, List.map_cons, List.sum_nil, List.sum_cons, cat_i, cat_l, cat_r, cat_n, Nat.reduceLeDiff, Nat.reduceAdd, Nat.reduceEqDiff, Nat.zero_le, p_ent, p_u_ne, p_u_at, reduceIte, if_true, if_false, lm1]
      exact ⟨J, ⟨f1, fin⟩, rfl⟩
    | succ i ih =>
      intro hi J f1 f2
      have m0 : 0 < m := Nat.pos_of_ne_zero (fun h => by subst h; rw [Nat.zero_pow (by omega)] at hN; omega)
      have e1 : J 125 53 = nI m := by rw [f1 125 (by omega)]; exact e53
      have dl : N / m ^ (k - (i + 1)) ≤ N := Nat.div_le_self _ _
      have rm := nn_rem (a := N / m ^ (k - (i + 1))) (b := m) (by omega) m0 (by omega)
      have dv := nn_div (a := N / m ^ (k - (i + 1))) (b := m) (by omega) m0 (by omega)
      rw [dv, nn_mul] at rm
      have nx := ih (by omega) (p_u J 139 i (nI (N / m ^ (k - (i + 1)) % m))) (fun a ha => by rw [p_u_ne ha]; exact f1 a ha) (fun j j1 j2 => by
        rw [p_u_at]
        by_cases e : j = i
        · rw [if_pos e, e, rowN_get k N i (by omega), show k - 1 - i = k - (i + 1) by omega]
        · rw [if_neg e]; exact f2 j (by omega) j2)
      have dd : N / m ^ (k - i) = N / m ^ (k - (i + 1)) / m := by rw [Nat.div_div_eq_div_mul, ← Nat.pow_succ, show (k - (i + 1)).succ = k - i by omega]
      rw [dd] at nx
      have am : nI i + mI 1 = if i = 0 then mI 1 else nI (i - 1) := by
        by_cases e : i = 0
        · rw [if_pos e, e]; decide
        · rw [if_neg e, nn_addm (by omega)]
      rw [← am] at nx
      rw [if_neg (by omega), show i + 1 - 1 = i by omega]
      clear ih f2 am
      generalize N / m ^ (k - (i + 1)) / m = V2 at *
      generalize N / m ^ (k - (i + 1)) % m = V1 at *
      generalize N / m ^ (k - (i + 1)) = V at *
      rw [P_run_eq, bk_244_1, pb_244_1]; simp -implicitDefEqProofs (disch := first | omega | decide) only [P_m, pw_iload_4, pw_zlt, pw_aload_n0, pw_aloadN_n0, pw_getR, pw_iload_n3, pw_bipush, bl_53, pw_iald, pw_irem, pw_iast, pw_idiv, pw_istore_n3, ps_3, pe_3, po_i3, po_r3, po_n3, po_u3, pw_iinc_4, il_m1, po_i4, po_r4, po_n4, po_u4, pw_goto, kd_123, rf_123_1, rf_123_2, rf_123_3, rf_123_4, rf_123_5, rf_123_7, rf_123_11, rf_123_12, rf_123_15, rf_123_16, rf_123_17, rf_123_26, rf_123_29, rf_123_30, rf_123_32, rf_123_34, rf_123_35, rf_123_45, kd_125, kd_139, n_0, n_1, n_53, nn_lt, nn_nlt, nn_le, nn_nle, nn_ne, nn_sub, nn_mul, nI_add, nn_neg, nm_eq, mn_eq, mm_eq, mn_lt, nm_lt, mn_le, nm_le, nn_sub0, nn_of, implies_true, nn_c, nn_in, nn_div, nat_rem, Nat.reduceMul, Nat.reduceSub, Nat.reduceDiv, Nat.reduceMod, pf_at, pf_ne, mk_s, mk_1, Classical.not_not, b2i_T, b2i_F, false_imp_iff, true_imp_iff, false_and, and_false, p_sw, Int.reduceAdd, Int.zero_add, Option.some.injEq, Value.int.injEq, Value.long.injEq, Value.ref.injEq, exists_eq_left', mk_I, mk_L, mk_wI, mk_wL, rf_s, rf_n, true_and, and_true, and_self, or_true, true_or, or_false, false_or, not_true_eq_false, not_false_eq_true, Option.toList_some, Option.toList_none, List.cons_append, List.nil_append, List.map_nil, List.map_cons, List.sum_nil, List.sum_cons, cat_i, cat_l, cat_r, cat_n, Nat.reduceLeDiff, Nat.reduceAdd, Nat.reduceEqDiff, Nat.zero_le, p_ent, p_u_ne, p_u_at, reduceIte, if_true, if_false, e1, rm, dv]
      exact nx
  have st := loop k (Nat.le_refl k) I (fun _ _ => rfl) (fun j j1 j2 => absurd j2 (by omega))
  rw [Nat.sub_self, Nat.pow_zero, Nat.div_one] at st
  have su : nI k - nI 1 = if k = 0 then mI 1 else nI (k - 1) := by
    by_cases e : k = 0
    · rw [if_pos e, e]; decide
    · rw [if_neg e, nn_sub (by omega)]
  rw [← su] at st
  have all : P_m d 244 [.ref 123, .int (nI N), .int (nI k)] (p_mk Ls I L R X) (fun v h' => v = none ∧ ∃ J', ((∀ a, ¬ a = 139 → J' a = I a) ∧ (∀ j, j < k → J' 139 j = nI ((rowN m k N).getD j 0))) ∧ h' = p_mk Ls J' L R X) := by
    clear su loop
    generalize hU : nI k - nI 1 = U at *
    simp -implicitDefEqProofs (disch := first | omega | decide) only [P_m, ↓P_run_eq _ 244 _ (p_bk 244 0), bk_244_0, pb_244_0, pw_iload_n1, pw_istore_n3, ps_3, pe_3, po_i3, po_r3, po_n3, po_u3, pw_iload_n2, pw_iconst, il_1, pw_isub, pw_istore, ps_4, pe_4, po_i4, po_r4, po_n4, po_u4, pw_nop, kd_123, rf_123_1, rf_123_2, rf_123_3, rf_123_4, rf_123_5, rf_123_7, rf_123_11, rf_123_12, rf_123_15, rf_123_16, rf_123_17, rf_123_26, rf_123_29, rf_123_30, rf_123_32, rf_123_34, rf_123_35, rf_123_45, n_0, n_1, nn_lt, nn_nlt, nn_le, nn_nle, nn_ne, nn_sub, nn_mul, nI_add, nn_neg, nm_eq, mn_eq, mm_eq, mn_lt, nm_lt, mn_le, nm_le, nn_sub0, nn_of, implies_true, nn_c, nn_in, nn_div, nat_rem, Nat.reduceMul, Nat.reduceSub, Nat.reduceDiv, Nat.reduceMod, pf_at, pf_ne, mk_s, mk_1, Classical.not_not, b2i_T, b2i_F, false_imp_iff, true_imp_iff, false_and, and_false, p_sw, Int.reduceAdd, Int.zero_add, Option.some.injEq, Value.int.injEq, Value.long.injEq, Value.ref.injEq, exists_eq_left', mk_I, mk_L, mk_wI, mk_wL, rf_s, rf_n, true_and, and_true, and_self, or_true, true_or, or_false, false_or, not_true_eq_false, not_false_eq_true, Option.toList_some, Option.toList_none, List.cons_append, List.nil_append, List.map_nil, List.map_cons, List.sum_nil, List.sum_cons, cat_i, cat_l, cat_r, cat_n, Nat.reduceLeDiff, Nat.reduceAdd, Nat.reduceEqDiff, Nat.zero_le, p_ent, p_u_ne, p_u_at, reduceIte, if_true, if_false, hU]
    exact st
  obtain ⟨v, g, ⟨rfl, J', ⟨f1, f2⟩, rfl⟩, s⟩ := P_mex all
  exact ⟨J', f1, f2, s⟩
theorem pl_245 {k a0 : Nat} {l : List Nat} (hV : vld (I 125)) (hc : lawOf (I 125) c) (hk : k ≤ 3) (hl : l.length = k) (hq : ∀ q ∈ l, q < 8) (ha : a0 ≤ 9999) (h139 : ∀ j, j < k → I 139 j = nI (l.getD j 0)) (h128 : ∀ j, j < 13 → I 128 j = I 125 j) : ∃ J, frE I J ∧ P_m (d + 49) 245 [.ref 123, .int (nI a0), .int (nI k)] (p_mk Ls I L R X) (fun v h' => v = some (.int (nI (gE c (I 125) l a0 (fun _ => 0)))) ∧ h' = p_mk Ls J L R X) := by
  have loop : ∀ (r : List Nat) i a mo (J : Nat → Nat → Int32), l.drop i = r → i + r.length = k → a ≤ 9999 + 99 * i → frE (p_fn I 125 (kG (I 125) a mo)) J → P_run (d + 49) 245 (p_bk 245 1) 0 0 [.ref 123, .int (nI a0), .int (nI k), .int (nI i)] [] (p_mk Ls J L R X) (fun v h' => v = some (.int (nI (gE c (I 125) r a mo))) ∧ ∃ J', frE I J' ∧ h' = p_mk Ls J' L R X) := by
    intro r
    induction r with
    | nil =>
      intro i a mo J hd hi ha fJ
      have ik : i = k := by simpa using hi
      have s135 := sp_135 (d := d + 48) (Ls := Ls) (I := J) (L := L) (R := R) (X := X)
      have j125 : J 125 = kG (I 125) a mo := by rw [fJ.1 125 (by omega) (by omega), pf_at]
      have j2 : J 125 2 = nI a := by rw [j125]; unfold kG; rw [if_pos rfl]
      have j128 : J 128 = I 128 := by rw [fJ.1 128 (by omega) (by omega), pf_ne (by omega)]
      have ee : va_cpy (J 128) (J 125) 0 0 13 = I 125 := by
        funext j
        unfold va_cpy
        by_cases hj : j < 13
        · rw [if_pos (by omega), show 0 + (j - 0) = j by omega, j128]; exact h128 j hj
        · rw [if_neg (by omega), j125]; unfold kG; rw [if_neg (by omega), if_neg (by omega)]
      rw [ee] at s135
      show P_run _ _ _ _ _ _ _ _ (fun v h' => v = some (.int (nI a)) ∧ _)
      subst ik
      rw [P_run_eq, bk_245_1, pb_245_1]; simp -implicitDefEqProofs (disch := first | omega | decide) only [P_m, ↓P_run_eq _ 245 _ (p_bk 245 2), bk_245_2, pb_245_2, pw_iload_n3, pw_iload_n2, pw_cge, pw_aload_n0, pw_aloadN_n0, pw_getR, pw_iald, pw_iv2, pw_iinc_3, il_1, po_i3, po_r3, po_n3, po_u3, pw_goto, pw_iconst, il_2, pw_istore_n3, ps_3, pe_3, il_0, pw_ret0, kd_123, rf_123_1, rf_123_2, rf_123_3, rf_123_4, rf_123_5, rf_123_7, rf_123_11, rf_123_12, rf_123_15, rf_123_16, rf_123_17, rf_123_26, rf_123_29, rf_123_30, rf_123_32, rf_123_34, rf_123_35, rf_123_45, kd_125, n_0, n_1, n_2, nn_lt, nn_nlt, nn_le, nn_nle, nn_ne, nn_sub, nn_mul, nI_add, nn_neg, nm_eq, mn_eq, mm_eq, mn_lt, nm_lt, mn_le, nm_le, nn_sub0, nn_of, implies_true, nn_c, nn_in, nn_div, nat_rem, Nat.reduceMul, Nat.reduceSub, Nat.reduceDiv, Nat.reduceMod, pf_at, pf_ne, mk_s, mk_1, Classical.not_not, b2i_T, b2i_F, false_imp_iff, true_imp_iff, false_and, and_false, p_sw, Int.reduceAdd, Int.zero_add, Option.some.injEq, Value.int.injEq, Value.long.injEq, Value.ref.injEq, exists_eq_left', mk_I, mk_L, mk_wI, mk_wL, rf_s, rf_n, true_and, and_true, and_self, or_true, true_or, or_false, false_or, not_true_eq_false, not_false_eq_true, Option.toList_some, Option.toList_none, List.cons_append, List.nil_append, List.map_nil, List.map_cons, List.sum_nil, List.sum_cons, cat_i, cat_l, cat_r, cat_n, Nat.reduceLeDiff, Nat.reduceAdd, Nat.reduceEqDiff, Nat.zero_le, p_ent, p_u_ne, p_u_at, reduceIte, if_true, if_false, j2, P_ce s135]
      refine ⟨_, ⟨fun b b1 b2 => ?_, fun j x1 x2 x3 x4 => ?_⟩, rfl⟩
      · by_cases e : b = 125
        · rw [e, pf_at]
        · rw [pf_ne e, fJ.1 b b1 b2, pf_ne e]
      · rw [pf_ne (by omega), fJ.2 j x1 x2 x3 x4, pf_ne (by omega)]
    | cons q r ih =>
      intro i a mo J hd hi ha fJ
      rw [List.length_cons] at hi
      have ik : i < k := by omega
      have gi : l.getD i 0 = q := by
        have h1 : (l.drop i).getD 0 0 = q := by rw [hd]; rfl
        rw [List.getD_eq_getElem?_getD, List.getElem?_drop, Nat.add_zero, ← List.getD_eq_getElem?_getD] at h1
        exact h1
      have hd2 : l.drop (i + 1) = r := by rw [← List.drop_drop, hd]; rfl
      have q8 : q < 8 := hq q (List.mem_of_mem_drop (by rw [hd]; exact List.mem_cons_self))
      have j125 : J 125 = kG (I 125) a mo := by rw [fJ.1 125 (by omega) (by omega), pf_at]
      have j139 : J 139 i = nI q := by rw [fJ.1 139 (by omega) (by omega), pf_ne (by omega), h139 i ik, gi]
      obtain ⟨J2, f2, s2⟩ := ages_g (Ls := Ls) (I := J) (L := L) (R := R) (X := X) (D := d + 48) (mo := mo) hV hc j125 q8 (by omega) (by omega)
      have y9 := yG_le (c := c) (mo := mo) hV q8 (show a ≤ 12000 by omega)
      have nx := ih (i + 1) (a + yG c (I 125) a mo q) (moA mo q) J2 hd2 (by omega) (by omega) ⟨fun b b1 b2 => by
        rw [f2.1 b b1 b2]
        by_cases e : b = 125
        · rw [e, pf_at, pf_at]
        · rw [pf_ne e, pf_ne e, fJ.1 b b1 b2, pf_ne e], fun j x1 x2 x3 x4 => by rw [f2.2 j x1 x2 x3 x4, pf_ne (by omega), pf_ne (by omega), fJ.2 j x1 x2 x3 x4, pf_ne (by omega)]⟩
      show P_run _ _ _ _ _ _ _ _ (fun v h' => v = some (.int (nI (gE c (I 125) r (a + yG c (I 125) a mo q) (moA mo q)))) ∧ _)
      clear ih
      generalize gE c (I 125) r (a + yG c (I 125) a mo q) (moA mo q) = Z at *
      rw [P_run_eq, bk_245_1, pb_245_1]; simp -implicitDefEqProofs (disch := first | omega | decide) only [P_m, pw_iload_n3, pw_iload_n2, pw_cge, pw_aload_n0, pw_aloadN_n0, pw_getR, pw_iald, pw_iv2, pw_iinc_3, il_1, po_i3, po_r3, po_n3, po_u3, pw_goto, kd_123, rf_123_1, rf_123_2, rf_123_3, rf_123_4, rf_123_5, rf_123_7, rf_123_11, rf_123_12, rf_123_15, rf_123_16, rf_123_17, rf_123_26, rf_123_29, rf_123_30, rf_123_32, rf_123_34, rf_123_35, rf_123_45, kd_139, n_0, n_1, nn_lt, nn_nlt, nn_le, nn_nle, nn_ne, nn_sub, nn_mul, nI_add, nn_neg, nm_eq, mn_eq, mm_eq, mn_lt, nm_lt, mn_le, nm_le, nn_sub0, nn_of, implies_true, nn_c, nn_in, nn_div, nat_rem, Nat.reduceMul, Nat.reduceSub, Nat.reduceDiv, Nat.reduceMod, pf_at, pf_ne, mk_s, mk_1, Classical.not_not, b2i_T, b2i_F, false_imp_iff, true_imp_iff, false_and, and_false, p_sw, Int.reduceAdd, Int.zero_add, Option.some.injEq, Value.int.injEq, Value.long.injEq, Value.ref.injEq, exists_eq_left', mk_I, mk_L, mk_wI, mk_wL, rf_s, rf_n, true_and, and_true, and_self, or_true, true_or, or_false, false_or, not_true_eq_false, not_false_eq_true, Option.toList_some, Option.toList_none, List.cons_append, List.nil_append, List.map_nil, List.map_cons, List.sum_nil, List.sum_cons, cat_i, cat_l, cat_r, cat_n, Nat.reduceLeDiff, Nat.reduceAdd, Nat.reduceEqDiff, Nat.zero_le, p_ent, p_u_ne, p_u_at, reduceIte, if_true, if_false, j139, P_ce s2]
      exact nx
  have st := loop l 0 a0 (fun _ => 0) (p_u I 125 2 (nI a0)) rfl (by omega) (by omega) ⟨fun b _ _ => by
    by_cases e : b = 125
    · subst e
      rw [pf_at, ← kG_st hV]
      funext j
      rw [p_u_at]
      rfl
    · rw [pf_ne e, p_u_ne e], fun j _ _ _ _ => by rw [pf_ne (by omega), p_u_ne (by omega)]⟩
  have all : P_m (d + 49) 245 [.ref 123, .int (nI a0), .int (nI k)] (p_mk Ls I L R X) (fun v h' => v = some (.int (nI (gE c (I 125) l a0 (fun _ => 0)))) ∧ ∃ J', frE I J' ∧ h' = p_mk Ls J' L R X) := by
    clear loop
    generalize gE c (I 125) l a0 (fun _ => 0) = Z at *
    simp -implicitDefEqProofs (disch := first | omega | decide) only [P_m, ↓P_run_eq _ 245 _ (p_bk 245 0), bk_245_0, pb_245_0, pw_aload_n0, pw_aloadN_n0, pw_getR, pw_iconst, il_2, pw_iload_n1, pw_iast, il_0, pw_istore_n3, ps_3, pe_3, po_i3, po_r3, po_n3, po_u3, pw_nop, kd_123, rf_123_1, rf_123_2, rf_123_3, rf_123_4, rf_123_5, rf_123_7, rf_123_11, rf_123_12, rf_123_15, rf_123_16, rf_123_17, rf_123_26, rf_123_29, rf_123_30, rf_123_32, rf_123_34, rf_123_35, rf_123_45, kd_125, n_0, n_1, n_2, nn_lt, nn_nlt, nn_le, nn_nle, nn_ne, nn_sub, nn_mul, nI_add, nn_neg, nm_eq, mn_eq, mm_eq, mn_lt, nm_lt, mn_le, nm_le, nn_sub0, nn_of, implies_true, nn_c, nn_in, nn_div, nat_rem, Nat.reduceMul, Nat.reduceSub, Nat.reduceDiv, Nat.reduceMod, pf_at, pf_ne, mk_s, mk_1, Classical.not_not, b2i_T, b2i_F, false_imp_iff, true_imp_iff, false_and, and_false, p_sw, Int.reduceAdd, Int.zero_add, Option.some.injEq, Value.int.injEq, Value.long.injEq, Value.ref.injEq, exists_eq_left', mk_I, mk_L, mk_wI, mk_wL, rf_s, rf_n, true_and, and_true, and_self, or_true, true_or, or_false, false_or, not_true_eq_false, not_false_eq_true, Option.toList_some, Option.toList_none, List.cons_append, List.nil_append, List.map_nil, List.map_cons, List.sum_nil, List.sum_cons, cat_i, cat_l, cat_r, cat_n, Nat.reduceLeDiff, Nat.reduceAdd, Nat.reduceEqDiff, Nat.zero_le, p_ent, p_u_ne, p_u_at, reduceIte, if_true, if_false]
    exact st
  obtain ⟨v, g, ⟨rfl, J', f1, rfl⟩, s⟩ := P_mex all
  exact ⟨J', f1, s⟩
theorem sp_246 {m k : Nat} (hm : m ≤ 8) (hk : k ≤ 3) (e53 : I 125 53 = nI m) : P_m d 246 [.ref 123, .int (nI k)] (p_mk Ls I L R X) (fun v h' => v = some (.int (nI (m ^ k))) ∧ h' = p_mk Ls I L R X) := by
  have loop : ∀ i, i ≤ k → P_run d 246 (p_bk 246 1) 0 0 [.ref 123, .int (nI k), .int (nI (m ^ i)), .int (nI i)] [] (p_mk Ls I L R X) (fun v h' => v = some (.int (nI (m ^ k))) ∧ h' = p_mk Ls I L R X) := by
    refine down_ind ?_ ?_
    · generalize m ^ k = M at *
      rw [P_run_eq, bk_246_1, pb_246_1]; simp -implicitDefEqProofs (disch := first | omega | decide) only [P_m, ↓P_run_eq _ 246 _ (p_bk 246 2), bk_246_2, pb_246_2, pw_iload_n3, pw_iload_n1, pw_cge, pw_iload_n2, pw_aload_n0, pw_aloadN_n0, pw_getR, pw_bipush, bl_53, pw_iald, pw_imul, pw_istore_n2, ps_2, pe_2, po_i2, po_r2, po_n2, po_u2, pw_iinc_3, il_1, po_i3, po_r3, po_n3, po_u3, pw_goto, pw_ret0, kd_123, rf_123_1, rf_123_2, rf_123_3, rf_123_4, rf_123_5, rf_123_7, rf_123_11, rf_123_12, rf_123_15, rf_123_16, rf_123_17, rf_123_26, rf_123_29, rf_123_30, rf_123_32, rf_123_34, rf_123_35, rf_123_45, n_0, n_1, n_53, nn_lt, nn_nlt, nn_le, nn_nle, nn_ne, nn_sub, nn_mul, nI_add, nn_neg, nm_eq, mn_eq, mm_eq, mn_lt, nm_lt, mn_le, nm_le, nn_sub0, nn_of, implies_true, nn_c, nn_in, nn_div, nat_rem, Nat.reduceMul, Nat.reduceSub, Nat.reduceDiv, Nat.reduceMod, pf_at, pf_ne, mk_s, mk_1, Classical.not_not, b2i_T, b2i_F, false_imp_iff, true_imp_iff, false_and, and_false, p_sw, Int.reduceAdd, Int.zero_add, Option.some.injEq, Value.int.injEq, Value.long.injEq, Value.ref.injEq, exists_eq_left', mk_I, mk_L, mk_wI, mk_wL, rf_s, rf_n, true_and, and_true, and_self, or_true, true_or, or_false, false_or, not_true_eq_false, not_false_eq_true, Option.toList_some, Option.toList_none, List.cons_append, List.nil_append, List.map_nil, List.map_cons, List.sum_nil, List.sum_cons, cat_i, cat_l, cat_r, cat_n, Nat.reduceLeDiff, Nat.reduceAdd, Nat.reduceEqDiff, Nat.zero_le, p_ent, p_u_ne, p_u_at, reduceIte, if_true, if_false]
    · intro i hi nx
      have em : nI (m ^ i) * nI m = nI (m ^ (i + 1)) := by rw [nn_mul, Nat.pow_succ]
      generalize m ^ (i + 1) = M2 at *
      generalize m ^ i = M1 at *
      generalize m ^ k = M at *
      rw [P_run_eq, bk_246_1, pb_246_1]; simp -implicitDefEqProofs (disch := first | omega | decide) only [P_m, pw_iload_n3, pw_iload_n1, pw_cge, pw_iload_n2, pw_aload_n0, pw_aloadN_n0, pw_getR, pw_bipush, bl_53, pw_iald, pw_imul, pw_istore_n2, ps_2, pe_2, po_i2, po_r2, po_n2, po_u2, pw_iinc_3, il_1, po_i3, po_r3, po_n3, po_u3, pw_goto, kd_123, rf_123_1, rf_123_2, rf_123_3, rf_123_4, rf_123_5, rf_123_7, rf_123_11, rf_123_12, rf_123_15, rf_123_16, rf_123_17, rf_123_26, rf_123_29, rf_123_30, rf_123_32, rf_123_34, rf_123_35, rf_123_45, kd_125, n_0, n_1, n_53, nn_lt, nn_nlt, nn_le, nn_nle, nn_ne, nn_sub, nn_mul, nI_add, nn_neg, nm_eq, mn_eq, mm_eq, mn_lt, nm_lt, mn_le, nm_le, nn_sub0, nn_of, implies_true, nn_c, nn_in, nn_div, nat_rem, Nat.reduceMul, Nat.reduceSub, Nat.reduceDiv, Nat.reduceMod, pf_at, pf_ne, mk_s, mk_1, Classical.not_not, b2i_T, b2i_F, false_imp_iff, true_imp_iff, false_and, and_false, p_sw, Int.reduceAdd, Int.zero_add, Option.some.injEq, Value.int.injEq, Value.long.injEq, Value.ref.injEq, exists_eq_left', mk_I, mk_L, mk_wI, mk_wL, rf_s, rf_n, true_and, and_true, and_self, or_true, true_or, or_false, false_or, not_true_eq_false, not_false_eq_true, Option.toList_some, Option.toList_none, List.cons_append, List.nil_append, List.map_nil, List.map_cons, List.sum_nil, List.sum_cons, cat_i, cat_l, cat_r, cat_n, Nat.reduceLeDiff, Nat.reduceAdd, Nat.reduceEqDiff, Nat.zero_le, p_ent, p_u_ne, p_u_at, reduceIte, if_true, if_false, e53, em]
      exact nx
  have st := loop 0 (by omega)
  rw [Nat.pow_zero] at st
  generalize m ^ k = M at *
  simp -implicitDefEqProofs (disch := first | omega | decide) only [P_m, ↓P_run_eq _ 246 _ (p_bk 246 0), bk_246_0, pb_246_0, pw_iconst, il_1, pw_istore_n2, ps_2, pe_2, po_i2, po_r2, po_n2, po_u2, il_0, pw_istore_n3, ps_3, pe_3, po_i3, po_r3, po_n3, po_u3, pw_nop, kd_123, rf_123_1, rf_123_2, rf_123_3, rf_123_4, rf_123_5, rf_123_7, rf_123_11, rf_123_12, rf_123_15, rf_123_16, rf_123_17, rf_123_26, rf_123_29, rf_123_30, rf_123_32, rf_123_34, rf_123_35, rf_123_45, n_0, n_1, nn_lt, nn_nlt, nn_le, nn_nle, nn_ne, nn_sub, nn_mul, nI_add, nn_neg, nm_eq, mn_eq, mm_eq, mn_lt, nm_lt, mn_le, nm_le, nn_sub0, nn_of, implies_true, nn_c, nn_in, nn_div, nat_rem, Nat.reduceMul, Nat.reduceSub, Nat.reduceDiv, Nat.reduceMod, pf_at, pf_ne, mk_s, mk_1, Classical.not_not, b2i_T, b2i_F, false_imp_iff, true_imp_iff, false_and, and_false, p_sw, Int.reduceAdd, Int.zero_add, Option.some.injEq, Value.int.injEq, Value.long.injEq, Value.ref.injEq, exists_eq_left', mk_I, mk_L, mk_wI, mk_wL, rf_s, rf_n, true_and, and_true, and_self, or_true, true_or, or_false, false_or, not_true_eq_false, not_false_eq_true, Option.toList_some, Option.toList_none, List.cons_append, List.nil_append, List.map_nil, List.map_cons, List.sum_nil, List.sum_cons, cat_i, cat_l, cat_r, cat_n, Nat.reduceLeDiff, Nat.reduceAdd, Nat.reduceEqDiff, Nat.zero_le, p_ent, p_u_ne, p_u_at, reduceIte, if_true, if_false]
  exact st
theorem ce_246 {m k : Nat} (hm : m ≤ 8) (hk : k ≤ 3) {yy : Nat} {rr : List pI} {kc ks : Nat} {lls st : List Value} {Q : Option Value → pHp → Prop} (e53 : I 125 53 = nI m) : P_call d yy 246 [.ref 123, .int (nI k)] rr kc ks lls st (p_mk Ls I L R X) Q = P_w (d + 1) yy Q rr kc ks lls ((.int (nI (m ^ k))) :: st) (p_mk Ls I L R X) := P_ce (sp_246 hm hk e53)
end GX
