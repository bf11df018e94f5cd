section LX
variable {d Ls : Nat} {Q : Option Value → pHp → Prop}
theorem lw_cmp {i : Nat} (hL : Ls ≤ 3072) (hi : i ≤ 10000) : (nI Ls - nI 6 < nI i) = (Ls < i + 6) := by
  rcases Nat.lt_or_ge Ls 6 with h | h
  · have e : nI Ls - nI 6 < nI i := by
      have h9 : nI Ls - nI 6 < nI 0 := by
        have : Ls = 0 ∨ Ls = 1 ∨ Ls = 2 ∨ Ls = 3 ∨ Ls = 4 ∨ Ls = 5 := by omega
        rcases this with rfl | rfl | rfl | rfl | rfl | rfl <;> decide
      refine Int32.lt_of_lt_of_le h9 ?_
      rw [Int32.le_iff_toInt_le, nI_toInt (by omega), nI_toInt (by omega)]
      omega
    exact propext ⟨fun _ => by omega, fun _ => e⟩
  · rw [nn_sub h]
    exact propext ⟨fun x => by have := (nI_ltI (by omega) (by omega)).mp x; omega, fun x => nI_lt (by omega) (by omega)⟩
theorem lw_63 (x : Int32) : 0 ≤ (x &&& nI 63).toInt ∧ (x &&& nI 63).toInt ≤ 63 := by
  have h : (x &&& nI 63).toBitVec.toNat ≤ 63 := by
    show (x.toBitVec &&& (nI 63).toBitVec).toNat ≤ 63
    rw [BitVec.toNat_and]
    exact Nat.and_le_right
  have e : (x &&& nI 63).toInt = ((x &&& nI 63).toBitVec.toNat : Int) := by
    show (x &&& nI 63).toBitVec.toInt = _
    rw [BitVec.toInt_eq_toNat_cond, if_pos (by omega)]
  omega
theorem lw_loop (hL : Ls ≤ 3072) (hQ : ∀ h, Q (some (.int 1)) h) : ∀ n i, Ls < i + 6 * (n + 1) → i ≤ 3100 → lwI d Ls n i Q := by
  have out : ∀ n i, Ls < i + 6 → i ≤ 3100 → lwI d Ls n i Q := by
    intro n i h hi
    rintro _ ⟨I, L, R, X, rfl, H⟩
    refine ⟨0, 0, Nat.zero_le _, Nat.zero_le _, ?_⟩
    have c1 : (nI Ls - nI 6 < nI i) = True := by rw [lw_cmp hL (by omega)]; exact eq_true h
    have hq := hQ (p_mk Ls I L R X)
    have n1 : (1 : Int32) = nI 1 := rfl
    rw [n1] at hq
    clear H
    rw [P_run_eq, bk_283_1, pb_283_1]; simp -implicitDefEqProofs (disch := first | omega | decide) only [P_m, ↓P_run_eq _ 283 _ (p_bk 283 38), bk_283_38, pb_283_38, pw_iload_n3, pw_aload_n0, pw_aloadN_n0, pw_alen, pw_bipush, bl_6, pw_isub, pw_cgt, pw_iald, bl_63, pw_iand, pw_sw, pw_iconst, il_1, pw_ret1, kd_2, n_0, n_1, n_6, n_63, nn_lt, nn_nlt, nn_le, nn_nle, nn_ne, nn_sub, nn_mul, nI_add, nn_neg, nm_eq, mn_eq, mm_eq, mn_lt, nm_lt, mn_le, nm_le, nn_sub0, nn_of, implies_true, nn_c, nn_in, nn_div, nat_rem, Nat.reduceMul, Nat.reduceSub, Nat.reduceDiv, Nat.reduceMod, pf_at, pf_ne, mk_s, mk_1, Classical.not_not, b2i_T, b2i_F, false_imp_iff, true_imp_iff, false_and, and_false, Int.reduceAdd, Int.zero_add, Option.some.injEq, Value.int.injEq, Value.long.injEq, Value.ref.injEq, exists_eq_left', mk_I, mk_L, mk_wI, mk_wL, rf_s, rf_n, true_and, and_true, and_self, or_true, true_or, or_false, false_or, not_true_eq_false, not_false_eq_true, Option.toList_some, Option.toList_none, List.cons_append, List.nil_append, List.map_nil, List.map_cons, List.sum_nil, List.sum_cons, cat_i, cat_l, cat_r, cat_n, Nat.reduceLeDiff, Nat.reduceAdd, Nat.reduceEqDiff, Nat.zero_le, p_ent, p_u_ne, p_u_at, reduceIte, if_true, if_false, c1]
    exact hq
  intro n
  induction n with
  | zero => intro i h hi; exact out 0 i (by omega) hi
  | succ n ih =>
    intro i h hi
    rcases Nat.lt_or_ge Ls (i + 6) with hc | hc
    · exact out _ i hc hi
    rintro _ ⟨I, L, R, X, rfl, H⟩
    have IH := ih (i + 6) (by omega) (by omega)
    have c1 : (nI Ls - nI 6 < nI i) = False := by rw [lw_cmp hL (by omega)]; exact eq_false (by omega)
    have go : ∀ kc ks, (((I 2 i &&& nI 63).toInt < 0 ∨ 34 < (I 2 i &&& nI 63).toInt → P_run (d + 61) 283 (p_bk 283 37) kc ks [.ref 2, .ref 32, .ref 123, .int (nI i)] [] (p_mk Ls I L R X) Q) ∧ p_sw (I 2 i &&& nI 63) (fun b => P_run (d + 61) 283 (p_bk 283 b) kc ks [.ref 2, .ref 32, .ref 123, .int (nI i)] [] (p_mk Ls I L R X) Q) 0 [2, 3, 4, 5, 6, 7, 8, 9, 10, 11, 12, 13, 14, 15, 16, 17, 18, 19, 20, 21, 22, 23, 24, 25, 26, 27, 28, 29, 30, 31, 32, 33, 34, 35, 36]) → P_run (d + 61) 283 (p_bk 283 1) kc ks [.ref 2, .ref 32, .ref 123, .int (nI i)] [] (p_mk Ls I L R X) Q := by
      intro kc ks g
      clear IH ih H
      rw [P_run_eq, bk_283_1, pb_283_1]; simp -implicitDefEqProofs (disch := first | omega | decide) only [P_m, pw_iload_n3, pw_aload_n0, pw_aloadN_n0, pw_alen, pw_bipush, bl_6, pw_isub, pw_cgt, pw_iald, bl_63, pw_iand, pw_sw, kd_2, n_0, n_1, n_6, n_63, nn_lt, nn_nlt, nn_le, nn_nle, nn_ne, nn_sub, nn_mul, nI_add, nn_neg, nm_eq, mn_eq, mm_eq, mn_lt, nm_lt, mn_le, nm_le, nn_sub0, nn_of, implies_true, nn_c, nn_in, nn_div, nat_rem, Nat.reduceMul, Nat.reduceSub, Nat.reduceDiv, Nat.reduceMod, pf_at, pf_ne, mk_s, mk_1, Classical.not_not, b2i_T, b2i_F, false_imp_iff, true_imp_iff, false_and, and_false, Int.reduceAdd, Int.zero_add, Option.some.injEq, Value.int.injEq, Value.long.injEq, Value.ref.injEq, exists_eq_left', mk_I, mk_L, mk_wI, mk_wL, rf_s, rf_n, true_and, and_true, and_self, or_true, true_or, or_false, false_or, not_true_eq_false, not_false_eq_true, Option.toList_some, Option.toList_none, List.cons_append, List.nil_append, List.map_nil, List.map_cons, List.sum_nil, List.sum_cons, cat_i, cat_l, cat_r, cat_n, Nat.reduceLeDiff, Nat.reduceAdd, Nat.reduceEqDiff, Nat.zero_le, p_ent, p_u_ne, p_u_at, reduceIte, if_true, if_false, c1]
      exact g
    obtain ⟨x0, x1⟩ := lw_63 (I 2 i)
    rcases Int.lt_or_le 34 (I 2 i &&& nI 63).toInt with hx | hx
    · obtain ⟨kc, ks, k1, k2, r⟩ := IH _ ⟨I, L, R, X, rfl, H⟩
      refine ⟨kc, ks, by omega, by omega, go kc ks ⟨fun _ => ?_, p_sw_out _ _ (Or.inr (by simp only [List.length_cons, List.length_nil]; omega))⟩⟩
      clear go IH ih H
      rw [P_run_eq, bk_283_37, pb_283_37]; simp -implicitDefEqProofs (disch := first | omega | decide) only [P_m, pw_iinc_3, il_6, po_i3, po_r3, po_n3, po_u3, pw_goto, kd_2, n_0, n_1, n_6, nn_lt, nn_nlt, nn_le, nn_nle, nn_ne, nn_sub, nn_mul, nI_add, nn_neg, nm_eq, mn_eq, mm_eq, mn_lt, nm_lt, mn_le, nm_le, nn_sub0, nn_of, implies_true, nn_c, nn_in, nn_div, nat_rem, Nat.reduceMul, Nat.reduceSub, Nat.reduceDiv, Nat.reduceMod, pf_at, pf_ne, mk_s, mk_1, Classical.not_not, b2i_T, b2i_F, false_imp_iff, true_imp_iff, false_and, and_false, p_sw, Int.reduceAdd, Int.zero_add, Option.some.injEq, Value.int.injEq, Value.long.injEq, Value.ref.injEq, exists_eq_left', mk_I, mk_L, mk_wI, mk_wL, rf_s, rf_n, true_and, and_true, and_self, or_true, true_or, or_false, false_or, not_true_eq_false, not_false_eq_true, Option.toList_some, Option.toList_none, List.cons_append, List.nil_append, List.map_nil, List.map_cons, List.sum_nil, List.sum_cons, cat_i, cat_l, cat_r, cat_n, Nat.reduceLeDiff, Nat.reduceAdd, Nat.reduceEqDiff, Nat.zero_le, p_ent, p_u_ne, p_u_at, reduceIte, if_true, if_false]
      exact r
    · obtain ⟨k, hk⟩ : ∃ k : Nat, (I 2 i &&& nI 63).toInt = k := ⟨(I 2 i &&& nI 63).toInt.toNat, by omega⟩
      have k35 : k < 35 := by omega
      have one : ∃ kc ks, kc ≤ 8 * (n + 1) ∧ ks ≤ 900 * (n + 1) ∧ P_run (d + 61) 283 (p_bk 283 (k + 2)) kc ks [.ref 2, .ref 32, .ref 123, .int (nI i)] [] (p_mk Ls I L R X) Q := by
        clear go hk x0 x1 hx
        match k, k35 with
        | 0, _ => exact lw_2 H hc hL IH
        | 1, _ => exact lw_3 H hc hL IH
        | 2, _ => exact lw_4 H hc hL IH
        | 3, _ => exact lw_5 H hc hL IH
        | 4, _ => exact lw_6 H hc hL IH
        | 5, _ => exact lw_7 H hc hL IH
        | 6, _ => exact lw_8 H hc hL IH
        | 7, _ => exact lw_9 H hc hL IH
        | 8, _ => exact lw_10 H hc hL IH
        | 9, _ => exact lw_11 H hc hL IH
        | 10, _ => exact lw_12 H hc hL IH
        | 11, _ => exact lw_13 H hc hL IH
        | 12, _ => exact lw_14 H hc hL IH
        | 13, _ => exact lw_15 H hc hL IH
        | 14, _ => exact lw_16 H hc hL IH
        | 15, _ => exact lw_17 H hc hL IH
        | 16, _ => exact lw_18 H hc hL IH
        | 17, _ => exact lw_19 H hc hL IH
        | 18, _ => exact lw_20 H hc hL IH
        | 19, _ => exact lw_21 H hc hL IH
        | 20, _ => exact lw_22 H hc hL IH
        | 21, _ => exact lw_23 H hc hL IH
        | 22, _ => exact lw_24 H hc hL IH
        | 23, _ => exact lw_25 H hc hL IH
        | 24, _ => exact lw_26 H hc hL IH
        | 25, _ => exact lw_27 H hc hL IH
        | 26, _ => exact lw_28 H hc hL IH
        | 27, _ => exact lw_29 H hc hL IH
        | 28, _ => exact lw_30 H hc hL IH
        | 29, _ => exact lw_31 H hc hL IH
        | 30, _ => exact lw_32 H hc hL IH
        | 31, _ => exact lw_33 H hc hL IH
        | 32, _ => exact lw_34 H hc hL IH
        | 33, _ => exact lw_35 H hc hL IH
        | 34, _ => exact lw_36 H hc hL IH
        | k + 35, h => exact absurd h (by omega)
      obtain ⟨kc, ks, k1, k2, r⟩ := one
      refine ⟨kc, ks, k1, k2, go kc ks ⟨fun h => by omega, ?_⟩⟩
      have kb : ∀ k, k < 35 → ([2, 3, 4, 5, 6, 7, 8, 9, 10, 11, 12, 13, 14, 15, 16, 17, 18, 19, 20, 21, 22, 23, 24, 25, 26, 27, 28, 29, 30, 31, 32, 33, 34, 35, 36] : List Nat)[k]? = some (k + 2) := by decide
      exact p_sw_at _ 0 k (k + 2) (by omega) (kb k k35) r
end LX
