section SL
variable {d Ls : Nat} {I : Nat → Nat → Int32} {L : Nat → Nat → Int64} {R : Nat → Nat → Option Nat} {X : List pKd} {h : pHp} {B : Nat → Nat} {T : Nat}
def frT (I J : Nat → Nat → Int32) : Prop := (∀ a, ¬ a = 123 → ¬ a = 132 → ¬ a = 133 → ¬ a = 134 → J a = I a) ∧ ∀ k, ¬ k = 18 → J 123 k = I 123 k
theorem frT_rf : frT I I := ⟨fun _ _ _ _ _ => rfl, fun _ _ => rfl⟩
theorem frT_tr {J H : Nat → Nat → Int32} (h1 : frT I J) (h2 : frT J H) : frT I H := ⟨fun a a1 a2 a3 a4 => (h2.1 a a1 a2 a3 a4).trans (h1.1 a a1 a2 a3 a4), fun k k1 => (h2.2 k k1).trans (h1.2 k k1)⟩
theorem mB_f {J : Nat → Nat → Int32} (h : mB B T I) (f : frT I J) : mB B T J := ⟨h.1, fun k hk => by rw [f.1 130 (by omega) (by omega) (by omega) (by omega)]; exact h.2.1 k hk, by rw [f.1 129 (by omega) (by omega) (by omega) (by omega)]; exact h.2.2⟩
/-- the first n tokens stand -/
def tkR (B : Nat → Nat) (T : Nat) (J : Nat → Nat → Int32) (n : Nat) : Prop := ∀ j, j < n → J 132 j = nI (tC B T j) ∧ J 133 j = nI (tV B T j) ∧ J 134 j = nI (tS B T j)
/-- a token's number -/
theorem lp_161v {Q : Option Value → pHp → Prop} {j k to b : Nat} {J : Nat → Nat → Int32} (hM : mB B T J) (hj : j ≤ 400) (e18 : J 123 18 = nI j) (hk : k ≤ to) (ht : to ≤ T) (hb : b < 256) (dg : isDg b = true) (hd : ∀ i, k ≤ i → i < to → 48 ≤ B i ∧ B i ≤ 57) (nx : P_run (d + 1) 161 (p_bk 161 13) 0 0 [.ref 123, .int (nI T), .int (nI k), .int (sB b), .int (nI to)] [] (p_mk Ls (p_u J 133 j (nI (vlF B (to - k) k 0))) L R X) Q) : P_run (d + 1) 161 (p_bk 161 10) 0 0 [.ref 123, .int (nI T), .int (nI k), .int (sB b), .int (nI to), .int (nI k)] [] (p_mk Ls (p_u J 133 j (nI 0)) L R X) Q := by
  have T4 := hM.1
  have loop : ∀ n i v, i + n = to → k ≤ i → v ≤ 10000009 → vlF B n i v = vlF B (to - k) k 0 → P_run (d + 1) 161 (p_bk 161 10) 0 0 [.ref 123, .int (nI T), .int (nI k), .int (sB b), .int (nI to), .int (nI i)] [] (p_mk Ls (p_u J 133 j (nI v)) L R X) Q := by
    intro n
    induction n with
    | zero =>
      intro i v hi hki hv hf
      have hf : v = vlF B (to - k) k 0 := hf
      rw [← hf] at nx
      have ie : i = to := by omega
      subst ie
      clear hf hd
      generalize sB b = x at *
      rw [P_run_eq, bk_161_10, pb_161_10]; simp -implicitDefEqProofs (disch := first | omega | decide) only [P_m, pw_iload_5, pw_iload_4, pw_cge, pw_iload_n3, pw_is1, pw_zeq, pw_aload_n0, pw_aloadN_n0, pw_getR, pw_getI, pw_iald, pw_ldc, cn_6, pw_cle, pw_goto, kd_123, rf_123_1, rf_123_2, rf_123_3, rf_123_4, rf_123_5, rf_123_7, rf_123_11, rf_123_12, rf_123_15, rf_123_16, rf_123_17, rf_123_26, rf_123_29, rf_123_30, rf_123_32, rf_123_34, rf_123_35, rf_123_45, n_0, n_1, nn_lt, nn_nlt, nn_le, nn_nle, nn_ne, nn_sub, nn_mul, nI_add, nn_neg, nm_eq, mn_eq, mm_eq, mn_lt, nm_lt, mn_le, nm_le, nn_sub0, nn_of, implies_true, nn_c, nn_in, nn_div, nat_rem, Nat.reduceMul, Nat.reduceSub, Nat.reduceDiv, Nat.reduceMod, pf_at, pf_ne, mk_s, mk_1, Classical.not_not, b2i_T, b2i_F, false_imp_iff, true_imp_iff, false_and, and_false, p_sw, Int.reduceAdd, Int.zero_add, Option.some.injEq, Value.int.injEq, Value.long.injEq, Value.ref.injEq, exists_eq_left', mk_I, mk_L, mk_wI, mk_wL, rf_s, rf_n, true_and, and_true, and_self, or_true, true_or, or_false, false_or, not_true_eq_false, not_false_eq_true, Option.toList_some, Option.toList_none, List.cons_append, List.nil_append, List.map_nil, List.map_cons, List.sum_nil, List.sum_cons, cat_i, cat_l, cat_r, cat_n, Nat.reduceLeDiff, Nat.reduceAdd, Nat.reduceEqDiff, Nat.zero_le, p_ent, p_u_ne, p_u_at, reduceIte, if_true, if_false]
      exact P_ls nx one_l
    | succ n ih =>
      intro i v hi hki hv hf
      obtain ⟨d1, d2⟩ := hd i hki (by omega)
      obtain ⟨c1, c2⟩ := hM.2.1 i (by omega)
      have bd : isDg (B i) = true := by unfold isDg; simp [d1, d2]
      rw [((sB_dg _ c2).1 bd).2.2] at c1
      have s159 := pl_159 (d := d) (h := p_mk Ls (p_u J 133 j (nI v)) L R X) hb
      rw [dg, bN_t] at s159
      have e18' : p_u J 133 j (nI v) 123 18 = nI j := by rw [p_u_ne (by omega)]; exact e18
      have e133 : p_u J 133 j (nI v) 133 j = nI v := by rw [p_u_at, if_pos rfl]
      have e130 : p_u J 133 j (nI v) 130 i = nI (B i) := by rw [p_u_ne (by omega)]; exact c1
      have hf2 : vlF B n (i + 1) (if 1000000 < v then v else 10 * v + B i - 48) = vlF B (to - k) k 0 := hf
      by_cases cv : 1000000 < v
      · rw [if_pos cv] at hf2
        have n2 := ih (i + 1) v (by omega) (by omega) hv hf2
        rw [← pu_pu (v := nI v)] at n2
        clear ih hf hf2 hd nx
        generalize p_u J 133 j (nI v) = J1 at *
        generalize sB b = x at *
        generalize B i = bi at *
        rw [P_run_eq, bk_161_10, pb_161_10]; simp -implicitDefEqProofs (disch := first | omega | decide) only [P_m, ↓P_run_eq _ 161 _ (p_bk 161 12), bk_161_12, pb_161_12, pw_iload_5, pw_iload_4, pw_cge, pw_iload_n3, pw_is1, pw_zeq, pw_aload_n0, pw_aloadN_n0, pw_getR, pw_getI, pw_iald, pw_ldc, cn_6, pw_cle, pw_goto, pw_iast, pw_iinc_5, il_1, po_i5, po_r5, po_n5, po_u5, kd_123, rf_123_1, rf_123_2, rf_123_3, rf_123_4, rf_123_5, rf_123_7, rf_123_11, rf_123_12, rf_123_15, rf_123_16, rf_123_17, rf_123_26, rf_123_29, rf_123_30, rf_123_32, rf_123_34, rf_123_35, rf_123_45, kd_130, kd_133, n_0, n_1, nn_lt, nn_nlt, nn_le, nn_nle, nn_ne, nn_sub, nn_mul, nI_add, nn_neg, nm_eq, mn_eq, mm_eq, mn_lt, nm_lt, mn_le, nm_le, nn_sub0, nn_of, implies_true, nn_c, nn_in, nn_div, nat_rem, Nat.reduceMul, Nat.reduceSub, Nat.reduceDiv, Nat.reduceMod, pf_at, pf_ne, mk_s, mk_1, Classical.not_not, b2i_T, b2i_F, false_imp_iff, true_imp_iff, false_and, and_false, p_sw, Int.reduceAdd, Int.zero_add, Option.some.injEq, Value.int.injEq, Value.long.injEq, Value.ref.injEq, exists_eq_left', mk_I, mk_L, mk_wI, mk_wL, rf_s, rf_n, true_and, and_true, and_self, or_true, true_or, or_false, false_or, not_true_eq_false, not_false_eq_true, Option.toList_some, Option.toList_none, List.cons_append, List.nil_append, List.map_nil, List.map_cons, List.sum_nil, List.sum_cons, cat_i, cat_l, cat_r, cat_n, Nat.reduceLeDiff, Nat.reduceAdd, Nat.reduceEqDiff, Nat.zero_le, p_ent, p_u_ne, p_u_at, reduceIte, if_true, if_false, n_1000000, e18', e133, e130, P_ce s159]
        exact n2
      · rw [if_neg cv] at hf2
        have n2 := ih (i + 1) (10 * v + B i - 48) (by omega) (by omega) (by omega) hf2
        rw [← pu_pu (v := nI v)] at n2
        have sb : nI (10 * v + B i) - nI 48 = nI (10 * v + B i - 48) := nn_sub (by omega)
        clear ih hf hf2 hd nx
        generalize p_u J 133 j (nI v) = J1 at *
        generalize sB b = x at *
        generalize B i = bi at *
        rw [P_run_eq, bk_161_10, pb_161_10]; simp -implicitDefEqProofs (disch := first | omega | decide) only [P_m, ↓P_run_eq _ 161 _ (p_bk 161 11), bk_161_11, pb_161_11, ↓P_run_eq _ 161 _ (p_bk 161 12), bk_161_12, pb_161_12, pw_iload_5, pw_iload_4, pw_cge, pw_iload_n3, pw_is1, pw_zeq, pw_aload_n0, pw_aloadN_n0, pw_getR, pw_getI, pw_iald, pw_ldc, cn_6, pw_cle, pw_goto, pw_bipush, bl_10, pw_imul, pw_bald, pw_iadd, bl_48, pw_isub, pw_nop, pw_iast, pw_iinc_5, il_1, po_i5, po_r5, po_n5, po_u5, kd_123, rf_123_1, rf_123_2, rf_123_3, rf_123_4, rf_123_5, rf_123_7, rf_123_11, rf_123_12, rf_123_15, rf_123_16, rf_123_17, rf_123_26, rf_123_29, rf_123_30, rf_123_32, rf_123_34, rf_123_35, rf_123_45, kd_130, kd_133, n_0, n_1, n_10, n_48, nn_lt, nn_nlt, nn_le, nn_nle, nn_ne, nn_sub, nn_mul, nI_add, nn_neg, nm_eq, mn_eq, mm_eq, mn_lt, nm_lt, mn_le, nm_le, nn_sub0, nn_of, implies_true, nn_c, nn_in, nn_div, nat_rem, Nat.reduceMul, Nat.reduceSub, Nat.reduceDiv, Nat.reduceMod, pf_at, pf_ne, mk_s, mk_1, Classical.not_not, b2i_T, b2i_F, false_imp_iff, true_imp_iff, false_and, and_false, p_sw, Int.reduceAdd, Int.zero_add, Option.some.injEq, Value.int.injEq, Value.long.injEq, Value.ref.injEq, exists_eq_left', mk_I, mk_L, mk_wI, mk_wL, rf_s, rf_n, true_and, and_true, and_self, or_true, true_or, or_false, false_or, not_true_eq_false, not_false_eq_true, Option.toList_some, Option.toList_none, List.cons_append, List.nil_append, List.map_nil, List.map_cons, List.sum_nil, List.sum_cons, cat_i, cat_l, cat_r, cat_n, Nat.reduceLeDiff, Nat.reduceAdd, Nat.reduceEqDiff, Nat.zero_le, p_ent, p_u_ne, p_u_at, reduceIte, if_true, if_false, n_1000000, e18', e133, e130, sb, P_ce s159]
        exact n2
  exact loop (to - k) k 0 (by omega) (Nat.le_refl k) (by omega) rfl
end SL
