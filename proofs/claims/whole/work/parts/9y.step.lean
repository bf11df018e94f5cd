/-! THE READER'S STEPS -/
def cT0 (B : Nat → Nat) (T : Nat) (I : Nat → Nat → Int32) (R : Nat → Nat → Option Nat) : Prop := R 35 1 = some 34 ∧ I 35 2 = nI T ∧ T ≤ 400 ∧ ∀ k, k < T → I 34 k = nI (B k) ∧ B k < 256
def stp (B : Nat → Nat) (T : Nat) (I : Nat → Nat → Int32) (j : Nat) : Nat → Nat → Int32 := p_u (p_u I 35 4 (nI (tS B T j))) 35 5 (nI (te B T (tS B T j)))
def cTk (B : Nat → Nat) (T : Nat) (I : Nat → Nat → Int32) (j : Nat) : Prop := I 35 4 = nI (tS B T j) ∧ I 35 5 = nI (te B T (tS B T j))
section SR
variable {d Ls : Nat} {I : Nat → Nat → Int32} {L : Nat → Nat → Int64} {R : Nat → Nat → Option Nat} {X : List pKd} {h : pHp} {B : Nat → Nat} {T : Nat}
theorem stp_k {j : Nat} : cTk B T (stp B T I j) j := ⟨by unfold stp; rw [p_u_at, if_neg (by omega), p_u_at, if_pos rfl], by unfold stp; rw [p_u_at, if_pos rfl]⟩
theorem stp_ne {j a : Nat} (h : ¬ a = 35) : stp B T I j a = I a := by unfold stp; rw [p_u_ne h, p_u_ne h]
theorem stp_35 {j k : Nat} (h4 : ¬ k = 4) (h5 : ¬ k = 5) : stp B T I j 35 k = I 35 k := by unfold stp; rw [p_u_at, if_neg h5, p_u_at, if_neg h4]
theorem stp_0 {j : Nat} (h : cT0 B T I R) : cT0 B T (stp B T I j) R := ⟨h.1, by rw [stp_35 (by omega) (by omega)]; exact h.2.1, h.2.2.1, fun k hk => by rw [stp_ne (by omega)]; exact h.2.2.2 k hk⟩
theorem pl_72 {q : Nat} (h0 : cT0 B T I R) (hq : q ≤ T) (e5 : I 35 5 = nI q) : P_m d 72 [.ref 35] (p_mk Ls I L R X) (fun v h' => v = none ∧ h' = p_mk Ls (p_u (p_u I 35 4 (nI (nb B T q))) 35 5 (nI (te B T (nb B T q)))) L R X) := by
  obtain ⟨r1, e2, hT, hB⟩ := h0
  -- the token's end
  have l8 : ∀ (pr : Nat → Bool) (lo hi p : Nat), p < T → lo ≤ 200 → hi ≤ 200 → (∀ b, pr b = true ↔ lo ≤ b ∧ b ≤ hi) → ∀ n k, k + n = T → p ≤ k → (∀ i, p ≤ i → i < k → pr (B i) = true) → P_run d 72 (p_bk 72 8) 0 0 [.ref 35, .int (nI lo), .int (nI hi)] [] (p_mk Ls (p_u (p_u I 35 4 (nI p)) 35 5 (nI k)) L R X) (fun v h' => v = none ∧ h' = p_mk Ls (p_u (p_u I 35 4 (nI p)) 35 5 (nI (if sp B T pr k = p then p + 1 else sp B T pr k))) L R X) := by
    intro pr lo hi p hp hlo hhi hpr n
    induction n with
    | zero =>
      intro k hk pk _
      have a2 : p_u (p_u I 35 4 (nI p)) 35 5 (nI k) 35 2 = nI T := by rw [p_u_at, if_neg (by omega), p_u_at, if_neg (by omega)]; exact e2
      have a4 : p_u (p_u I 35 4 (nI p)) 35 5 (nI k) 35 4 = nI p := by rw [p_u_at, if_neg (by omega), p_u_at, if_pos rfl]
      have a5 : p_u (p_u I 35 4 (nI p)) 35 5 (nI k) 35 5 = nI k := by rw [p_u_at, if_pos rfl]
      rw [sp_n (Or.inl (by omega)), if_neg (by omega)]
      generalize p_u (p_u I 35 4 (nI p)) 35 5 (nI k) = J at *
      rw [P_run_eq, bk_72_8, pb_72_8]; simp -implicitDefEqProofs (disch := first | omega | decide) only [P_m, ↓P_run_eq _ 72 _ (p_bk 72 9), bk_72_9, pb_72_9, ↓P_run_eq _ 72 _ (p_bk 72 10), bk_72_10, pb_72_10, pw_aload_n0, pw_aloadN_n0, pw_getI, pw_cge, pw_getR, pw_iald, pw_iload_n1, pw_clt, pw_iload_n2, pw_cgt, pw_dupi, pw_dupr, pw_iconst, il_1, pw_iadd, pw_putI, pw_goto, pw_cne, pw_nop, pw_vret, kd_35, rf_35_0, rf_35_1, n_0, n_1, nn_lt, nn_nlt, nn_le, nn_nle, nn_ne, nn_sub, nn_mul, nI_add, nn_neg, nm_eq, mn_eq, mm_eq, mn_lt, nm_lt, mn_le, nm_le, nn_sub0, nn_of, implies_true, nn_c, nn_in, nn_div, nat_rem, Nat.reduceMul, Nat.reduceSub, Nat.reduceDiv, Nat.reduceMod, pf_at, pf_ne, mk_s, mk_1, Classical.not_not, b2i_T, b2i_F, false_imp_iff, true_imp_iff, false_and, and_false, p_sw, Int.reduceAdd, Int.zero_add, Option.some.injEq, Value.int.injEq, Value.long.injEq, Value.ref.injEq, exists_eq_left', mk_I, mk_L, mk_wI, mk_wL, rf_s, rf_n, true_and, and_true, and_self, or_true, true_or, or_false, false_or, not_true_eq_false, not_false_eq_true, Option.toList_some, Option.toList_none, List.cons_append, List.nil_append, List.map_nil, List.map_cons, List.sum_nil, List.sum_cons, cat_i, cat_l, cat_r, cat_n, Nat.reduceLeDiff, Nat.reduceAdd, Nat.reduceEqDiff, Nat.zero_le, p_ent, p_u_ne, p_u_at, reduceIte, if_true, if_false, a2, a4, a5]
    | succ n ih =>
      intro k hk pk hin
      have a2 : p_u (p_u I 35 4 (nI p)) 35 5 (nI k) 35 2 = nI T := by rw [p_u_at, if_neg (by omega), p_u_at, if_neg (by omega)]; exact e2
      have a4 : p_u (p_u I 35 4 (nI p)) 35 5 (nI k) 35 4 = nI p := by rw [p_u_at, if_neg (by omega), p_u_at, if_pos rfl]
      have a5 : p_u (p_u I 35 4 (nI p)) 35 5 (nI k) 35 5 = nI k := by rw [p_u_at, if_pos rfl]
      obtain ⟨b1, b2⟩ := hB k (by omega)
      have a34 : p_u (p_u I 35 4 (nI p)) 35 5 (nI k) 34 k = nI (B k) := by rw [p_u_ne (by omega), p_u_ne (by omega)]; exact b1
      have ew : p_u (p_u (p_u I 35 4 (nI p)) 35 5 (nI k)) 35 5 (nI (k + 1)) = p_u (p_u I 35 4 (nI p)) 35 5 (nI (k + 1)) := pu_pu
      by_cases c : pr (B k) = true
      · have nx := ih (k + 1) (by omega) (by omega) (fun i h1 h2 => by
          by_cases e : i = k
          · rw [e]; exact c
          · exact hin i h1 (by omega))
        rw [← sp_y (by omega) c] at nx
        rw [← ew] at nx
        obtain ⟨c1, c2⟩ := (hpr _).mp c
        clear ih
        generalize p_u (p_u I 35 4 (nI p)) 35 5 (nI k) = J at *
        generalize B k = bk at *
        rw [P_run_eq, bk_72_8, pb_72_8]; simp -implicitDefEqProofs (disch := first | omega | decide) only [P_m, pw_aload_n0, pw_aloadN_n0, pw_getI, pw_cge, pw_getR, pw_iald, pw_iload_n1, pw_clt, pw_iload_n2, pw_cgt, pw_dupi, pw_dupr, pw_iconst, il_1, pw_iadd, pw_putI, pw_goto, kd_34, kd_35, rf_35_0, rf_35_1, n_0, n_1, nn_lt, nn_nlt, nn_le, nn_nle, nn_ne, nn_sub, nn_mul, nI_add, nn_neg, nm_eq, mn_eq, mm_eq, mn_lt, nm_lt, mn_le, nm_le, nn_sub0, nn_of, implies_true, nn_c, nn_in, nn_div, nat_rem, Nat.reduceMul, Nat.reduceSub, Nat.reduceDiv, Nat.reduceMod, pf_at, pf_ne, mk_s, mk_1, Classical.not_not, b2i_T, b2i_F, false_imp_iff, true_imp_iff, false_and, and_false, p_sw, Int.reduceAdd, Int.zero_add, Option.some.injEq, Value.int.injEq, Value.long.injEq, Value.ref.injEq, exists_eq_left', mk_I, mk_L, mk_wI, mk_wL, rf_s, rf_n, true_and, and_true, and_self, or_true, true_or, or_false, false_or, not_true_eq_false, not_false_eq_true, Option.toList_some, Option.toList_none, List.cons_append, List.nil_append, List.map_nil, List.map_cons, List.sum_nil, List.sum_cons, cat_i, cat_l, cat_r, cat_n, Nat.reduceLeDiff, Nat.reduceAdd, Nat.reduceEqDiff, Nat.zero_le, p_ent, p_u_ne, p_u_at, reduceIte, if_true, if_false, r1, va_rs, a2, a4, a5, a34]
        exact nx
      · rw [sp_n (Or.inr (by simpa using c))]
        have c' : ¬ (lo ≤ B k ∧ B k ≤ hi) := fun h => c ((hpr _).mpr h)
        clear ih
        by_cases kp : k = p
        · subst kp
          rw [if_pos rfl]
          rw [← ew]
          generalize p_u (p_u I 35 4 (nI k)) 35 5 (nI k) = J at *
          generalize B k = bk at *
          by_cases c1 : lo ≤ bk
          · have c2 : hi < bk := by omega
            rw [P_run_eq, bk_72_8, pb_72_8]; simp -implicitDefEqProofs (disch := first | omega | decide) only [P_m, ↓P_run_eq _ 72 _ (p_bk 72 9), bk_72_9, pb_72_9, ↓P_run_eq _ 72 _ (p_bk 72 10), bk_72_10, pb_72_10, pw_aload_n0, pw_aloadN_n0, pw_getI, pw_cge, pw_getR, pw_iald, pw_iload_n1, pw_clt, pw_iload_n2, pw_cgt, pw_dupi, pw_dupr, pw_iconst, il_1, pw_iadd, pw_putI, pw_goto, pw_cne, pw_nop, pw_vret, kd_34, kd_35, rf_35_0, rf_35_1, n_0, n_1, nn_lt, nn_nlt, nn_le, nn_nle, nn_ne, nn_sub, nn_mul, nI_add, nn_neg, nm_eq, mn_eq, mm_eq, mn_lt, nm_lt, mn_le, nm_le, nn_sub0, nn_of, implies_true, nn_c, nn_in, nn_div, nat_rem, Nat.reduceMul, Nat.reduceSub, Nat.reduceDiv, Nat.reduceMod, pf_at, pf_ne, mk_s, mk_1, Classical.not_not, b2i_T, b2i_F, false_imp_iff, true_imp_iff, false_and, and_false, p_sw, Int.reduceAdd, Int.zero_add, Option.some.injEq, Value.int.injEq, Value.long.injEq, Value.ref.injEq, exists_eq_left', mk_I, mk_L, mk_wI, mk_wL, rf_s, rf_n, true_and, and_true, and_self, or_true, true_or, or_false, false_or, not_true_eq_false, not_false_eq_true, Option.toList_some, Option.toList_none, List.cons_append, List.nil_append, List.map_nil, List.map_cons, List.sum_nil, List.sum_cons, cat_i, cat_l, cat_r, cat_n, Nat.reduceLeDiff, Nat.reduceAdd, Nat.reduceEqDiff, Nat.zero_le, p_ent, p_u_ne, p_u_at, reduceIte, if_true, if_false, r1, va_rs, a2, a4, a5, a34]
          · rw [P_run_eq, bk_72_8, pb_72_8]; simp -implicitDefEqProofs (disch := first | omega | decide) only [P_m, ↓P_run_eq _ 72 _ (p_bk 72 9), bk_72_9, pb_72_9, ↓P_run_eq _ 72 _ (p_bk 72 10), bk_72_10, pb_72_10, pw_aload_n0, pw_aloadN_n0, pw_getI, pw_cge, pw_getR, pw_iald, pw_iload_n1, pw_clt, pw_iload_n2, pw_cgt, pw_dupi, pw_dupr, pw_iconst, il_1, pw_iadd, pw_putI, pw_goto, pw_cne, pw_nop, pw_vret, kd_34, kd_35, rf_35_0, rf_35_1, n_0, n_1, nn_lt, nn_nlt, nn_le, nn_nle, nn_ne, nn_sub, nn_mul, nI_add, nn_neg, nm_eq, mn_eq, mm_eq, mn_lt, nm_lt, mn_le, nm_le, nn_sub0, nn_of, implies_true, nn_c, nn_in, nn_div, nat_rem, Nat.reduceMul, Nat.reduceSub, Nat.reduceDiv, Nat.reduceMod, pf_at, pf_ne, mk_s, mk_1, Classical.not_not, b2i_T, b2i_F, false_imp_iff, true_imp_iff, false_and, and_false, p_sw, Int.reduceAdd, Int.zero_add, Option.some.injEq, Value.int.injEq, Value.long.injEq, Value.ref.injEq, exists_eq_left', mk_I, mk_L, mk_wI, mk_wL, rf_s, rf_n, true_and, and_true, and_self, or_true, true_or, or_false, false_or, not_true_eq_false, not_false_eq_true, Option.toList_some, Option.toList_none, List.cons_append, List.nil_append, List.map_nil, List.map_cons, List.sum_nil, List.sum_cons, cat_i, cat_l, cat_r, cat_n, Nat.reduceLeDiff, Nat.reduceAdd, Nat.reduceEqDiff, Nat.zero_le, p_ent, p_u_ne, p_u_at, reduceIte, if_true, if_false, r1, va_rs, a2, a4, a5, a34]
        · rw [if_neg kp]
          generalize p_u (p_u I 35 4 (nI p)) 35 5 (nI k) = J at *
          generalize B k = bk at *
          by_cases c1 : lo ≤ bk
          · have c2 : hi < bk := by omega
            rw [P_run_eq, bk_72_8, pb_72_8]; simp -implicitDefEqProofs (disch := first | omega | decide) only [P_m, ↓P_run_eq _ 72 _ (p_bk 72 9), bk_72_9, pb_72_9, ↓P_run_eq _ 72 _ (p_bk 72 10), bk_72_10, pb_72_10, pw_aload_n0, pw_aloadN_n0, pw_getI, pw_cge, pw_getR, pw_iald, pw_iload_n1, pw_clt, pw_iload_n2, pw_cgt, pw_dupi, pw_dupr, pw_iconst, il_1, pw_iadd, pw_putI, pw_goto, pw_cne, pw_nop, pw_vret, kd_34, kd_35, rf_35_0, rf_35_1, n_0, n_1, nn_lt, nn_nlt, nn_le, nn_nle, nn_ne, nn_sub, nn_mul, nI_add, nn_neg, nm_eq, mn_eq, mm_eq, mn_lt, nm_lt, mn_le, nm_le, nn_sub0, nn_of, implies_true, nn_c, nn_in, nn_div, nat_rem, Nat.reduceMul, Nat.reduceSub, Nat.reduceDiv, Nat.reduceMod, pf_at, pf_ne, mk_s, mk_1, Classical.not_not, b2i_T, b2i_F, false_imp_iff, true_imp_iff, false_and, and_false, p_sw, Int.reduceAdd, Int.zero_add, Option.some.injEq, Value.int.injEq, Value.long.injEq, Value.ref.injEq, exists_eq_left', mk_I, mk_L, mk_wI, mk_wL, rf_s, rf_n, true_and, and_true, and_self, or_true, true_or, or_false, false_or, not_true_eq_false, not_false_eq_true, Option.toList_some, Option.toList_none, List.cons_append, List.nil_append, List.map_nil, List.map_cons, List.sum_nil, List.sum_cons, cat_i, cat_l, cat_r, cat_n, Nat.reduceLeDiff, Nat.reduceAdd, Nat.reduceEqDiff, Nat.zero_le, p_ent, p_u_ne, p_u_at, reduceIte, if_true, if_false, r1, va_rs, a2, a4, a5, a34]
          · rw [P_run_eq, bk_72_8, pb_72_8]; simp -implicitDefEqProofs (disch := first | omega | decide) only [P_m, ↓P_run_eq _ 72 _ (p_bk 72 9), bk_72_9, pb_72_9, ↓P_run_eq _ 72 _ (p_bk 72 10), bk_72_10, pb_72_10, pw_aload_n0, pw_aloadN_n0, pw_getI, pw_cge, pw_getR, pw_iald, pw_iload_n1, pw_clt, pw_iload_n2, pw_cgt, pw_dupi, pw_dupr, pw_iconst, il_1, pw_iadd, pw_putI, pw_goto, pw_cne, pw_nop, pw_vret, kd_34, kd_35, rf_35_0, rf_35_1, n_0, n_1, nn_lt, nn_nlt, nn_le, nn_nle, nn_ne, nn_sub, nn_mul, nI_add, nn_neg, nm_eq, mn_eq, mm_eq, mn_lt, nm_lt, mn_le, nm_le, nn_sub0, nn_of, implies_true, nn_c, nn_in, nn_div, nat_rem, Nat.reduceMul, Nat.reduceSub, Nat.reduceDiv, Nat.reduceMod, pf_at, pf_ne, mk_s, mk_1, Classical.not_not, b2i_T, b2i_F, false_imp_iff, true_imp_iff, false_and, and_false, p_sw, Int.reduceAdd, Int.zero_add, Option.some.injEq, Value.int.injEq, Value.long.injEq, Value.ref.injEq, exists_eq_left', mk_I, mk_L, mk_wI, mk_wL, rf_s, rf_n, true_and, and_true, and_self, or_true, true_or, or_false, false_or, not_true_eq_false, not_false_eq_true, Option.toList_some, Option.toList_none, List.cons_append, List.nil_append, List.map_nil, List.map_cons, List.sum_nil, List.sum_cons, cat_i, cat_l, cat_r, cat_n, Nat.reduceLeDiff, Nat.reduceAdd, Nat.reduceEqDiff, Nat.zero_le, p_ent, p_u_ne, p_u_at, reduceIte, if_true, if_false, r1, va_rs, a2, a4, a5, a34]
  -- behind the blanks
  have l2 : ∀ p, p ≤ T → P_run d 72 (p_bk 72 2) 0 0 [.ref 35] [] (p_mk Ls (p_u I 35 4 (nI p)) L R X) (fun v h' => v = none ∧ h' = p_mk Ls (p_u (p_u I 35 4 (nI p)) 35 5 (nI (te B T p))) L R X) := by
    intro p hp
    have a2 : p_u I 35 4 (nI p) 35 2 = nI T := by rw [p_u_at, if_neg (by omega)]; exact e2
    have a4 : p_u I 35 4 (nI p) 35 4 = nI p := by rw [p_u_at, if_pos rfl]
    have a2' : p_u (p_u I 35 4 (nI p)) 35 5 (nI p) 35 2 = nI T := by rw [p_u_at, if_neg (by omega)]; exact a2
    have a4' : p_u (p_u I 35 4 (nI p)) 35 5 (nI p) 35 4 = nI p := by rw [p_u_at, if_neg (by omega)]; exact a4
    by_cases c : p = T
    · have et : te B T p = p := by unfold te; rw [if_pos (by omega)]
      rw [et]
      generalize p_u I 35 4 (nI p) = J at *
      generalize hH : p_u J 35 5 (nI p) = H at *
      rw [P_run_eq, bk_72_2, pb_72_2]; simp -implicitDefEqProofs (disch := first | omega | decide) only [P_m, pw_aload_n0, pw_aloadN_n0, pw_getI, pw_putI, pw_clt, pw_vret, kd_35, rf_35_0, rf_35_1, n_0, n_1, nn_lt, nn_nlt, nn_le, nn_nle, nn_ne, nn_sub, nn_mul, nI_add, nn_neg, nm_eq, mn_eq, mm_eq, mn_lt, nm_lt, mn_le, nm_le, nn_sub0, nn_of, implies_true, nn_c, nn_in, nn_div, nat_rem, Nat.reduceMul, Nat.reduceSub, Nat.reduceDiv, Nat.reduceMod, pf_at, pf_ne, mk_s, mk_1, Classical.not_not, b2i_T, b2i_F, false_imp_iff, true_imp_iff, false_and, and_false, p_sw, Int.reduceAdd, Int.zero_add, Option.some.injEq, Value.int.injEq, Value.long.injEq, Value.ref.injEq, exists_eq_left', mk_I, mk_L, mk_wI, mk_wL, rf_s, rf_n, true_and, and_true, and_self, or_true, true_or, or_false, false_or, not_true_eq_false, not_false_eq_true, Option.toList_some, Option.toList_none, List.cons_append, List.nil_append, List.map_nil, List.map_cons, List.sum_nil, List.sum_cons, cat_i, cat_l, cat_r, cat_n, Nat.reduceLeDiff, Nat.reduceAdd, Nat.reduceEqDiff, Nat.zero_le, p_ent, p_u_ne, p_u_at, reduceIte, if_true, if_false, a2, a4, hH, a2', a4']
    · obtain ⟨b1, b2⟩ := hB p (by omega)
      have a34 : p_u (p_u I 35 4 (nI p)) 35 5 (nI p) 34 p = nI (B p) := by rw [p_u_ne (by omega), p_u_ne (by omega)]; exact b1
      rw [te_c (by omega)]
      by_cases c9 : B p ≤ 57
      · rw [if_pos c9]
        have nx := l8 isDg 48 57 p (by omega) (by omega) (by omega) (fun b => by unfold isDg; simp) (T - p) p (by omega) (Nat.le_refl p) (fun i h1 h2 => absurd h1 (by omega))
        generalize (if sp B T isDg p = p then p + 1 else sp B T isDg p) = Z at *
        generalize hH : p_u (p_u I 35 4 (nI p)) 35 5 (nI p) = H at *
        generalize p_u I 35 4 (nI p) = J at *
        generalize B p = bp at *
        rw [P_run_eq, bk_72_2, pb_72_2]; simp -implicitDefEqProofs (disch := first | omega | decide) only [P_m, ↓P_run_eq _ 72 _ (p_bk 72 3), bk_72_3, pb_72_3, ↓P_run_eq _ 72 _ (p_bk 72 5), bk_72_5, pb_72_5, ↓P_run_eq _ 72 _ (p_bk 72 7), bk_72_7, pb_72_7, pw_aload_n0, pw_aloadN_n0, pw_getI, pw_putI, pw_clt, pw_vret, pw_getR, pw_iald, pw_bipush, bl_57, pw_cgt, bl_48, pw_goto, pw_istore_n1, ps_1, pe_1, po_i1, po_r1, po_n1, po_u1, pw_istore_n2, ps_2, pe_2, po_i2, po_r2, po_n2, po_u2, pw_nop, kd_34, kd_35, rf_35_0, rf_35_1, n_0, n_1, n_48, n_57, nn_lt, nn_nlt, nn_le, nn_nle, nn_ne, nn_sub, nn_mul, nI_add, nn_neg, nm_eq, mn_eq, mm_eq, mn_lt, nm_lt, mn_le, nm_le, nn_sub0, nn_of, implies_true, nn_c, nn_in, nn_div, nat_rem, Nat.reduceMul, Nat.reduceSub, Nat.reduceDiv, Nat.reduceMod, pf_at, pf_ne, mk_s, mk_1, Classical.not_not, b2i_T, b2i_F, false_imp_iff, true_imp_iff, false_and, and_false, p_sw, Int.reduceAdd, Int.zero_add, Option.some.injEq, Value.int.injEq, Value.long.injEq, Value.ref.injEq, exists_eq_left', mk_I, mk_L, mk_wI, mk_wL, rf_s, rf_n, true_and, and_true, and_self, or_true, true_or, or_false, false_or, not_true_eq_false, not_false_eq_true, Option.toList_some, Option.toList_none, List.cons_append, List.nil_append, List.map_nil, List.map_cons, List.sum_nil, List.sum_cons, cat_i, cat_l, cat_r, cat_n, Nat.reduceLeDiff, Nat.reduceAdd, Nat.reduceEqDiff, Nat.zero_le, p_ent, p_u_ne, p_u_at, reduceIte, if_true, if_false, r1, va_rs, a2, a4, hH, a2', a4', a34]
        exact nx
      · rw [if_neg c9]
        have nx := l8 isSm 97 122 p (by omega) (by omega) (by omega) (fun b => by unfold isSm; simp) (T - p) p (by omega) (Nat.le_refl p) (fun i h1 h2 => absurd h1 (by omega))
        generalize (if sp B T isSm p = p then p + 1 else sp B T isSm p) = Z at *
        generalize hH : p_u (p_u I 35 4 (nI p)) 35 5 (nI p) = H at *
        generalize p_u I 35 4 (nI p) = J at *
        generalize B p = bp at *
        rw [P_run_eq, bk_72_2, pb_72_2]; simp -implicitDefEqProofs (disch := first | omega | decide) only [P_m, ↓P_run_eq _ 72 _ (p_bk 72 3), bk_72_3, pb_72_3, ↓P_run_eq _ 72 _ (p_bk 72 4), bk_72_4, pb_72_4, ↓P_run_eq _ 72 _ (p_bk 72 5), bk_72_5, pb_72_5, ↓P_run_eq _ 72 _ (p_bk 72 6), bk_72_6, pb_72_6, ↓P_run_eq _ 72 _ (p_bk 72 7), bk_72_7, pb_72_7, pw_aload_n0, pw_aloadN_n0, pw_getI, pw_putI, pw_clt, pw_vret, pw_getR, pw_iald, pw_bipush, bl_57, pw_cgt, bl_48, pw_goto, bl_97, pw_nop, pw_istore_n1, ps_1, pe_1, po_i1, po_r1, po_n1, po_u1, bl_122, pw_istore_n2, ps_2, pe_2, po_i2, po_r2, po_n2, po_u2, kd_34, kd_35, rf_35_0, rf_35_1, n_0, n_1, n_48, n_57, n_97, n_122, nn_lt, nn_nlt, nn_le, nn_nle, nn_ne, nn_sub, nn_mul, nI_add, nn_neg, nm_eq, mn_eq, mm_eq, mn_lt, nm_lt, mn_le, nm_le, nn_sub0, nn_of, implies_true, nn_c, nn_in, nn_div, nat_rem, Nat.reduceMul, Nat.reduceSub, Nat.reduceDiv, Nat.reduceMod, pf_at, pf_ne, mk_s, mk_1, Classical.not_not, b2i_T, b2i_F, false_imp_iff, true_imp_iff, false_and, and_false, p_sw, Int.reduceAdd, Int.zero_add, Option.some.injEq, Value.int.injEq, Value.long.injEq, Value.ref.injEq, exists_eq_left', mk_I, mk_L, mk_wI, mk_wL, rf_s, rf_n, true_and, and_true, and_self, or_true, true_or, or_false, false_or, not_true_eq_false, not_false_eq_true, Option.toList_some, Option.toList_none, List.cons_append, List.nil_append, List.map_nil, List.map_cons, List.sum_nil, List.sum_cons, cat_i, cat_l, cat_r, cat_n, Nat.reduceLeDiff, Nat.reduceAdd, Nat.reduceEqDiff, Nat.zero_le, p_ent, p_u_ne, p_u_at, reduceIte, if_true, if_false, r1, va_rs, a2, a4, hH, a2', a4', a34]
        exact nx
  -- the blanks
  have l1 : ∀ n k, k + n = T → P_run d 72 (p_bk 72 1) 0 0 [.ref 35] [] (p_mk Ls (p_u I 35 4 (nI k)) L R X) (fun v h' => v = none ∧ h' = p_mk Ls (p_u (p_u I 35 4 (nI (nb B T k))) 35 5 (nI (te B T (nb B T k)))) L R X) := by
    intro n
    induction n with
    | zero =>
      intro k hk
      have a2 : p_u I 35 4 (nI k) 35 2 = nI T := by rw [p_u_at, if_neg (by omega)]; exact e2
      have a4 : p_u I 35 4 (nI k) 35 4 = nI k := by rw [p_u_at, if_pos rfl]
      have nx := l2 k (by omega)
      rw [show nb B T k = k from sp_n (Or.inl (by omega))]
      generalize te B T k = E at *
      generalize p_u I 35 4 (nI k) = J at *
      rw [P_run_eq, bk_72_1, pb_72_1]; simp -implicitDefEqProofs (disch := first | omega | decide) only [P_m, pw_aload_n0, pw_aloadN_n0, pw_getI, pw_cge, pw_getR, pw_iald, pw_bipush, bl_32, pw_cne, pw_dupi, pw_dupr, pw_iconst, il_1, pw_iadd, pw_putI, pw_goto, kd_35, rf_35_0, rf_35_1, n_0, n_1, n_32, nn_lt, nn_nlt, nn_le, nn_nle, nn_ne, nn_sub, nn_mul, nI_add, nn_neg, nm_eq, mn_eq, mm_eq, mn_lt, nm_lt, mn_le, nm_le, nn_sub0, nn_of, implies_true, nn_c, nn_in, nn_div, nat_rem, Nat.reduceMul, Nat.reduceSub, Nat.reduceDiv, Nat.reduceMod, pf_at, pf_ne, mk_s, mk_1, Classical.not_not, b2i_T, b2i_F, false_imp_iff, true_imp_iff, false_and, and_false, p_sw, Int.reduceAdd, Int.zero_add, Option.some.injEq, Value.int.injEq, Value.long.injEq, Value.ref.injEq, exists_eq_left', mk_I, mk_L, mk_wI, mk_wL, rf_s, rf_n, true_and, and_true, and_self, or_true, true_or, or_false, false_or, not_true_eq_false, not_false_eq_true, Option.toList_some, Option.toList_none, List.cons_append, List.nil_append, List.map_nil, List.map_cons, List.sum_nil, List.sum_cons, cat_i, cat_l, cat_r, cat_n, Nat.reduceLeDiff, Nat.reduceAdd, Nat.reduceEqDiff, Nat.zero_le, p_ent, p_u_ne, p_u_at, reduceIte, if_true, if_false, a2, a4]
      exact nx
    | succ n ih =>
      intro k hk
      have a2 : p_u I 35 4 (nI k) 35 2 = nI T := by rw [p_u_at, if_neg (by omega)]; exact e2
      have a4 : p_u I 35 4 (nI k) 35 4 = nI k := by rw [p_u_at, if_pos rfl]
      obtain ⟨b1, b2⟩ := hB k (by omega)
      have a34 : p_u I 35 4 (nI k) 34 k = nI (B k) := by rw [p_u_ne (by omega)]; exact b1
      by_cases c : B k = 32
      · have ew : p_u (p_u I 35 4 (nI k)) 35 4 (nI (k + 1)) = p_u I 35 4 (nI (k + 1)) := pu_pu
        have nx := ih (k + 1) (by omega)
        rw [show nb B T (k + 1) = nb B T k from (sp_y (by omega) (decide_eq_true c)).symm, ← ew] at nx
        rw [c] at a34
        clear ih
        generalize te B T (nb B T k) = E at *
        generalize nb B T k = F at *
        generalize hH : p_u I 35 4 (nI F) = H at *
        generalize p_u I 35 4 (nI k) = J at *
        rw [P_run_eq, bk_72_1, pb_72_1]; simp -implicitDefEqProofs (disch := first | omega | decide) only [P_m, pw_aload_n0, pw_aloadN_n0, pw_getI, pw_cge, pw_getR, pw_iald, pw_bipush, bl_32, pw_cne, pw_dupi, pw_dupr, pw_iconst, il_1, pw_iadd, pw_putI, pw_goto, kd_34, kd_35, rf_35_0, rf_35_1, n_0, n_1, n_32, nn_lt, nn_nlt, nn_le, nn_nle, nn_ne, nn_sub, nn_mul, nI_add, nn_neg, nm_eq, mn_eq, mm_eq, mn_lt, nm_lt, mn_le, nm_le, nn_sub0, nn_of, implies_true, nn_c, nn_in, nn_div, nat_rem, Nat.reduceMul, Nat.reduceSub, Nat.reduceDiv, Nat.reduceMod, pf_at, pf_ne, mk_s, mk_1, Classical.not_not, b2i_T, b2i_F, false_imp_iff, true_imp_iff, false_and, and_false, p_sw, Int.reduceAdd, Int.zero_add, Option.some.injEq, Value.int.injEq, Value.long.injEq, Value.ref.injEq, exists_eq_left', mk_I, mk_L, mk_wI, mk_wL, rf_s, rf_n, true_and, and_true, and_self, or_true, true_or, or_false, false_or, not_true_eq_false, not_false_eq_true, Option.toList_some, Option.toList_none, List.cons_append, List.nil_append, List.map_nil, List.map_cons, List.sum_nil, List.sum_cons, cat_i, cat_l, cat_r, cat_n, Nat.reduceLeDiff, Nat.reduceAdd, Nat.reduceEqDiff, Nat.zero_le, p_ent, p_u_ne, p_u_at, reduceIte, if_true, if_false, r1, va_rs, a2, a4, a34]
        exact nx
      · have nx := l2 k (by omega)
        rw [show nb B T k = k from sp_n (Or.inr (decide_eq_false c))]
        clear ih
        generalize te B T k = E at *
        generalize p_u I 35 4 (nI k) = J at *
        generalize B k = bk at *
        rw [P_run_eq, bk_72_1, pb_72_1]; simp -implicitDefEqProofs (disch := first | omega | decide) only [P_m, pw_aload_n0, pw_aloadN_n0, pw_getI, pw_cge, pw_getR, pw_iald, pw_bipush, bl_32, pw_cne, pw_dupi, pw_dupr, pw_iconst, il_1, pw_iadd, pw_putI, pw_goto, kd_34, kd_35, rf_35_0, rf_35_1, n_0, n_1, n_32, nn_lt, nn_nlt, nn_le, nn_nle, nn_ne, nn_sub, nn_mul, nI_add, nn_neg, nm_eq, mn_eq, mm_eq, mn_lt, nm_lt, mn_le, nm_le, nn_sub0, nn_of, implies_true, nn_c, nn_in, nn_div, nat_rem, Nat.reduceMul, Nat.reduceSub, Nat.reduceDiv, Nat.reduceMod, pf_at, pf_ne, mk_s, mk_1, Classical.not_not, b2i_T, b2i_F, false_imp_iff, true_imp_iff, false_and, and_false, p_sw, Int.reduceAdd, Int.zero_add, Option.some.injEq, Value.int.injEq, Value.long.injEq, Value.ref.injEq, exists_eq_left', mk_I, mk_L, mk_wI, mk_wL, rf_s, rf_n, true_and, and_true, and_self, or_true, true_or, or_false, false_or, not_true_eq_false, not_false_eq_true, Option.toList_some, Option.toList_none, List.cons_append, List.nil_append, List.map_nil, List.map_cons, List.sum_nil, List.sum_cons, cat_i, cat_l, cat_r, cat_n, Nat.reduceLeDiff, Nat.reduceAdd, Nat.reduceEqDiff, Nat.zero_le, p_ent, p_u_ne, p_u_at, reduceIte, if_true, if_false, r1, va_rs, a2, a4, a34]
        exact nx
  have st := l1 (T - q) q (by omega)
  generalize te B T (nb B T q) = E at *
  generalize nb B T q = F at *
  simp -implicitDefEqProofs (disch := first | omega | decide) only [P_m, ↓P_run_eq _ 72 _ (p_bk 72 0), bk_72_0, pb_72_0, pw_aload_n0, pw_aloadN_n0, pw_getI, pw_putI, pw_nop, kd_35, rf_35_0, rf_35_1, n_0, n_1, nn_lt, nn_nlt, nn_le, nn_nle, nn_ne, nn_sub, nn_mul, nI_add, nn_neg, nm_eq, mn_eq, mm_eq, mn_lt, nm_lt, mn_le, nm_le, nn_sub0, nn_of, implies_true, nn_c, nn_in, nn_div, nat_rem, Nat.reduceMul, Nat.reduceSub, Nat.reduceDiv, Nat.reduceMod, pf_at, pf_ne, mk_s, mk_1, Classical.not_not, b2i_T, b2i_F, false_imp_iff, true_imp_iff, false_and, and_false, p_sw, Int.reduceAdd, Int.zero_add, Option.some.injEq, Value.int.injEq, Value.long.injEq, Value.ref.injEq, exists_eq_left', mk_I, mk_L, mk_wI, mk_wL, rf_s, rf_n, true_and, and_true, and_self, or_true, true_or, or_false, false_or, not_true_eq_false, not_false_eq_true, Option.toList_some, Option.toList_none, List.cons_append, List.nil_append, List.map_nil, List.map_cons, List.sum_nil, List.sum_cons, cat_i, cat_l, cat_r, cat_n, Nat.reduceLeDiff, Nat.reduceAdd, Nat.reduceEqDiff, Nat.zero_le, p_ent, p_u_ne, p_u_at, reduceIte, if_true, if_false, e5]
  exact st
/-- on to the next token -/
theorem pl_step {j : Nat} (h0 : cT0 B T I R) (hk : cTk B T I j) : P_m d 72 [.ref 35] (p_mk Ls I L R X) (fun v h' => v = none ∧ h' = p_mk Ls (stp B T I (j + 1)) L R X) := pl_72 h0 (te_b (tS_b j)).2.1 hk.2
theorem pl_68 {j c : Nat} (h0 : cT0 B T I R) (hk : cTk B T I j) (hc : c < 128) (h1 : isSm c = false) (h2 : isDg c = false) : P_m d 68 [.ref 35, .int (nI c)] (p_mk Ls I L R X) (fun v h' => v = some (.int (nI (bN (decide (tC B T j = 100 + c))))) ∧ h' = p_mk Ls I L R X) := by
  obtain ⟨r1, e2, hT, hB⟩ := h0
  obtain ⟨e4, e5⟩ := hk
  have sg := sg_tok (B := B) (T := T) (i := j) h1 h2
  have tb := tS_b (B := B) (T := T) j
  by_cases c0 : tC B T j = 100 + c
  · obtain ⟨s1, s2⟩ := sg.mpr c0
    obtain ⟨b1, b2⟩ := hB _ s1
    rw [s2] at b1
    rw [decide_eq_true c0, bN_t]
    generalize tS B T j = p at *
    simp -implicitDefEqProofs (disch := first | omega | decide) only [P_m, ↓P_run_eq _ 68 _ (p_bk 68 0), bk_68_0, pb_68_0, ↓P_run_eq _ 68 _ (p_bk 68 2), bk_68_2, pb_68_2, pw_aload_n0, pw_aloadN_n0, pw_getI, pw_cge, pw_getR, pw_iald, pw_iload_n1, pw_cne, pw_iconst, il_1, pw_goto, pw_ret1, kd_34, kd_35, rf_35_0, rf_35_1, n_0, n_1, nn_lt, nn_nlt, nn_le, nn_nle, nn_ne, nn_sub, nn_mul, nI_add, nn_neg, nm_eq, mn_eq, mm_eq, mn_lt, nm_lt, mn_le, nm_le, nn_sub0, nn_of, implies_true, nn_c, nn_in, nn_div, nat_rem, Nat.reduceMul, Nat.reduceSub, Nat.reduceDiv, Nat.reduceMod, pf_at, pf_ne, mk_s, mk_1, Classical.not_not, b2i_T, b2i_F, false_imp_iff, true_imp_iff, false_and, and_false, p_sw, Int.reduceAdd, Int.zero_add, Option.some.injEq, Value.int.injEq, Value.long.injEq, Value.ref.injEq, exists_eq_left', mk_I, mk_L, mk_wI, mk_wL, rf_s, rf_n, true_and, and_true, and_self, or_true, true_or, or_false, false_or, not_true_eq_false, not_false_eq_true, Option.toList_some, Option.toList_none, List.cons_append, List.nil_append, List.map_nil, List.map_cons, List.sum_nil, List.sum_cons, cat_i, cat_l, cat_r, cat_n, Nat.reduceLeDiff, Nat.reduceAdd, Nat.reduceEqDiff, Nat.zero_le, p_ent, p_u_ne, p_u_at, reduceIte, if_true, if_false, r1, va_rs, e2, e4, b1]
  · rw [decide_eq_false c0, bN_f]
    by_cases s1 : tS B T j < T
    · obtain ⟨b1, b2⟩ := hB _ s1
      have s2 : ¬ B (tS B T j) = c := fun h => c0 (sg.mp ⟨s1, h⟩)
      generalize B (tS B T j) = b at *
      generalize tS B T j = p at *
      simp -implicitDefEqProofs (disch := first | omega | decide) only [P_m, ↓P_run_eq _ 68 _ (p_bk 68 0), bk_68_0, pb_68_0, ↓P_run_eq _ 68 _ (p_bk 68 1), bk_68_1, pb_68_1, ↓P_run_eq _ 68 _ (p_bk 68 2), bk_68_2, pb_68_2, pw_aload_n0, pw_aloadN_n0, pw_getI, pw_cge, pw_getR, pw_iald, pw_iload_n1, pw_cne, pw_iconst, il_1, pw_goto, il_0, pw_nop, pw_ret1, kd_34, kd_35, rf_35_0, rf_35_1, n_0, n_1, nn_lt, nn_nlt, nn_le, nn_nle, nn_ne, nn_sub, nn_mul, nI_add, nn_neg, nm_eq, mn_eq, mm_eq, mn_lt, nm_lt, mn_le, nm_le, nn_sub0, nn_of, implies_true, nn_c, nn_in, nn_div, nat_rem, Nat.reduceMul, Nat.reduceSub, Nat.reduceDiv, Nat.reduceMod, pf_at, pf_ne, mk_s, mk_1, Classical.not_not, b2i_T, b2i_F, false_imp_iff, true_imp_iff, false_and, and_false, p_sw, Int.reduceAdd, Int.zero_add, Option.some.injEq, Value.int.injEq, Value.long.injEq, Value.ref.injEq, exists_eq_left', mk_I, mk_L, mk_wI, mk_wL, rf_s, rf_n, true_and, and_true, and_self, or_true, true_or, or_false, false_or, not_true_eq_false, not_false_eq_true, Option.toList_some, Option.toList_none, List.cons_append, List.nil_append, List.map_nil, List.map_cons, List.sum_nil, List.sum_cons, cat_i, cat_l, cat_r, cat_n, Nat.reduceLeDiff, Nat.reduceAdd, Nat.reduceEqDiff, Nat.zero_le, p_ent, p_u_ne, p_u_at, reduceIte, if_true, if_false, r1, va_rs, e2, e4, b1]
    · generalize tS B T j = p at *
      simp -implicitDefEqProofs (disch := first | omega | decide) only [P_m, ↓P_run_eq _ 68 _ (p_bk 68 0), bk_68_0, pb_68_0, ↓P_run_eq _ 68 _ (p_bk 68 1), bk_68_1, pb_68_1, ↓P_run_eq _ 68 _ (p_bk 68 2), bk_68_2, pb_68_2, pw_aload_n0, pw_aloadN_n0, pw_getI, pw_cge, pw_getR, pw_iald, pw_iload_n1, pw_cne, pw_iconst, il_1, pw_goto, il_0, pw_nop, pw_ret1, kd_34, kd_35, rf_35_0, rf_35_1, n_0, n_1, nn_lt, nn_nlt, nn_le, nn_nle, nn_ne, nn_sub, nn_mul, nI_add, nn_neg, nm_eq, mn_eq, mm_eq, mn_lt, nm_lt, mn_le, nm_le, nn_sub0, nn_of, implies_true, nn_c, nn_in, nn_div, nat_rem, Nat.reduceMul, Nat.reduceSub, Nat.reduceDiv, Nat.reduceMod, pf_at, pf_ne, mk_s, mk_1, Classical.not_not, b2i_T, b2i_F, false_imp_iff, true_imp_iff, false_and, and_false, p_sw, Int.reduceAdd, Int.zero_add, Option.some.injEq, Value.int.injEq, Value.long.injEq, Value.ref.injEq, exists_eq_left', mk_I, mk_L, mk_wI, mk_wL, rf_s, rf_n, true_and, and_true, and_self, or_true, true_or, or_false, false_or, not_true_eq_false, not_false_eq_true, Option.toList_some, Option.toList_none, List.cons_append, List.nil_append, List.map_nil, List.map_cons, List.sum_nil, List.sum_cons, cat_i, cat_l, cat_r, cat_n, Nat.reduceLeDiff, Nat.reduceAdd, Nat.reduceEqDiff, Nat.zero_le, p_ent, p_u_ne, p_u_at, reduceIte, if_true, if_false, r1, va_rs, e2, e4]
theorem pl_69 {j c : Nat} (h0 : cT0 B T I R) (hk : cTk B T I j) (hc : c < 128) (h1 : isSm c = false) (h2 : isDg c = false) : P_m (d + 1) 69 [.ref 35, .int (nI c)] (p_mk Ls I L R X) (fun v h' => v = some (.int (nI (bN (decide (tC B T j = 100 + c))))) ∧ h' = p_mk Ls (if tC B T j = 100 + c then stp B T I (j + 1) else I) L R X) := by
  have s72 := pl_step (d := d) (Ls := Ls) (L := L) (X := X) h0 hk
  obtain ⟨r1, e2, hT, hB⟩ := h0
  obtain ⟨e4, e5⟩ := hk
  have sg := sg_tok (B := B) (T := T) (i := j) h1 h2
  have tb := tS_b (B := B) (T := T) j
  by_cases c0 : tC B T j = 100 + c
  · obtain ⟨s1, s2⟩ := sg.mpr c0
    obtain ⟨b1, b2⟩ := hB _ s1
    rw [s2] at b1
    rw [decide_eq_true c0, bN_t, if_pos c0]
    generalize stp B T I (j + 1) = J at *
    generalize tS B T j = p at *
    simp -implicitDefEqProofs (disch := first | omega | decide) only [P_m, ↓P_run_eq _ 69 _ (p_bk 69 0), bk_69_0, pb_69_0, ↓P_run_eq _ 69 _ (p_bk 69 2), bk_69_2, pb_69_2, pw_aload_n0, pw_aloadN_n0, pw_getI, pw_cge, pw_getR, pw_iald, pw_iload_n1, pw_ceq, pw_nop, pw_iv1, pw_iconst, il_1, pw_ret1, kd_34, kd_35, rf_35_0, rf_35_1, n_0, n_1, nn_lt, nn_nlt, nn_le, nn_nle, nn_ne, nn_sub, nn_mul, nI_add, nn_neg, nm_eq, mn_eq, mm_eq, mn_lt, nm_lt, mn_le, nm_le, nn_sub0, nn_of, implies_true, nn_c, nn_in, nn_div, nat_rem, Nat.reduceMul, Nat.reduceSub, Nat.reduceDiv, Nat.reduceMod, pf_at, pf_ne, mk_s, mk_1, Classical.not_not, b2i_T, b2i_F, false_imp_iff, true_imp_iff, false_and, and_false, p_sw, Int.reduceAdd, Int.zero_add, Option.some.injEq, Value.int.injEq, Value.long.injEq, Value.ref.injEq, exists_eq_left', mk_I, mk_L, mk_wI, mk_wL, rf_s, rf_n, true_and, and_true, and_self, or_true, true_or, or_false, false_or, not_true_eq_false, not_false_eq_true, Option.toList_some, Option.toList_none, List.cons_append, List.nil_append, List.map_nil, List.map_cons, List.sum_nil, List.sum_cons, cat_i, cat_l, cat_r, cat_n, Nat.reduceLeDiff, Nat.reduceAdd, Nat.reduceEqDiff, Nat.zero_le, p_ent, p_u_ne, p_u_at, reduceIte, if_true, if_false, r1, va_rs, e2, e4, b1, P_ce s72]
  · rw [decide_eq_false c0, bN_f, if_neg c0]
    by_cases s1 : tS B T j < T
    · obtain ⟨b1, b2⟩ := hB _ s1
      have s2 : ¬ B (tS B T j) = c := fun h => c0 (sg.mp ⟨s1, h⟩)
      clear s72
      generalize B (tS B T j) = b at *
      generalize tS B T j = p at *
      simp -implicitDefEqProofs (disch := first | omega | decide) only [P_m, ↓P_run_eq _ 69 _ (p_bk 69 0), bk_69_0, pb_69_0, ↓P_run_eq _ 69 _ (p_bk 69 1), bk_69_1, pb_69_1, pw_aload_n0, pw_aloadN_n0, pw_getI, pw_cge, pw_getR, pw_iald, pw_iload_n1, pw_ceq, pw_nop, pw_iconst, il_0, pw_ret1, kd_34, kd_35, rf_35_0, rf_35_1, n_0, n_1, nn_lt, nn_nlt, nn_le, nn_nle, nn_ne, nn_sub, nn_mul, nI_add, nn_neg, nm_eq, mn_eq, mm_eq, mn_lt, nm_lt, mn_le, nm_le, nn_sub0, nn_of, implies_true, nn_c, nn_in, nn_div, nat_rem, Nat.reduceMul, Nat.reduceSub, Nat.reduceDiv, Nat.reduceMod, pf_at, pf_ne, mk_s, mk_1, Classical.not_not, b2i_T, b2i_F, false_imp_iff, true_imp_iff, false_and, and_false, p_sw, Int.reduceAdd, Int.zero_add, Option.some.injEq, Value.int.injEq, Value.long.injEq, Value.ref.injEq, exists_eq_left', mk_I, mk_L, mk_wI, mk_wL, rf_s, rf_n, true_and, and_true, and_self, or_true, true_or, or_false, false_or, not_true_eq_false, not_false_eq_true, Option.toList_some, Option.toList_none, List.cons_append, List.nil_append, List.map_nil, List.map_cons, List.sum_nil, List.sum_cons, cat_i, cat_l, cat_r, cat_n, Nat.reduceLeDiff, Nat.reduceAdd, Nat.reduceEqDiff, Nat.zero_le, p_ent, p_u_ne, p_u_at, reduceIte, if_true, if_false, r1, va_rs, e2, e4, b1]
    · clear s72
      generalize tS B T j = p at *
      simp -implicitDefEqProofs (disch := first | omega | decide) only [P_m, ↓P_run_eq _ 69 _ (p_bk 69 0), bk_69_0, pb_69_0, ↓P_run_eq _ 69 _ (p_bk 69 1), bk_69_1, pb_69_1, pw_aload_n0, pw_aloadN_n0, pw_getI, pw_cge, pw_getR, pw_iald, pw_iload_n1, pw_ceq, pw_nop, pw_iconst, il_0, pw_ret1, kd_34, kd_35, rf_35_0, rf_35_1, n_0, n_1, nn_lt, nn_nlt, nn_le, nn_nle, nn_ne, nn_sub, nn_mul, nI_add, nn_neg, nm_eq, mn_eq, mm_eq, mn_lt, nm_lt, mn_le, nm_le, nn_sub0, nn_of, implies_true, nn_c, nn_in, nn_div, nat_rem, Nat.reduceMul, Nat.reduceSub, Nat.reduceDiv, Nat.reduceMod, pf_at, pf_ne, mk_s, mk_1, Classical.not_not, b2i_T, b2i_F, false_imp_iff, true_imp_iff, false_and, and_false, p_sw, Int.reduceAdd, Int.zero_add, Option.some.injEq, Value.int.injEq, Value.long.injEq, Value.ref.injEq, exists_eq_left', mk_I, mk_L, mk_wI, mk_wL, rf_s, rf_n, true_and, and_true, and_self, or_true, true_or, or_false, false_or, not_true_eq_false, not_false_eq_true, Option.toList_some, Option.toList_none, List.cons_append, List.nil_append, List.map_nil, List.map_cons, List.sum_nil, List.sum_cons, cat_i, cat_l, cat_r, cat_n, Nat.reduceLeDiff, Nat.reduceAdd, Nat.reduceEqDiff, Nat.zero_le, p_ent, p_u_ne, p_u_at, reduceIte, if_true, if_false, r1, va_rs, e2, e4]
/-- which word it is, by the token -/
theorem pl_71t {j s : Nat} (hS : invS I) (h0 : cT0 B T I R) (hk : cTk B T I j) (hs : s < 9) : P_m (d + 5) 71 [.ref 35, .ref (12 + s)] (p_mk Ls I L R X) (fun v h' => v = some (.int (pnI (pln (12 + s) (tC B T j)))) ∧ h' = p_mk Ls I L R X) := by
  obtain ⟨r1, e2, hT, hB⟩ := h0
  obtain ⟨e4, e5⟩ := hk
  have hb := tS_b (B := B) (T := T) j
  obtain ⟨t1, t2, t3⟩ := te_b (B := B) hb
  rw [← pl_tok hs]
  have so : strO Ls (12 + s) (sOf (12 + s)) I L R X := by
    have : s = 0 ∨ s = 1 ∨ s = 2 ∨ s = 3 ∨ s = 4 ∨ s = 5 ∨ s = 6 ∨ s = 7 ∨ s = 8 := by omega
    rcases this with rfl | rfl | rfl | rfl | rfl | rfl | rfl | rfl | rfl
    · exact so_12 hS
    · exact so_13 hS
    · exact so_14 hS
    · exact so_15 hS
    · exact so_16 hS
    · exact so_17 hS
    · exact so_18 hS
    · exact so_19 hS
    · exact so_20 hS
  have sl : ∀ s, s < 9 → (sOf (12 + s)).length ≤ 100 := by decide +kernel
  exact pl_71 so (sl s hs) (ws_jn s hs).2.2.2.2 t1 t2 hT r1 e4 e5 hB
/-- whether it is a word that stands alone -/
theorem pl_70 {j s w : Nat} (hS : invS I) (h0 : cT0 B T I R) (hk : cTk B T I j) (hs : s < 9) (hw : ∀ c, pln (12 + s) c = if c = w then some 0 else none) : P_m (d + 6) 70 [.ref 35, .ref (12 + s)] (p_mk Ls I L R X) (fun v h' => v = some (.int (nI (bN (decide (tC B T j = w))))) ∧ h' = p_mk Ls (if tC B T j = w then stp B T I (j + 1) else I) L R X) := by
  have s71 := pl_71t (d := d) (Ls := Ls) (L := L) (X := X) hS h0 hk hs
  have s72 := pl_step (d := d + 5) (Ls := Ls) (L := L) (X := X) h0 hk
  rw [hw] at s71
  by_cases c : tC B T j = w
  · rw [if_pos c] at s71
    rw [decide_eq_true c, bN_t, if_pos c]
    replace s71 : P_m (d + 5) 71 [.ref 35, .ref (12 + s)] (p_mk Ls I L R X) (fun v h' => v = some (.int (nI 0)) ∧ h' = p_mk Ls I L R X) := s71
    generalize stp B T I (j + 1) = J at *
    simp -implicitDefEqProofs (disch := first | omega | decide) only [P_m, ↓P_run_eq _ 70 _ (p_bk 70 0), bk_70_0, pb_70_0, ↓P_run_eq _ 70 _ (p_bk 70 1), bk_70_1, pb_70_1, pw_aload_n0, pw_aloadN_n0, pw_aload_n1, pw_aloadN_n1, pw_iv2, pw_iconst, il_m1, pw_cne, il_0, pw_ret1, pw_iv1, il_1, kd_35, rf_35_0, rf_35_1, n_0, n_1, nn_lt, nn_nlt, nn_le, nn_nle, nn_ne, nn_sub, nn_mul, nI_add, nn_neg, nm_eq, mn_eq, mm_eq, mn_lt, nm_lt, mn_le, nm_le, nn_sub0, nn_of, implies_true, nn_c, nn_in, nn_div, nat_rem, Nat.reduceMul, Nat.reduceSub, Nat.reduceDiv, Nat.reduceMod, pf_at, pf_ne, mk_s, mk_1, Classical.not_not, b2i_T, b2i_F, false_imp_iff, true_imp_iff, false_and, and_false, p_sw, Int.reduceAdd, Int.zero_add, Option.some.injEq, Value.int.injEq, Value.long.injEq, Value.ref.injEq, exists_eq_left', mk_I, mk_L, mk_wI, mk_wL, rf_s, rf_n, true_and, and_true, and_self, or_true, true_or, or_false, false_or, not_true_eq_false, not_false_eq_true, Option.toList_some, Option.toList_none, List.cons_append, List.nil_append, List.map_nil, List.map_cons, List.sum_nil, List.sum_cons, cat_i, cat_l, cat_r, cat_n, Nat.reduceLeDiff, Nat.reduceAdd, Nat.reduceEqDiff, Nat.zero_le, p_ent, p_u_ne, p_u_at, reduceIte, if_true, if_false, P_ce s71, P_ce s72]
  · rw [if_neg c] at s71
    rw [decide_eq_false c, bN_f, if_neg c]
    replace s71 : P_m (d + 5) 71 [.ref 35, .ref (12 + s)] (p_mk Ls I L R X) (fun v h' => v = some (.int (mI 1)) ∧ h' = p_mk Ls I L R X) := s71
    clear s72
    simp -implicitDefEqProofs (disch := first | omega | decide) only [P_m, ↓P_run_eq _ 70 _ (p_bk 70 0), bk_70_0, pb_70_0, pw_aload_n0, pw_aloadN_n0, pw_aload_n1, pw_aloadN_n1, pw_iv2, pw_iconst, il_m1, pw_cne, il_0, pw_ret1, kd_35, rf_35_0, rf_35_1, n_0, n_1, nn_lt, nn_nlt, nn_le, nn_nle, nn_ne, nn_sub, nn_mul, nI_add, nn_neg, nm_eq, mn_eq, mm_eq, mn_lt, nm_lt, mn_le, nm_le, nn_sub0, nn_of, implies_true, nn_c, nn_in, nn_div, nat_rem, Nat.reduceMul, Nat.reduceSub, Nat.reduceDiv, Nat.reduceMod, pf_at, pf_ne, mk_s, mk_1, Classical.not_not, b2i_T, b2i_F, false_imp_iff, true_imp_iff, false_and, and_false, p_sw, Int.reduceAdd, Int.zero_add, Option.some.injEq, Value.int.injEq, Value.long.injEq, Value.ref.injEq, exists_eq_left', mk_I, mk_L, mk_wI, mk_wL, rf_s, rf_n, true_and, and_true, and_self, or_true, true_or, or_false, false_or, not_true_eq_false, not_false_eq_true, Option.toList_some, Option.toList_none, List.cons_append, List.nil_append, List.map_nil, List.map_cons, List.sum_nil, List.sum_cons, cat_i, cat_l, cat_r, cat_n, Nat.reduceLeDiff, Nat.reduceAdd, Nat.reduceEqDiff, Nat.zero_le, p_ent, p_u_ne, p_u_at, reduceIte, if_true, if_false, P_ce s71]
end SR
