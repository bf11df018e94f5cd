section LY
variable {d Ls : Nat} {I : Nat → Nat → Int32} {L : Nat → Nat → Int64} {R : Nat → Nat → Option Nat} {X : List pKd} {h : pHp} {B : Nat → Nat} {T N : Nat}
/-- a law's tokens, kept -/
def lyK (B : Nat → Nat) (T t : Nat) (K K' : Nat → Int32) (n : Nat) : Prop := (∀ k, k < n → K' (64 + 400 * t + k) = nI (tC B T k) ∧ K' (2864 + 400 * t + k) = nI (tV B T k)) ∧ ∀ j, ¬ (64 + 400 * t ≤ j ∧ j < 64 + 400 * t + n) → ¬ (2864 + 400 * t ≤ j ∧ j < 2864 + 400 * t + n) → K' j = K j
theorem pl_180 {t : Nat} (ht : t < 6) (N4 : N ≤ 400) (e18 : I 123 18 = nI N) (hR : tkR B T I N) : ∃ J, ((∀ a, ¬ a = 125 → J a = I a) ∧ lyK B T t (upd (I 125) (57 + t) (nI N)) (J 125) N) ∧ P_m d 180 [.ref 123, .int (nI t)] (p_mk Ls I L R X) (fun v h' => v = none ∧ h' = p_mk Ls J L R X) := by
  have loop : ∀ k, k ≤ N → ∀ J, (∀ a, ¬ a = 125 → J a = I a) → lyK B T t (upd (I 125) (57 + t) (nI N)) (J 125) k → P_run d 180 (p_bk 180 1) 0 0 [.ref 123, .int (nI t), .int (nI k)] [] (p_mk Ls J L R X) (fun v h' => v = none ∧ ∃ J, ((∀ a, ¬ a = 125 → J a = I a) ∧ lyK B T t (upd (I 125) (57 + t) (nI N)) (J 125) N) ∧ h' = p_mk Ls J L R X) := by
    refine down_ind ?_ ?_
    · intro J f1 f2
      have e : J 123 18 = nI N := by rw [f1 123 (by omega)]; exact e18
      rw [P_run_eq, bk_180_1, pb_180_1]; simp -implicitDefEqProofs (disch := first | omega | decide) only [P_m, ↓P_run_eq _ 180 _ (p_bk 180 2), bk_180_2, pb_180_2, pw_iload_n2, pw_aload_n0, pw_aloadN_n0, pw_getI, pw_cge, pw_getR, pw_bipush, bl_64, pw_sipush, sl_400, pw_iload_n1, pw_imul, pw_iadd, pw_iald, pw_iast, sl_2864, pw_iinc_2, il_1, po_i2, po_r2, po_n2, po_u2, pw_goto, pw_vret, kd_123, rf_123_1, rf_123_2, rf_123_3, rf_123_4, rf_123_5, rf_123_7, rf_123_11, rf_123_12, rf_123_15, rf_123_16, rf_123_17, rf_123_26, rf_123_29, rf_123_30, rf_123_32, rf_123_34, rf_123_35, rf_123_45, n_0, n_1, n_64, n_400, n_2864, nn_lt, nn_nlt, nn_le, nn_nle, nn_ne, nn_sub, nn_mul, nI_add, nn_neg, nm_eq, mn_eq, mm_eq, mn_lt, nm_lt, mn_le, nm_le, nn_sub0, nn_of, implies_true, nn_c, nn_in, nn_div, nat_rem, Nat.reduceMul, Nat.reduceSub, Nat.reduceDiv, Nat.reduceMod, pf_at, pf_ne, mk_s, mk_1, Classical.not_not, b2i_T, b2i_F, false_imp_iff, true_imp_iff, false_and, and_false, p_sw, Int.reduceAdd, Int.zero_add, Option.some.injEq, Value.int.injEq, Value.long.injEq, Value.ref.injEq, exists_eq_left', mk_I, mk_L, mk_wI, mk_wL, rf_s, rf_n, true_and, and_true, and_self, or_true, true_or, or_false, false_or, not_true_eq_false, not_false_eq_true, Option.toList_some, Option.toList_none, List.cons_append, List.nil_append, List.map_nil, List.map_cons, List.sum_nil, List.sum_cons, cat_i, cat_l, cat_r, cat_n, Nat.reduceLeDiff, Nat.reduceAdd, Nat.reduceEqDiff, Nat.zero_le, p_ent, p_u_ne, p_u_at, reduceIte, if_true, if_false, e]
      exact ⟨J, ⟨f1, f2⟩, rfl⟩
    · intro k hk nx J f1 f2
      have e : J 123 18 = nI N := by rw [f1 123 (by omega)]; exact e18
      obtain ⟨t1, t2, -⟩ := hR k hk
      have a1 : J 132 k = nI (tC B T k) := by rw [f1 132 (by omega)]; exact t1
      have a2 : p_u J 125 (64 + 400 * t + k) (nI (tC B T k)) 133 k = nI (tV B T k) := by rw [p_u_ne (by omega), f1 133 (by omega)]; exact t2
      have nx := nx (p_u (p_u J 125 (64 + 400 * t + k) (nI (tC B T k))) 125 (2864 + 400 * t + k) (nI (tV B T k))) (fun a ha => by rw [p_u_ne ha, p_u_ne ha]; exact f1 a ha) ⟨fun j hj => by
        rw [p_u_at, p_u_at, p_u_at, p_u_at]
        by_cases e : j = k
        · subst e
          rw [if_neg (by omega), if_pos rfl, if_pos rfl]; exact ⟨rfl, rfl⟩
        · rw [if_neg (by omega), if_neg (by omega), if_neg (by omega), if_neg (by omega)]; exact f2.1 j (by omega), fun j h1 h2 => by
        rw [p_u_at, if_neg (by omega), p_u_at, if_neg (by omega)]; exact f2.2 j (by omega) (by omega)⟩
      have x1 : 64 + t * 400 + k = 64 + 400 * t + k := by omega
      have x2 : 2864 + t * 400 + k = 2864 + 400 * t + k := by omega
      generalize tC B T k = cc at *
      generalize tV B T k = vv at *
      rw [P_run_eq, bk_180_1, pb_180_1]; simp -implicitDefEqProofs (disch := first | omega | decide) only [P_m, pw_iload_n2, pw_aload_n0, pw_aloadN_n0, pw_getI, pw_cge, pw_getR, pw_bipush, bl_64, pw_sipush, sl_400, pw_iload_n1, pw_imul, pw_iadd, pw_iald, pw_iast, sl_2864, pw_iinc_2, il_1, po_i2, po_r2, po_n2, po_u2, pw_goto, kd_123, rf_123_1, rf_123_2, rf_123_3, rf_123_4, rf_123_5, rf_123_7, rf_123_11, rf_123_12, rf_123_15, rf_123_16, rf_123_17, rf_123_26, rf_123_29, rf_123_30, rf_123_32, rf_123_34, rf_123_35, rf_123_45, kd_125, kd_132, kd_133, n_0, n_1, n_64, n_400, n_2864, nn_lt, nn_nlt, nn_le, nn_nle, nn_ne, nn_sub, nn_mul, nI_add, nn_neg, nm_eq, mn_eq, mm_eq, mn_lt, nm_lt, mn_le, nm_le, nn_sub0, nn_of, implies_true, nn_c, nn_in, nn_div, nat_rem, Nat.reduceMul, Nat.reduceSub, Nat.reduceDiv, Nat.reduceMod, pf_at, pf_ne, mk_s, mk_1, Classical.not_not, b2i_T, b2i_F, false_imp_iff, true_imp_iff, false_and, and_false, p_sw, Int.reduceAdd, Int.zero_add, Option.some.injEq, Value.int.injEq, Value.long.injEq, Value.ref.injEq, exists_eq_left', mk_I, mk_L, mk_wI, mk_wL, rf_s, rf_n, true_and, and_true, and_self, or_true, true_or, or_false, false_or, not_true_eq_false, not_false_eq_true, Option.toList_some, Option.toList_none, List.cons_append, List.nil_append, List.map_nil, List.map_cons, List.sum_nil, List.sum_cons, cat_i, cat_l, cat_r, cat_n, Nat.reduceLeDiff, Nat.reduceAdd, Nat.reduceEqDiff, Nat.zero_le, p_ent, p_u_ne, p_u_at, reduceIte, if_true, if_false, e, a1, a2, x1, x2]
      exact nx
  have st := loop 0 (Nat.zero_le N) (p_u I 125 (57 + t) (nI N)) (fun a ha => p_u_ne ha) ⟨fun j hj => absurd hj (Nat.not_lt_zero j), fun j _ _ => by rw [p_u_at]; rfl⟩
  have all : P_m d 180 [.ref 123, .int (nI t)] (p_mk Ls I L R X) (fun v h' => v = none ∧ ∃ J, ((∀ a, ¬ a = 125 → J a = I a) ∧ lyK B T t (upd (I 125) (57 + t) (nI N)) (J 125) N) ∧ h' = p_mk Ls J L R X) := by
    simp -implicitDefEqProofs (disch := first | omega | decide) only [P_m, ↓P_run_eq _ 180 _ (p_bk 180 0), bk_180_0, pb_180_0, pw_aload_n0, pw_aloadN_n0, pw_getR, pw_bipush, bl_57, pw_iload_n1, pw_iadd, pw_getI, pw_iast, pw_iconst, il_0, pw_istore_n2, ps_2, pe_2, po_i2, po_r2, po_n2, po_u2, pw_nop, kd_123, rf_123_1, rf_123_2, rf_123_3, rf_123_4, rf_123_5, rf_123_7, rf_123_11, rf_123_12, rf_123_15, rf_123_16, rf_123_17, rf_123_26, rf_123_29, rf_123_30, rf_123_32, rf_123_34, rf_123_35, rf_123_45, kd_125, n_0, n_1, n_57, nn_lt, nn_nlt, nn_le, nn_nle, nn_ne, nn_sub, nn_mul, nI_add, nn_neg, nm_eq, mn_eq, mm_eq, mn_lt, nm_lt, mn_le, nm_le, nn_sub0, nn_of, implies_true, nn_c, nn_in, nn_div, nat_rem, Nat.reduceMul, Nat.reduceSub, Nat.reduceDiv, Nat.reduceMod, pf_at, pf_ne, mk_s, mk_1, Classical.not_not, b2i_T, b2i_F, false_imp_iff, true_imp_iff, false_and, and_false, p_sw, Int.reduceAdd, Int.zero_add, Option.some.injEq, Value.int.injEq, Value.long.injEq, Value.ref.injEq, exists_eq_left', mk_I, mk_L, mk_wI, mk_wL, rf_s, rf_n, true_and, and_true, and_self, or_true, true_or, or_false, false_or, not_true_eq_false, not_false_eq_true, Option.toList_some, Option.toList_none, List.cons_append, List.nil_append, List.map_nil, List.map_cons, List.sum_nil, List.sum_cons, cat_i, cat_l, cat_r, cat_n, Nat.reduceLeDiff, Nat.reduceAdd, Nat.reduceEqDiff, Nat.zero_le, p_ent, p_u_ne, p_u_at, reduceIte, if_true, if_false, e18]
    exact st
  obtain ⟨v, g', ⟨rfl, J', f1, rfl⟩, s⟩ := P_mex all
  exact ⟨J', f1, s⟩
theorem mk_new {q : pKd} : p_new (p_mk Ls I L R X) q = p_mk Ls (p_fn I (142 + X.length) (fun _ => 0)) (p_fn L (142 + X.length) (fun _ => 0)) (p_fn R (142 + X.length) (fun _ => none)) (X ++ [q]) := by
  have hl : (p_SH Ls ++ X).length = 142 + X.length := by rw [List.length_append, p_SH_len]
  have ho : p_fn (p_ovl R) (142 + X.length) (fun _ => none) = p_ovl (p_fn R (142 + X.length) (fun _ => none)) := by
    funext a k
    by_cases e : a = 142 + X.length
    · subst e
      have := ovl_hi (Ls := Ls) (I := I) (L := L) (R := p_fn R (142 + X.length) (fun _ => none)) (X := X) (t := 142 + X.length) (k := k) (by omega)
      rw [pf_at] at this ⊢
      exact this.symm
    · rw [pf_ne e]
      unfold p_ovl
      rw [pf_ne e]
  unfold p_new p_mk
  show (p_fn I (p_SH Ls ++ X).length _, p_fn L (p_SH Ls ++ X).length _, p_fn (p_ovl R) (p_SH Ls ++ X).length _, (p_SH Ls ++ X) ++ [q]) = _
  rw [hl, ho, List.append_assoc]
theorem mk_len : (p_mk Ls I L R X).2.2.2.length = 142 + X.length := by
  show (p_SH Ls ++ X).length = _
  rw [List.length_append, p_SH_len]
end LY
