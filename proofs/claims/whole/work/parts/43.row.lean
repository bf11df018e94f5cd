theorem puf_4 {f : Nat → Nat → Int32} {a c j k : Nat} {v w : Int32} {A : Nat → Int32} (h : ¬ a = c) : p_u (p_u (p_fn f a A) c k v) a j w = p_u (p_fn f a (upd A j w)) c k v := by
  funext b
  by_cases e : b = a
  · subst e; rw [p_u_self, p_u_ne h, p_u_ne h, pf_at, pf_at]
  · rw [p_u_ne e]
    by_cases e2 : b = c
    · subst e2; rw [p_u_self, p_u_self, pf_ne e, pf_ne e]
    · rw [p_u_ne e2, p_u_ne e2, pf_ne e, pf_ne e]
theorem pu_pu {α : Type} {f : Nat → Nat → α} {a k : Nat} {v w : α} : p_u (p_u f a k v) a k w = p_u f a k w := by
  funext b j
  by_cases e : b = a
  · subst e; rw [p_u_at, p_u_at, p_u_at]; split
    · rfl
    · rfl
  · rw [p_u_ne e, p_u_ne e, p_u_ne e]
section RW
variable {d Ls : Nat} {I J : Nat → Nat → Int32} {L : Nat → Nat → Int64} {R Q : Nat → Nat → Option Nat} {X : List pKd} {h : pHp}
theorem sp_88 {n q0 : Nat} {B : Nat → Nat} (hq : q0 ≤ 8) (h0 : 0 < n) (hn : n ≤ 400) (hB : ∀ k, B k ≤ 255) (e0 : I 71 2 = nI q0) (e1 : I 33 1 = nI n) (e2 : ∀ k, k < n → I 34 k = nI (B k)) (hR : hutR I 71 (I 125)) : P_m (d + 2) 88 [.ref 32] (p_mk Ls I L R X) (fun v h' => v = some (.int (nI ((rwW B q0 (n / 4)).2.1 - q0))) ∧ h' = p_mk Ls (p_u (p_u (p_u (p_u (wC 71 I (rwW B q0 (n / 4)).1) 33 1 (nI 0)) 32 17 (nI ((rwW B q0 (n / 4)).2.2 + (if n % 4 = 0 then 0 else 1)))) 80 2 (nI 0)) 32 14 (nI 0)) L R X) := by
  have e53 : I 125 53 = nI q0 := (hR 53 (by omega)).symm.trans e0
  have st : ∀ i, wC 71 I (rwW B q0 i).1 71 2 = nI (rwW B q0 i).2.1 ∧ (∀ b, b < 71 ∨ 78 < b → wC 71 I (rwW B q0 i).1 b = I b) := fun i => by
    obtain ⟨o1, o2, o3, o4, o5⟩ := rw_ok (B := B) hq hB i
    exact ⟨(updL_hR _ o1 hR 53 (by omega)).trans (o5 _ e53).1, fun b hb => wC_fr _ _ o1 (by omega)⟩
  have fin : ∀ (x : Nat) (hd : Nat), n ≤ x → x ≤ 404 → P_run (d + 2) 88 (p_bk 88 2) 0 0 [.ref 32, .int (nI q0), .int (nI hd), .int (nI x)] [] (p_mk Ls (wC 71 I (rwW B q0 (n / 4)).1) L R X) (fun v h' => v = some (.int (nI ((rwW B q0 (n / 4)).2.1 - q0))) ∧ h' = p_mk Ls (p_u (p_u (p_u (p_u (wC 71 I (rwW B q0 (n / 4)).1) 33 1 (nI 0)) 32 17 (nI hd)) 80 2 (nI 0)) 32 14 (nI 0)) L R X) := by
    intro x hd hx hx2
    obtain ⟨o1, o2, o3, o4, o5⟩ := rw_ok (B := B) hq hB (n / 4)
    obtain ⟨s1, s2⟩ := st (n / 4)
    have s3 : wC 71 I (rwW B q0 (n / 4)).1 33 1 = nI n := by rw [s2 33 (by omega)]; exact e1
    rw [P_run_eq, bk_88_2, pb_88_2]; simp -implicitDefEqProofs (disch := first | omega | decide) only [P_m, ↓P_run_eq _ 88 _ (p_bk 88 4), bk_88_4, pb_88_4, pw_iload_n3, pw_aload_n0, pw_aloadN_n0, pw_getR, pw_getI, pw_cge, pw_iv2, pw_zne, pw_iinc_2, il_1, po_i2, po_r2, po_n2, po_u2, pw_nop, pw_iconst, il_0, pw_putI, pw_iload_n2, pw_iv1, pw_iload_n1, pw_isub, pw_ret0, kd_32, rf_32_0, rf_32_1, rf_32_2, rf_32_3, rf_32_4, rf_32_5, rf_32_6, rf_32_7, rf_32_8, rf_32_9, rf_32_11, rf_32_12, rf_32_13, kd_33, rf_33_0, kd_71, rf_71_1, rf_71_3, rf_71_4, rf_71_5, rf_71_6, rf_71_11, rf_71_12, rf_71_14, kd_80, rf_80_0, n_0, n_1, nn_lt, nn_nlt, nn_le, nn_nle, nn_ne, nn_sub, nn_mul, nI_add, nn_neg, nm_eq, mn_eq, mm_eq, mn_lt, nm_lt, mn_le, nm_le, nn_sub0, nn_of, implies_true, nn_c, nn_in, nn_div, nat_rem, Nat.reduceMul, Nat.reduceSub, Nat.reduceDiv, Nat.reduceMod, pf_at, pf_ne, mk_s, mk_1, Classical.not_not, b2i_T, b2i_F, false_imp_iff, true_imp_iff, false_and, and_false, p_sw, Int.reduceAdd, Int.zero_add, Option.some.injEq, Value.int.injEq, Value.long.injEq, Value.ref.injEq, exists_eq_left', mk_I, mk_L, mk_wI, mk_wL, rf_s, rf_n, true_and, and_true, and_self, or_true, true_or, or_false, false_or, not_true_eq_false, not_false_eq_true, Option.toList_some, Option.toList_none, List.cons_append, List.nil_append, List.map_nil, List.map_cons, List.sum_nil, List.sum_cons, cat_i, cat_l, cat_r, cat_n, Nat.reduceLeDiff, Nat.reduceAdd, Nat.reduceEqDiff, Nat.zero_le, p_ent, p_u_ne, p_u_at, reduceIte, if_true, if_false, s1, s3, P_ce (sp_53), P_ce (sp_117 _), n_0]
  have loop : ∀ i, i ≤ n / 4 → P_run (d + 2) 88 (p_bk 88 2) 0 0 [.ref 32, .int (nI q0), .int (nI (rwW B q0 i).2.2), .int (nI (4 * i))] [] (p_mk Ls (wC 71 I (rwW B q0 i).1) L R X) (fun v h' => v = some (.int (nI ((rwW B q0 (n / 4)).2.1 - q0))) ∧ h' = p_mk Ls (p_u (p_u (p_u (p_u (wC 71 I (rwW B q0 (n / 4)).1) 33 1 (nI 0)) 32 17 (nI ((rwW B q0 (n / 4)).2.2 + (if n % 4 = 0 then 0 else 1)))) 80 2 (nI 0)) 32 14 (nI 0)) L R X) := by
    refine down_ind ?_ ?_
    · by_cases c : n % 4 = 0
      · rw [if_pos c]
        exact fin _ _ (by omega) (by omega)
      · rw [if_neg c]
        obtain ⟨s1, s2⟩ := st (n / 4)
        have s3 : wC 71 I (rwW B q0 (n / 4)).1 33 1 = nI n := by rw [s2 33 (by omega)]; exact e1
        rw [P_run_eq, bk_88_2, pb_88_2]; simp -implicitDefEqProofs (disch := first | omega | decide) only [P_m, ↓P_run_eq _ 88 _ (p_bk 88 3), bk_88_3, pb_88_3, ↓P_run_eq _ 119 _ (p_bk 119 0), bk_119_0, pb_119_0, ↓P_run_eq _ 119 _ (p_bk 119 1), bk_119_1, pb_119_1, pw_iload_n3, pw_aload_n0, pw_aloadN_n0, pw_getR, pw_getI, pw_cge, pw_iv2, pw_zne, pw_iinc_2, il_1, po_i2, po_r2, po_n2, po_u2, pw_nop, pw_iinc_3, il_4, po_i3, po_r3, po_n3, po_u3, pw_goto, pw_iload_n1, pw_iconst, pw_iadd, pw_cgt, pw_bipush, bl_8, pw_clt, il_0, pw_ret1, kd_32, rf_32_0, rf_32_1, rf_32_2, rf_32_3, rf_32_4, rf_32_5, rf_32_6, rf_32_7, rf_32_8, rf_32_9, rf_32_11, rf_32_12, rf_32_13, kd_33, rf_33_0, kd_71, rf_71_1, rf_71_3, rf_71_4, rf_71_5, rf_71_6, rf_71_11, rf_71_12, rf_71_14, n_0, n_1, n_4, n_8, nn_lt, nn_nlt, nn_le, nn_nle, nn_ne, nn_sub, nn_mul, nI_add, nn_neg, nm_eq, mn_eq, mm_eq, mn_lt, nm_lt, mn_le, nm_le, nn_sub0, nn_of, implies_true, nn_c, nn_in, nn_div, nat_rem, Nat.reduceMul, Nat.reduceSub, Nat.reduceDiv, Nat.reduceMod, pf_at, pf_ne, mk_s, mk_1, Classical.not_not, b2i_T, b2i_F, false_imp_iff, true_imp_iff, false_and, and_false, p_sw, Int.reduceAdd, Int.zero_add, Option.some.injEq, Value.int.injEq, Value.long.injEq, Value.ref.injEq, exists_eq_left', mk_I, mk_L, mk_wI, mk_wL, rf_s, rf_n, true_and, and_true, and_self, or_true, true_or, or_false, false_or, not_true_eq_false, not_false_eq_true, Option.toList_some, Option.toList_none, List.cons_append, List.nil_append, List.map_nil, List.map_cons, List.sum_nil, List.sum_cons, cat_i, cat_l, cat_r, cat_n, Nat.reduceLeDiff, Nat.reduceAdd, Nat.reduceEqDiff, Nat.zero_le, p_ent, p_u_ne, p_u_at, reduceIte, if_true, if_false, P_inl (z := 119) (vs := [.ref _, .int _]), s1, s3]
        exact fin _ _ (by omega) (by omega)
    · intro i hi ih
      obtain ⟨o1, o2, o3, o4, o5⟩ := rw_ok (B := B) hq hB i
      obtain ⟨s1, s2⟩ := st i
      have s3 : wC 71 I (rwW B q0 i).1 33 1 = nI n := by rw [s2 33 (by omega)]; exact e1
      have s4 := sp_119 (d := d) (Ls := Ls) (I := wC 71 I (rwW B q0 i).1) (L := L) (R := R) (X := X) (i := i) o3 hn hB s1 s3 (fun k hk => by rw [s2 34 (by omega)]; exact e2 k hk) (by omega)
      by_cases c : canB B (rwW B q0 i).2.1 i = true
      · rw [if_pos c, if_pos c, ← wC_app] at s4
        rw [rw_t c] at ih
        rw [P_run_eq, bk_88_2, pb_88_2]; simp -implicitDefEqProofs (disch := first | omega | decide) only [P_m, ↓P_run_eq _ 88 _ (p_bk 88 3), bk_88_3, pb_88_3, pw_iload_n3, pw_aload_n0, pw_aloadN_n0, pw_getR, pw_getI, pw_cge, pw_iv2, pw_zne, pw_iinc_2, il_1, po_i2, po_r2, po_n2, po_u2, pw_nop, pw_iinc_3, il_4, po_i3, po_r3, po_n3, po_u3, pw_goto, kd_32, rf_32_0, rf_32_1, rf_32_2, rf_32_3, rf_32_4, rf_32_5, rf_32_6, rf_32_7, rf_32_8, rf_32_9, rf_32_11, rf_32_12, rf_32_13, kd_33, rf_33_0, n_0, n_1, n_4, nn_lt, nn_nlt, nn_le, nn_nle, nn_ne, nn_sub, nn_mul, nI_add, nn_neg, nm_eq, mn_eq, mm_eq, mn_lt, nm_lt, mn_le, nm_le, nn_sub0, nn_of, implies_true, nn_c, nn_in, nn_div, nat_rem, Nat.reduceMul, Nat.reduceSub, Nat.reduceDiv, Nat.reduceMod, pf_at, pf_ne, mk_s, mk_1, Classical.not_not, b2i_T, b2i_F, false_imp_iff, true_imp_iff, false_and, and_false, p_sw, Int.reduceAdd, Int.zero_add, Option.some.injEq, Value.int.injEq, Value.long.injEq, Value.ref.injEq, exists_eq_left', mk_I, mk_L, mk_wI, mk_wL, rf_s, rf_n, true_and, and_true, and_self, or_true, true_or, or_false, false_or, not_true_eq_false, not_false_eq_true, Option.toList_some, Option.toList_none, List.cons_append, List.nil_append, List.map_nil, List.map_cons, List.sum_nil, List.sum_cons, cat_i, cat_l, cat_r, cat_n, Nat.reduceLeDiff, Nat.reduceAdd, Nat.reduceEqDiff, Nat.zero_le, p_ent, p_u_ne, p_u_at, reduceIte, if_true, if_false, s1, s3, P_ce s4]
        exact ih
      · rw [if_neg c, if_neg c] at s4
        rw [rw_f c] at ih
        rw [P_run_eq, bk_88_2, pb_88_2]; simp -implicitDefEqProofs (disch := first | omega | decide) only [P_m, ↓P_run_eq _ 88 _ (p_bk 88 3), bk_88_3, pb_88_3, pw_iload_n3, pw_aload_n0, pw_aloadN_n0, pw_getR, pw_getI, pw_cge, pw_iv2, pw_zne, pw_iinc_2, il_1, po_i2, po_r2, po_n2, po_u2, pw_nop, pw_iinc_3, il_4, po_i3, po_r3, po_n3, po_u3, pw_goto, kd_32, rf_32_0, rf_32_1, rf_32_2, rf_32_3, rf_32_4, rf_32_5, rf_32_6, rf_32_7, rf_32_8, rf_32_9, rf_32_11, rf_32_12, rf_32_13, kd_33, rf_33_0, n_0, n_1, n_4, nn_lt, nn_nlt, nn_le, nn_nle, nn_ne, nn_sub, nn_mul, nI_add, nn_neg, nm_eq, mn_eq, mm_eq, mn_lt, nm_lt, mn_le, nm_le, nn_sub0, nn_of, implies_true, nn_c, nn_in, nn_div, nat_rem, Nat.reduceMul, Nat.reduceSub, Nat.reduceDiv, Nat.reduceMod, pf_at, pf_ne, mk_s, mk_1, Classical.not_not, b2i_T, b2i_F, false_imp_iff, true_imp_iff, false_and, and_false, p_sw, Int.reduceAdd, Int.zero_add, Option.some.injEq, Value.int.injEq, Value.long.injEq, Value.ref.injEq, exists_eq_left', mk_I, mk_L, mk_wI, mk_wL, rf_s, rf_n, true_and, and_true, and_self, or_true, true_or, or_false, false_or, not_true_eq_false, not_false_eq_true, Option.toList_some, Option.toList_none, List.cons_append, List.nil_append, List.map_nil, List.map_cons, List.sum_nil, List.sum_cons, cat_i, cat_l, cat_r, cat_n, Nat.reduceLeDiff, Nat.reduceAdd, Nat.reduceEqDiff, Nat.zero_le, p_ent, p_u_ne, p_u_at, reduceIte, if_true, if_false, s1, s3, P_ce s4]
        exact ih
  have := loop 0 (by omega)
  simp -implicitDefEqProofs (disch := first | omega | decide) only [P_m, ↓P_run_eq _ 88 _ (p_bk 88 0), bk_88_0, pb_88_0, ↓P_run_eq _ 88 _ (p_bk 88 1), bk_88_1, pb_88_1, pw_aload_n0, pw_aloadN_n0, pw_getR, pw_getI, pw_zne, pw_bipush, bl_m6, pw_iv2, pw_ret0, pw_istore_n1, ps_1, pe_1, po_i1, po_r1, po_n1, po_u1, pw_iconst, il_0, pw_istore_n2, ps_2, pe_2, po_i2, po_r2, po_n2, po_u2, pw_istore_n3, ps_3, pe_3, po_i3, po_r3, po_n3, po_u3, pw_nop, kd_32, rf_32_0, rf_32_1, rf_32_2, rf_32_3, rf_32_4, rf_32_5, rf_32_6, rf_32_7, rf_32_8, rf_32_9, rf_32_11, rf_32_12, rf_32_13, kd_33, rf_33_0, kd_71, rf_71_1, rf_71_3, rf_71_4, rf_71_5, rf_71_6, rf_71_11, rf_71_12, rf_71_14, n_0, n_1, nn_lt, nn_nlt, nn_le, nn_nle, nn_ne, nn_sub, nn_mul, nI_add, nn_neg, nm_eq, mn_eq, mm_eq, mn_lt, nm_lt, mn_le, nm_le, nn_sub0, nn_of, implies_true, nn_c, nn_in, nn_div, nat_rem, Nat.reduceMul, Nat.reduceSub, Nat.reduceDiv, Nat.reduceMod, pf_at, pf_ne, mk_s, mk_1, Classical.not_not, b2i_T, b2i_F, false_imp_iff, true_imp_iff, false_and, and_false, p_sw, Int.reduceAdd, Int.zero_add, Option.some.injEq, Value.int.injEq, Value.long.injEq, Value.ref.injEq, exists_eq_left', mk_I, mk_L, mk_wI, mk_wL, rf_s, rf_n, true_and, and_true, and_self, or_true, true_or, or_false, false_or, not_true_eq_false, not_false_eq_true, Option.toList_some, Option.toList_none, List.cons_append, List.nil_append, List.map_nil, List.map_cons, List.sum_nil, List.sum_cons, cat_i, cat_l, cat_r, cat_n, Nat.reduceLeDiff, Nat.reduceAdd, Nat.reduceEqDiff, Nat.zero_le, p_ent, p_u_ne, p_u_at, reduceIte, if_true, if_false, e0, e1]
  exact this
theorem ce_88 {n q0 : Nat} {B : Nat → Nat} (hq : q0 ≤ 8) (h0 : 0 < n) (hn : n ≤ 400) (hB : ∀ k, B k ≤ 255) {yy : Nat} {rr : List pI} {kc ks : Nat} {lls st : List Value} {Q : Option Value → pHp → Prop} (e0 : I 71 2 = nI q0) (e1 : I 33 1 = nI n) (e2 : ∀ k, k < n → I 34 k = nI (B k)) (hR : hutR I 71 (I 125)) : P_call (d + 2) yy 88 [.ref 32] rr kc ks lls st (p_mk Ls I L R X) Q = P_w ((d + 2) + 1) yy Q rr kc ks lls ((.int (nI ((rwW B q0 (n / 4)).2.1 - q0))) :: st) (p_mk Ls (p_u (p_u (p_u (p_u (wC 71 I (rwW B q0 (n / 4)).1) 33 1 (nI 0)) 32 17 (nI ((rwW B q0 (n / 4)).2.2 + (if n % 4 = 0 then 0 else 1)))) 80 2 (nI 0)) 32 14 (nI 0)) L R X) := P_ce (sp_88 hq h0 hn hB e0 e1 e2 hR)
theorem sp_154 {n q0 : Nat} {B : Nat → Nat} (hq : q0 ≤ 8) (h0 : 0 < n) (hn : n ≤ 400) (hB : ∀ k, B k ≤ 255) (e0 : I 125 53 = nI q0) (e1 : I 123 13 = nI n) (e2 : ∀ k, k < n → I 130 k = (nI (B k)).toInt8.toInt32) : P_m (d + 2) 154 [.ref 123] (p_mk Ls I L R X) (fun v h' => v = some (.int (nI ((rwW B q0 (n / 4)).2.1 - q0))) ∧ h' = p_mk Ls (p_u (p_u (p_u (p_fn (p_u I 123 13 (nI 0)) 125 (updL (I 125) (rwW B q0 (n / 4)).1)) 123 6 (nI ((rwW B q0 (n / 4)).2.2 + (if n % 4 = 0 then 0 else 1)))) 123 31 (nI 0)) 123 0 (nI 0)) L R X) := by
  have loop : ∀ i, i ≤ n / 4 → ∀ r : List Value, (r = [] ∨ ∃ w, r = [.int w]) → P_run (d + 2) 154 (p_bk 154 4) 0 0 (.ref 123 :: .int (nI n) :: .int (nI ((rwW B q0 i).2.1 - q0)) :: .int (nI (4 * i)) :: r) [] (p_mk Ls (p_u (p_fn (p_u I 123 13 (nI 0)) 125 (updL (I 125) (rwW B q0 i).1)) 123 6 (nI ((rwW B q0 i).2.2 + (if n % 4 = 0 then 0 else 1)))) L R X) (fun v h' => v = some (.int (nI ((rwW B q0 (n / 4)).2.1 - q0))) ∧ h' = p_mk Ls (p_u (p_u (p_u (p_fn (p_u I 123 13 (nI 0)) 125 (updL (I 125) (rwW B q0 (n / 4)).1)) 123 6 (nI ((rwW B q0 (n / 4)).2.2 + (if n % 4 = 0 then 0 else 1)))) 123 31 (nI 0)) 123 0 (nI 0)) L R X) := by
    generalize (if n % 4 = 0 then 0 else 1) = z
    refine down_ind ?_ ?_
    · rintro r (rfl | ⟨w, rfl⟩) <;> (rw [P_run_eq, bk_154_4, pb_154_4]; simp -implicitDefEqProofs (disch := first | omega | decide) only [P_m, ↓P_run_eq _ 154 _ (p_bk 154 12), bk_154_12, pb_154_12, pw_iload_n3, pw_iconst, il_4, pw_iadd, pw_iload_n1, pw_cgt, pw_aload_n0, pw_aloadN_n0, pw_getR, pw_bipush, bl_53, pw_iald, bl_8, pw_cge, pw_bald, il_1, pw_iv2, pw_is3, pw_zeq, pw_goto, pw_iload_n2, pw_ret0, kd_123, rf_123_1, rf_123_2, rf_123_3, rf_123_4, rf_123_5, rf_123_7, rf_123_11, rf_123_12, rf_123_15, rf_123_16, rf_123_17, rf_123_26, rf_123_29, rf_123_30, rf_123_32, rf_123_34, rf_123_35, rf_123_45, n_0, n_1, n_4, n_8, n_53, nn_lt, nn_nlt, nn_le, nn_nle, nn_ne, nn_sub, nn_mul, nI_add, nn_neg, nm_eq, mn_eq, mm_eq, mn_lt, nm_lt, mn_le, nm_le, nn_sub0, nn_of, implies_true, nn_c, nn_in, nn_div, nat_rem, Nat.reduceMul, Nat.reduceSub, Nat.reduceDiv, Nat.reduceMod, pf_at, pf_ne, mk_s, mk_1, Classical.not_not, b2i_T, b2i_F, false_imp_iff, true_imp_iff, false_and, and_false, p_sw, Int.reduceAdd, Int.zero_add, Option.some.injEq, Value.int.injEq, Value.long.injEq, Value.ref.injEq, exists_eq_left', mk_I, mk_L, mk_wI, mk_wL, rf_s, rf_n, true_and, and_true, and_self, or_true, true_or, or_false, false_or, not_true_eq_false, not_false_eq_true, Option.toList_some, Option.toList_none, List.cons_append, List.nil_append, List.map_nil, List.map_cons, List.sum_nil, List.sum_cons, cat_i, cat_l, cat_r, cat_n, Nat.reduceLeDiff, Nat.reduceAdd, Nat.reduceEqDiff, Nat.zero_le, p_ent, p_u_ne, p_u_at, reduceIte, if_true, if_false, P_ce (sp_130 _), n_0])
    · intro i hi ih r hr
      replace ih := fun w => ih [.int w] (Or.inr ⟨w, rfl⟩)
      obtain ⟨o1, o2, o3, o4, o5⟩ := rw_ok (B := B) hq hB i
      have s1 := (o5 _ e0).1
      have f0 := e2 (4 * i) (by omega)
      have f1 := e2 (4 * i + 1) (by omega)
      have b0 := hB (4 * i)
      have b1 := hB (4 * i + 1)
      have b2 := hB (4 * i + 2)
      have b3 := hB (4 * i + 3)
      have s4 := fun (Z : Nat → Nat → Int32) (hz : Z 130 = I 130) => sp_153 (d := d + 1) (Ls := Ls) (I := Z) (L := L) (R := R) (X := X) (i := i) (B := B) (by omega) hB (fun k hk => by rw [hz]; exact e2 k (by omega))
      have s5 := s4 (p_u (p_fn (p_u I 123 13 (nI 0)) 125 (updL (I 125) (rwW B q0 i).1)) 123 6 (nI ((rwW B q0 i).2.2 + z))) (by rw [p_u_ne (by omega), pf_ne (by omega), p_u_ne (by omega)])
      by_cases c : canB B (rwW B q0 i).2.1 i = true
      · rw [rw_t c] at ih
        obtain ⟨c1, c2, c3⟩ := canB_t.mp c
        have g1 : b2i (canQ (nI (B (4 * i))).toInt8.toInt32 (nI (B (4 * i + 1))).toInt8.toInt32 (nI (256 * B (4 * i + 2) + B (4 * i + 3)))) = nI 1 := b2i_t ((canQ_s b0 b1 (by omega)).mpr ⟨c2, c3⟩)
        have g2 := sb_id _ c2
        have g3 := sb_id _ (show B (4 * i + 1) ≤ 99 by omega)
        have g4 := sp_146 (d := d + 1) (Ls := Ls) (I := p_u (p_fn (p_u I 123 13 (nI 0)) 125 (updL (I 125) (rwW B q0 i).1)) 123 6 (nI ((rwW B q0 i).2.2 + z))) (L := L) (R := R) (X := X) (nI (B (4 * i))) (nI (B (4 * i + 1))) (nI (256 * B (4 * i + 2) + B (4 * i + 3))) c1 (by rw [p_u_ne (by omega), pf_at]; exact s1)
        rw [puf_4 (by omega), puf_4 (by omega), puf_4 (by omega), puf_4 (by omega), puf_4 (by omega)] at g4
        have g5 : (rwW B q0 i).2.1 + 1 - q0 = (rwW B q0 i).2.1 - q0 + 1 := by omega
        simp only [updL_app, g5] at ih
        rw [g2, g3] at g1
        rcases hr with rfl | ⟨w, rfl⟩ <;> (rw [P_run_eq, bk_154_4, pb_154_4]; simp -implicitDefEqProofs (disch := first | omega | decide) only [P_m, ↓P_run_eq _ 154 _ (p_bk 154 5), bk_154_5, pb_154_5, ↓P_run_eq _ 154 _ (p_bk 154 6), bk_154_6, pb_154_6, ↓P_run_eq _ 154 _ (p_bk 154 7), bk_154_7, pb_154_7, ↓P_run_eq _ 154 _ (p_bk 154 8), bk_154_8, pb_154_8, ↓P_run_eq _ 154 _ (p_bk 154 9), bk_154_9, pb_154_9, ↓P_run_eq _ 154 _ (p_bk 154 10), bk_154_10, pb_154_10, ↓P_run_eq _ 154 _ (p_bk 154 11), bk_154_11, pb_154_11, pw_iload_n3, pw_iconst, il_4, pw_iadd, pw_iload_n1, pw_cgt, pw_aload_n0, pw_aloadN_n0, pw_getR, pw_bipush, bl_53, pw_iald, bl_8, pw_cge, pw_bald, il_1, pw_iv2, pw_is3, pw_zeq, pw_goto, il_0, pw_nop, pw_istore, ps_4, pe_4, po_i4, po_r4, po_n4, po_u4, pw_iload_4, pw_iv4, pw_iload_n2, pw_istore_n2, ps_2, pe_2, po_i2, po_r2, po_n2, po_u2, pw_dupi, pw_dupr, pw_getI, pw_putI, pw_iinc_3, po_i3, po_r3, po_n3, po_u3, kd_123, rf_123_1, rf_123_2, rf_123_3, rf_123_4, rf_123_5, rf_123_7, rf_123_11, rf_123_12, rf_123_15, rf_123_16, rf_123_17, rf_123_26, rf_123_29, rf_123_30, rf_123_32, rf_123_34, rf_123_35, rf_123_45, kd_125, kd_130, n_0, n_1, n_4, n_8, n_53, nn_lt, nn_nlt, nn_le, nn_nle, nn_ne, nn_sub, nn_mul, nI_add, nn_neg, nm_eq, mn_eq, mm_eq, mn_lt, nm_lt, mn_le, nm_le, nn_sub0, nn_of, implies_true, nn_c, nn_in, nn_div, nat_rem, Nat.reduceMul, Nat.reduceSub, Nat.reduceDiv, Nat.reduceMod, pf_at, pf_ne, mk_s, mk_1, Classical.not_not, b2i_T, b2i_F, false_imp_iff, true_imp_iff, false_and, and_false, p_sw, Int.reduceAdd, Int.zero_add, Option.some.injEq, Value.int.injEq, Value.long.injEq, Value.ref.injEq, exists_eq_left', mk_I, mk_L, mk_wI, mk_wL, rf_s, rf_n, true_and, and_true, and_self, or_true, true_or, or_false, false_or, not_true_eq_false, not_false_eq_true, Option.toList_some, Option.toList_none, List.cons_append, List.nil_append, List.map_nil, List.map_cons, List.sum_nil, List.sum_cons, cat_i, cat_l, cat_r, cat_n, Nat.reduceLeDiff, Nat.reduceAdd, Nat.reduceEqDiff, Nat.zero_le, p_ent, p_u_ne, p_u_at, reduceIte, if_true, if_false, s1, f0, f1, g1, g2, g3, P_ce s5, P_ce g4, P_ce (sp_145 _ _ _), pu_pu, Nat.add_zero]; exact ih _)
      · simp only [rw_f c, Nat.add_right_comm _ 1 z] at ih
        have c' := mt canB_t.mpr c
        rcases Nat.lt_or_ge (rwW B q0 i).2.1 8 with c1 | c1
        · have g1 : b2i (canQ (nI (B (4 * i))).toInt8.toInt32 (nI (B (4 * i + 1))).toInt8.toInt32 (nI (256 * B (4 * i + 2) + B (4 * i + 3)))) = nI 0 := b2i_f (fun x => c' ⟨c1, (canQ_s b0 b1 (by omega)).mp x⟩)
          rcases hr with rfl | ⟨w, rfl⟩ <;> (rw [P_run_eq, bk_154_4, pb_154_4]; simp -implicitDefEqProofs (disch := first | omega | decide) only [P_m, ↓P_run_eq _ 154 _ (p_bk 154 5), bk_154_5, pb_154_5, ↓P_run_eq _ 154 _ (p_bk 154 6), bk_154_6, pb_154_6, ↓P_run_eq _ 154 _ (p_bk 154 7), bk_154_7, pb_154_7, ↓P_run_eq _ 154 _ (p_bk 154 8), bk_154_8, pb_154_8, ↓P_run_eq _ 154 _ (p_bk 154 9), bk_154_9, pb_154_9, ↓P_run_eq _ 154 _ (p_bk 154 10), bk_154_10, pb_154_10, ↓P_run_eq _ 154 _ (p_bk 154 11), bk_154_11, pb_154_11, pw_iload_n3, pw_iconst, il_4, pw_iadd, pw_iload_n1, pw_cgt, pw_aload_n0, pw_aloadN_n0, pw_getR, pw_bipush, bl_53, pw_iald, bl_8, pw_cge, pw_bald, il_1, pw_iv2, pw_is3, pw_zeq, pw_goto, il_0, pw_nop, pw_istore, ps_4, pe_4, po_i4, po_r4, po_n4, po_u4, pw_iload_4, pw_iv4, pw_iload_n2, pw_istore_n2, ps_2, pe_2, po_i2, po_r2, po_n2, po_u2, pw_dupi, pw_dupr, pw_getI, pw_putI, pw_iinc_3, po_i3, po_r3, po_n3, po_u3, kd_123, rf_123_1, rf_123_2, rf_123_3, rf_123_4, rf_123_5, rf_123_7, rf_123_11, rf_123_12, rf_123_15, rf_123_16, rf_123_17, rf_123_26, rf_123_29, rf_123_30, rf_123_32, rf_123_34, rf_123_35, rf_123_45, kd_125, kd_130, n_0, n_1, n_4, n_8, n_53, nn_lt, nn_nlt, nn_le, nn_nle, nn_ne, nn_sub, nn_mul, nI_add, nn_neg, nm_eq, mn_eq, mm_eq, mn_lt, nm_lt, mn_le, nm_le, nn_sub0, nn_of, implies_true, nn_c, nn_in, nn_div, nat_rem, Nat.reduceMul, Nat.reduceSub, Nat.reduceDiv, Nat.reduceMod, pf_at, pf_ne, mk_s, mk_1, Classical.not_not, b2i_T, b2i_F, false_imp_iff, true_imp_iff, false_and, and_false, p_sw, Int.reduceAdd, Int.zero_add, Option.some.injEq, Value.int.injEq, Value.long.injEq, Value.ref.injEq, exists_eq_left', mk_I, mk_L, mk_wI, mk_wL, rf_s, rf_n, true_and, and_true, and_self, or_true, true_or, or_false, false_or, not_true_eq_false, not_false_eq_true, Option.toList_some, Option.toList_none, List.cons_append, List.nil_append, List.map_nil, List.map_cons, List.sum_nil, List.sum_cons, cat_i, cat_l, cat_r, cat_n, Nat.reduceLeDiff, Nat.reduceAdd, Nat.reduceEqDiff, Nat.zero_le, p_ent, p_u_ne, p_u_at, reduceIte, if_true, if_false, s1, f0, f1, g1, P_ce s5, P_ce (sp_145 _ _ _), pu_pu, Nat.add_zero]; exact ih _)
        · rcases hr with rfl | ⟨w, rfl⟩ <;> (rw [P_run_eq, bk_154_4, pb_154_4]; simp -implicitDefEqProofs (disch := first | omega | decide) only [P_m, ↓P_run_eq _ 154 _ (p_bk 154 5), bk_154_5, pb_154_5, ↓P_run_eq _ 154 _ (p_bk 154 6), bk_154_6, pb_154_6, ↓P_run_eq _ 154 _ (p_bk 154 7), bk_154_7, pb_154_7, ↓P_run_eq _ 154 _ (p_bk 154 8), bk_154_8, pb_154_8, ↓P_run_eq _ 154 _ (p_bk 154 9), bk_154_9, pb_154_9, ↓P_run_eq _ 154 _ (p_bk 154 10), bk_154_10, pb_154_10, ↓P_run_eq _ 154 _ (p_bk 154 11), bk_154_11, pb_154_11, pw_iload_n3, pw_iconst, il_4, pw_iadd, pw_iload_n1, pw_cgt, pw_aload_n0, pw_aloadN_n0, pw_getR, pw_bipush, bl_53, pw_iald, bl_8, pw_cge, pw_bald, il_1, pw_iv2, pw_is3, pw_zeq, pw_goto, il_0, pw_nop, pw_istore, ps_4, pe_4, po_i4, po_r4, po_n4, po_u4, pw_iload_4, pw_iv4, pw_iload_n2, pw_istore_n2, ps_2, pe_2, po_i2, po_r2, po_n2, po_u2, pw_dupi, pw_dupr, pw_getI, pw_putI, pw_iinc_3, po_i3, po_r3, po_n3, po_u3, kd_123, rf_123_1, rf_123_2, rf_123_3, rf_123_4, rf_123_5, rf_123_7, rf_123_11, rf_123_12, rf_123_15, rf_123_16, rf_123_17, rf_123_26, rf_123_29, rf_123_30, rf_123_32, rf_123_34, rf_123_35, rf_123_45, kd_125, kd_130, n_0, n_1, n_4, n_8, n_53, nn_lt, nn_nlt, nn_le, nn_nle, nn_ne, nn_sub, nn_mul, nI_add, nn_neg, nm_eq, mn_eq, mm_eq, mn_lt, nm_lt, mn_le, nm_le, nn_sub0, nn_of, implies_true, nn_c, nn_in, nn_div, nat_rem, Nat.reduceMul, Nat.reduceSub, Nat.reduceDiv, Nat.reduceMod, pf_at, pf_ne, mk_s, mk_1, Classical.not_not, b2i_T, b2i_F, false_imp_iff, true_imp_iff, false_and, and_false, p_sw, Int.reduceAdd, Int.zero_add, Option.some.injEq, Value.int.injEq, Value.long.injEq, Value.ref.injEq, exists_eq_left', mk_I, mk_L, mk_wI, mk_wL, rf_s, rf_n, true_and, and_true, and_self, or_true, true_or, or_false, false_or, not_true_eq_false, not_false_eq_true, Option.toList_some, Option.toList_none, List.cons_append, List.nil_append, List.map_nil, List.map_cons, List.sum_nil, List.sum_cons, cat_i, cat_l, cat_r, cat_n, Nat.reduceLeDiff, Nat.reduceAdd, Nat.reduceEqDiff, Nat.zero_le, p_ent, p_u_ne, p_u_at, reduceIte, if_true, if_false, s1, f0, f1, pu_pu, Nat.add_zero]; exact ih _)
  have := loop 0 (by omega) [] (Or.inl rfl)
  rw [show updL (I 125) (rwW B q0 0).1 = I 125 from rfl, show (rwW B q0 0).2.1 - q0 = 0 from Nat.sub_self q0, show (rwW B q0 0).2.2 = 0 from rfl] at this
  have e9 : ∀ v, p_u (p_fn (p_u I 123 13 (nI 0)) 125 (I 125)) 123 6 v = p_u (p_u I 123 13 (nI 0)) 123 6 v := fun v => by
    congr 1
    funext b
    by_cases eb : b = 125
    · subst eb; rw [pf_at, p_u_ne (by omega)]
    · rw [pf_ne eb]
  rw [e9] at this
  by_cases c : n % 4 = 0
  · rw [if_pos c] at this ⊢
    simp -implicitDefEqProofs (disch := first | omega | decide) only [P_m, ↓P_run_eq _ 154 _ (p_bk 154 0), bk_154_0, pb_154_0, ↓P_run_eq _ 154 _ (p_bk 154 1), bk_154_1, pb_154_1, ↓P_run_eq _ 154 _ (p_bk 154 2), bk_154_2, pb_154_2, ↓P_run_eq _ 154 _ (p_bk 154 3), bk_154_3, pb_154_3, pw_aload_n0, pw_aloadN_n0, pw_getI, pw_istore_n1, ps_1, pe_1, po_i1, po_r1, po_n1, po_u1, pw_iconst, il_0, pw_putI, pw_iload_n1, pw_zne, pw_bipush, bl_m6, pw_iv2, pw_ret0, pw_istore_n2, ps_2, pe_2, po_i2, po_r2, po_n2, po_u2, il_4, pw_irem, pw_goto, il_1, pw_nop, pw_istore_n3, ps_3, pe_3, po_i3, po_r3, po_n3, po_u3, kd_123, rf_123_1, rf_123_2, rf_123_3, rf_123_4, rf_123_5, rf_123_7, rf_123_11, rf_123_12, rf_123_15, rf_123_16, rf_123_17, rf_123_26, rf_123_29, rf_123_30, rf_123_32, rf_123_34, rf_123_35, rf_123_45, n_0, n_1, n_4, nn_lt, nn_nlt, nn_le, nn_nle, nn_ne, nn_sub, nn_mul, nI_add, nn_neg, nm_eq, mn_eq, mm_eq, mn_lt, nm_lt, mn_le, nm_le, nn_sub0, nn_of, implies_true, nn_c, nn_in, nn_div, nat_rem, Nat.reduceMul, Nat.reduceSub, Nat.reduceDiv, Nat.reduceMod, pf_at, pf_ne, mk_s, mk_1, Classical.not_not, b2i_T, b2i_F, false_imp_iff, true_imp_iff, false_and, and_false, p_sw, Int.reduceAdd, Int.zero_add, Option.some.injEq, Value.int.injEq, Value.long.injEq, Value.ref.injEq, exists_eq_left', mk_I, mk_L, mk_wI, mk_wL, rf_s, rf_n, true_and, and_true, and_self, or_true, true_or, or_false, false_or, not_true_eq_false, not_false_eq_true, Option.toList_some, Option.toList_none, List.cons_append, List.nil_append, List.map_nil, List.map_cons, List.sum_nil, List.sum_cons, cat_i, cat_l, cat_r, cat_n, Nat.reduceLeDiff, Nat.reduceAdd, Nat.reduceEqDiff, Nat.zero_le, p_ent, p_u_ne, p_u_at, reduceIte, if_true, if_false, e1, c]
    exact this
  · rw [if_neg c] at this ⊢
    have c2 : 0 < n % 4 := by omega
    simp -implicitDefEqProofs (disch := first | omega | decide) only [P_m, ↓P_run_eq _ 154 _ (p_bk 154 0), bk_154_0, pb_154_0, ↓P_run_eq _ 154 _ (p_bk 154 1), bk_154_1, pb_154_1, ↓P_run_eq _ 154 _ (p_bk 154 2), bk_154_2, pb_154_2, ↓P_run_eq _ 154 _ (p_bk 154 3), bk_154_3, pb_154_3, pw_aload_n0, pw_aloadN_n0, pw_getI, pw_istore_n1, ps_1, pe_1, po_i1, po_r1, po_n1, po_u1, pw_iconst, il_0, pw_putI, pw_iload_n1, pw_zne, pw_bipush, bl_m6, pw_iv2, pw_ret0, pw_istore_n2, ps_2, pe_2, po_i2, po_r2, po_n2, po_u2, il_4, pw_irem, pw_goto, il_1, pw_nop, pw_istore_n3, ps_3, pe_3, po_i3, po_r3, po_n3, po_u3, kd_123, rf_123_1, rf_123_2, rf_123_3, rf_123_4, rf_123_5, rf_123_7, rf_123_11, rf_123_12, rf_123_15, rf_123_16, rf_123_17, rf_123_26, rf_123_29, rf_123_30, rf_123_32, rf_123_34, rf_123_35, rf_123_45, n_0, n_1, n_4, nn_lt, nn_nlt, nn_le, nn_nle, nn_ne, nn_sub, nn_mul, nI_add, nn_neg, nm_eq, mn_eq, mm_eq, mn_lt, nm_lt, mn_le, nm_le, nn_sub0, nn_of, implies_true, nn_c, nn_in, nn_div, nat_rem, Nat.reduceMul, Nat.reduceSub, Nat.reduceDiv, Nat.reduceMod, pf_at, pf_ne, mk_s, mk_1, Classical.not_not, b2i_T, b2i_F, false_imp_iff, true_imp_iff, false_and, and_false, p_sw, Int.reduceAdd, Int.zero_add, Option.some.injEq, Value.int.injEq, Value.long.injEq, Value.ref.injEq, exists_eq_left', mk_I, mk_L, mk_wI, mk_wL, rf_s, rf_n, true_and, and_true, and_self, or_true, true_or, or_false, false_or, not_true_eq_false, not_false_eq_true, Option.toList_some, Option.toList_none, List.cons_append, List.nil_append, List.map_nil, List.map_cons, List.sum_nil, List.sum_cons, cat_i, cat_l, cat_r, cat_n, Nat.reduceLeDiff, Nat.reduceAdd, Nat.reduceEqDiff, Nat.zero_le, p_ent, p_u_ne, p_u_at, reduceIte, if_true, if_false, e1]
    exact this
theorem ce_154 {n q0 : Nat} {B : Nat → Nat} (hq : q0 ≤ 8) (h0 : 0 < n) (hn : n ≤ 400) (hB : ∀ k, B k ≤ 255) {yy : Nat} {rr : List pI} {kc ks : Nat} {lls st : List Value} {Q : Option Value → pHp → Prop} (e0 : I 125 53 = nI q0) (e1 : I 123 13 = nI n) (e2 : ∀ k, k < n → I 130 k = (nI (B k)).toInt8.toInt32) : P_call (d + 2) yy 154 [.ref 123] rr kc ks lls st (p_mk Ls I L R X) Q = P_w ((d + 2) + 1) yy Q rr kc ks lls ((.int (nI ((rwW B q0 (n / 4)).2.1 - q0))) :: st) (p_mk Ls (p_u (p_u (p_u (p_fn (p_u I 123 13 (nI 0)) 125 (updL (I 125) (rwW B q0 (n / 4)).1)) 123 6 (nI ((rwW B q0 (n / 4)).2.2 + (if n % 4 = 0 then 0 else 1)))) 123 31 (nI 0)) 123 0 (nI 0)) L R X) := P_ce (sp_154 hq h0 hn hB e0 e1 e2)
theorem q_row (H : Inv I R X) : Same (d + 2) 88 154 [] Ls (p_mk Ls I L R X) := by
  obtain ⟨⟨n, hn, e⟩, e13, g3⟩ := H.2.2.1
  rw [e] at e13
  rw [e, nI_c (by omega)] at g3
  rcases Nat.eq_zero_or_pos n with rfl | h0
  · have e : I 33 1 = 0 := e
    have e13 : I 123 13 = 0 := e13
    simp -implicitDefEqProofs only [P_m, ↓P_run_eq _ 88 _ (p_bk 88 0), bk_88_0, pb_88_0, ↓P_run_eq _ 154 _ (p_bk 154 0), bk_154_0, pb_154_0, pw_aload_n0, pw_aloadN_n0, pw_getR, pw_getI, pw_zne, pw_bipush, bl_m6, pw_iv2, pw_ret0, pw_istore_n1, ps_1, pe_1, po_i1, po_r1, po_n1, po_u1, pw_iconst, il_0, pw_putI, pw_iload_n1, kd_32, rf_32_0, rf_32_1, rf_32_2, rf_32_3, rf_32_4, rf_32_5, rf_32_6, rf_32_7, rf_32_8, rf_32_9, rf_32_11, rf_32_12, rf_32_13, kd_33, rf_33_0, kd_123, rf_123_1, rf_123_2, rf_123_3, rf_123_4, rf_123_5, rf_123_7, rf_123_11, rf_123_12, rf_123_15, rf_123_16, rf_123_17, rf_123_26, rf_123_29, rf_123_30, rf_123_32, rf_123_34, rf_123_35, rf_123_45, Classical.not_not, implies_true, mk_s, mk_1, pf_at, pf_ne, b2i_T, b2i_F, false_imp_iff, true_imp_iff, ne_10, ne_01, ne_m10, ne_0m1, ne_m11, ne_1m1, false_and, and_false, p_sw, Int.reduceAdd, Int.zero_add, Option.some.injEq, Value.int.injEq, Value.long.injEq, Value.ref.injEq, exists_eq_left',  mk_I, mk_L, mk_wI, mk_wL, rf_s, rf_n, true_and, and_true, and_self, or_true, true_or, or_false, false_or, not_true_eq_false, not_false_eq_true, Option.toList_some, Option.toList_none, List.cons_append, List.nil_append, List.map_nil, List.map_cons, List.sum_nil, List.sum_cons, cat_i, cat_l, cat_r, cat_n, Nat.reduceLeDiff, Nat.reduceAdd, Nat.reduceEqDiff, Nat.zero_le, p_ent, Int32.reduceToNatClampNeg, Int32.reduceLT, Int32.reduceLE, vin_l, p_u_ne, p_u_at, reduceIte, if_true, if_false, Int32.reduceToInt, Int.zero_le_ofNat, Int.cast_ofNat_Int, Int.reduceLT, Int.reduceLE, not_false_eq_true, Same, P_ce (rc_6), P_ce (rm_6), e, e13]
    refine ⟨_, _, _, _, rfl, ?_⟩
    have := inv_no (-6) 6 (by omega) H
    have z : p_u I 123 13 0 = I := by
      funext b j
      by_cases eb : b = 123
      · subst eb; rw [p_u_at]; split
        · subst_vars; exact e13.symm
        · rfl
      · rw [p_u_ne eb]
    have z2 : p_u (p_u (p_u I 32 14 (-6)) 122 6 (I 122 6 + 1)) 123 13 0 = p_u (p_u I 32 14 (-6)) 122 6 (I 122 6 + 1) := by
      funext b j
      by_cases eb : b = 123
      · subst eb; rw [p_u_at]; split
        · subst_vars; exact e13.symm
        · rfl
      · rw [p_u_ne eb]
    rw [z2]
    exact this
  · have hR := H.2.2.2.2.2.2.1.1
    obtain ⟨q0, hq, e53⟩ := H.2.2.2.2.2.2.2.1.2.1
    have e0 : I 71 2 = nI q0 := (hR 53 (by omega)).trans e53
    obtain ⟨B, hB, hB2⟩ : ∃ B : Nat → Nat, (∀ k, B k ≤ 255) ∧ ∀ k, k < n → I 34 k = nI (B k) := by
      refine ⟨fun k => if k < n then (I 34 k).toNatClampNeg else 0, fun k => ?_, fun k hk => ?_⟩
      · dsimp only
        split
        · rename_i hk
          obtain ⟨x, hx, ex⟩ := (g3 k hk).1
          rw [ex, nI_c (by omega)]; exact hx
        · omega
      · dsimp only
        rw [if_pos hk]
        obtain ⟨x, hx, ex⟩ := (g3 k hk).1
        rw [ex, nI_c (by omega)]
    obtain ⟨o1, o2, o3, o4, o5⟩ := rw_ok (B := B) hq hB (n / 4)
    unfold Same
    refine p_run_Q (sp_88 hq h0 hn hB e0 e hB2 hR) ?_
    rintro _ _ ⟨rfl, rfl⟩
    refine ⟨_, rfl, ?_⟩
    have fr1 : ∀ b, b ≠ 33 → b ≠ 32 → b ≠ 80 → (b < 71 ∨ 78 < b) → p_u (p_u (p_u (p_u (wC 71 I (rwW B q0 (n / 4)).1) 33 1 (nI 0)) 32 17 (nI ((rwW B q0 (n / 4)).2.2 + (if n % 4 = 0 then 0 else 1)))) 80 2 (nI 0)) 32 14 (nI 0) b = I b := fun b b1 b2 b3 b4 => by
      rw [p_u_ne b2, p_u_ne b3, p_u_ne b2, p_u_ne b1, wC_fr _ _ o1 (by omega)]
    generalize hz : nI ((rwW B q0 (n / 4)).2.2 + (if n % 4 = 0 then 0 else 1)) = z at fr1 ⊢
    have s2 := sp_154 (d := d) (Ls := Ls) (I := p_u (p_u (p_u (p_u (wC 71 I (rwW B q0 (n / 4)).1) 33 1 (nI 0)) 32 17 z) 80 2 (nI 0)) 32 14 (nI 0)) (L := L) (R := R) (X := X) hq h0 hn hB (by rw [fr1 125 (by omega) (by omega) (by omega) (by omega)]; exact e53) (by rw [fr1 123 (by omega) (by omega) (by omega) (by omega)]; exact e13) (fun k hk => by rw [fr1 130 (by omega) (by omega) (by omega) (by omega), (g3 k hk).2, hB2 k hk])
    rw [fr1 125 (by omega) (by omega) (by omega) (by omega), hz] at s2
    refine p_run_Q s2 ?_
    rintro _ _ ⟨rfl, rfl⟩
    refine ⟨rfl, _, _, _, _, rfl, ?_⟩
    have h2 := H.2.1
    obtain ⟨m, k, u1, u2, u3, u4, -⟩ := H.2.2.2.1
    generalize hJ : p_u (p_u (p_u (p_fn (p_u (p_u (p_u (p_u (p_u (wC 71 I (rwW B q0 (n / 4)).1) 33 1 (nI 0)) 32 17 z) 80 2 (nI 0)) 32 14 (nI 0)) 123 13 (nI 0)) 125 (updL (I 125) (rwW B q0 (n / 4)).1)) 123 6 z) 123 31 (nI 0)) 123 0 (nI 0) = J
    have jW : ∀ b, b ≠ 33 → b ≠ 32 → b ≠ 80 → b ≠ 123 → b ≠ 125 → J b = wC 71 I (rwW B q0 (n / 4)).1 b := fun b b1 b2 b3 b4 b5 => by
      rw [← hJ]
      simp (disch := omega) only [p_u_ne, pf_ne]
    have jf : ∀ b, b ≠ 33 → b ≠ 32 → b ≠ 80 → b ≠ 123 → b ≠ 125 → (b < 71 ∨ 78 < b) → J b = I b := fun b b1 b2 b3 b4 b5 b6 => by
      rw [jW b b1 b2 b3 b4 b5, wC_fr _ _ o1 (by omega)]
    have j123 : ∀ k, J 123 k = if k = 0 then nI 0 else if k = 31 then nI 0 else if k = 6 then z else if k = 13 then nI 0 else I 123 k := fun k => by
      rw [← hJ, p_u_at, p_u_at, p_u_at, pf_ne (by omega), p_u_at, fr1 123 (by omega) (by omega) (by omega) (by omega)]
    have j32 : ∀ k, J 32 k = if k = 14 then nI 0 else if k = 17 then z else I 32 k := fun k => by
      rw [← hJ]
      rw [p_u_ne (by omega), p_u_ne (by omega), p_u_ne (by omega), pf_ne (by omega), p_u_ne (by omega), p_u_at, p_u_ne (by omega), p_u_at, p_u_ne (by omega), wC_fr _ _ o1 (by omega)]
    have j80 : ∀ k, J 80 k = if k = 2 then nI 0 else I 80 k := fun k => by
      rw [← hJ]
      rw [p_u_ne (by omega), p_u_ne (by omega), p_u_ne (by omega), pf_ne (by omega), p_u_ne (by omega), p_u_ne (by omega), p_u_at, p_u_ne (by omega), p_u_ne (by omega), wC_fr _ _ o1 (by omega)]
    have j33 : J 33 1 = nI 0 := by
      rw [← hJ]
      rw [p_u_ne (by omega), p_u_ne (by omega), p_u_ne (by omega), pf_ne (by omega), p_u_ne (by omega), p_u_ne (by omega), p_u_ne (by omega), p_u_ne (by omega), p_u_at, if_pos rfl]
    have j125 : J 125 = updL (I 125) (rwW B q0 (n / 4)).1 := by
      rw [← hJ]
      rw [p_u_ne (by omega), p_u_ne (by omega), p_u_ne (by omega), pf_at]
    have o6 := (o5 _ e53).2
    obtain ⟨h1, -, h3, h4, h5, h6, h7, h8⟩ := H
    refine ⟨invK_fr (fun a ha => jf a (by omega) (by omega) (by omega) (by omega) (by omega) (by omega)) (jf 129 (by omega) (by omega) (by omega) (by omega) (by omega) (by omega)) h1, ?_, ?_, ?_, ?_, ?_, ⟨?_, ?_, ?_⟩, ?_⟩
    · refine ⟨fun k hk => ?_, ?_, ?_, ?_, ?_⟩
      · rw [jf 122 (by omega) (by omega) (by omega) (by omega) (by omega) (by omega), jf 124 (by omega) (by omega) (by omega) (by omega) (by omega) (by omega)]; exact h2.1 k hk
      · rw [j32, j123]; rfl
      · rw [j32, j123]; exact h2.2.2.1
      · rw [j32, j123]; exact h2.2.2.2.1
      · rw [j32, j123]; rfl
    · refine ⟨⟨0, by omega, j33⟩, by rw [j33, j123]; rfl, fun k hk => ?_⟩
      rw [j33] at hk
      exact absurd hk (Nat.not_lt_zero _)
    · exact invU_0 ⟨m, by omega, by rw [j80]; exact u1⟩ (by rw [j80]; rfl) (by rw [j123]; rfl)
    · exact invI_fr (fun b b1 b2 => jf b (by omega) (by omega) (by omega) (by omega) (by omega) (by omega)) (jf 126 (by omega) (by omega) (by omega) (by omega) (by omega) (by omega)) (jf 127 (by omega) (by omega) (by omega) (by omega) (by omega) (by omega)) (fun b b1 => jf b (by omega) (by omega) (by omega) (by omega) (by omega) (by omega)) rfl rfl (fun _ _ => rfl) h5
    · exact invD_fr (by rw [j32]; rfl) (by rw [j123]; rfl) (jf 93 (by omega) (by omega) (by omega) (by omega) (by omega) (by omega)) (jf 98 (by omega) (by omega) (by omega) (by omega) (by omega) (by omega)) (jf 100 (by omega) (by omega) (by omega) (by omega) (by omega) (by omega)) (jf 141 (by omega) (by omega) (by omega) (by omega) (by omega) (by omega)) h6
    · rw [j125]
      exact hutR_f (updL_hR _ o1 h7.1) (fun b b1 b2 => jW b (by omega) (by omega) (by omega) (by omega) (by omega))
    · exact h7.2.1
    · intro i hi
      rw [j125, o6 55 (by omega) (by omega)] at hi
      obtain ⟨t, t1, t2, t3⟩ := h7.2.2 i hi
      exact ⟨t, t1, t2, lawRel_same t3 (fun a ha => jf a (by omega) (by omega) (by omega) (by omega) (by omega) (by omega)) (fun _ _ => rfl) (fun k k1 k2 => by rw [j125]; exact o6 k (by omega) (by omega))⟩
    · rw [j125]
      refine vld_iff.mpr ⟨updL_vB _ o1 (vld_iff.mp h8).1, ?_⟩
      obtain ⟨w1, w2, w3⟩ := h8.2.2
      refine ⟨?_, ?_, ?_⟩
      · rw [o6 4 (by omega) (by omega), o6 52 (by omega) (by omega)]; exact w1
      · rw [o6 0 (by omega) (by omega), o6 52 (by omega) (by omega)]; exact w2
      · rw [o6 56 (by omega) (by omega), o6 55 (by omega) (by omega)]; exact w3
end RW
