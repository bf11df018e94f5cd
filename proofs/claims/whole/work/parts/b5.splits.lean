section SM
variable {d Ls : Nat} {I : Nat → Nat → Int32} {L : Nat → Nat → Int64} {R : Nat → Nat → Option Nat} {X : List pKd} {h : pHp} {B : Nat → Nat} {T : Nat}
theorem pu_cm {α : Type} {f : Nat → Nat → α} {a b k m : Nat} {v w : α} (h : ¬ a = b) : p_u (p_u f a k v) b m w = p_u (p_u f b m w) a k v := by
  funext c j
  by_cases c1 : c = b
  · subst c1
    rw [p_u_at, p_u_ne (fun e => h e.symm), p_u_ne (fun e => h e.symm), p_u_at]
  · rw [p_u_ne c1]
    by_cases c2 : c = a
    · subst c2; rw [p_u_at, p_u_at, p_u_ne c1]
    · rw [p_u_ne c2, p_u_ne c2, p_u_ne c1]
theorem lp_161s {Q : Option Value → pHp → Prop} {k b : Nat} {J : Nat → Nat → Int32} (hM : mB B T J) : ∀ n to, to + n = T → P_run (d + 1) 161 (p_bk 161 4) 0 0 [.ref 123, .int (nI T), .int (nI k), .int (sB b), .int (nI (sp B T isSm to))] [] (p_mk Ls J L R X) Q → P_run (d + 1) 161 (p_bk 161 3) 0 0 [.ref 123, .int (nI T), .int (nI k), .int (sB b), .int (nI to)] [] (p_mk Ls J L R X) Q := by
  have T4 := hM.1
  intro n
  induction n with
  | zero =>
    intro to ht nx
    rw [sp_n (Or.inl (by omega))] at nx
    generalize sB b = x at *
    rw [P_run_eq, bk_161_3, pb_161_3]; simp -implicitDefEqProofs (disch := first | omega | decide) only [P_m, pw_iload_4, pw_iload_n1, pw_cge, pw_aload_n0, pw_aloadN_n0, pw_getR, pw_bald, pw_is1, pw_zeq, pw_iinc_4, il_1, po_i4, po_r4, po_n4, po_u4, pw_goto, kd_123, rf_123_1, rf_123_2, rf_123_3, rf_123_4, rf_123_5, rf_123_7, rf_123_11, rf_123_12, rf_123_15, rf_123_16, rf_123_17, rf_123_26, rf_123_29, rf_123_30, rf_123_32, rf_123_34, rf_123_35, rf_123_45, n_0, n_1, nn_lt, nn_nlt, nn_le, nn_nle, nn_ne, nn_sub, nn_mul, nI_add, nn_neg, nm_eq, mn_eq, mm_eq, mn_lt, nm_lt, mn_le, nm_le, nn_sub0, nn_of, implies_true, nn_c, nn_in, nn_div, nat_rem, Nat.reduceMul, Nat.reduceSub, Nat.reduceDiv, Nat.reduceMod, pf_at, pf_ne, mk_s, mk_1, Classical.not_not, b2i_T, b2i_F, false_imp_iff, true_imp_iff, false_and, and_false, p_sw, Int.reduceAdd, Int.zero_add, Option.some.injEq, Value.int.injEq, Value.long.injEq, Value.ref.injEq, exists_eq_left', mk_I, mk_L, mk_wI, mk_wL, rf_s, rf_n, true_and, and_true, and_self, or_true, true_or, or_false, false_or, not_true_eq_false, not_false_eq_true, Option.toList_some, Option.toList_none, List.cons_append, List.nil_append, List.map_nil, List.map_cons, List.sum_nil, List.sum_cons, cat_i, cat_l, cat_r, cat_n, Nat.reduceLeDiff, Nat.reduceAdd, Nat.reduceEqDiff, Nat.zero_le, p_ent, p_u_ne, p_u_at, reduceIte, if_true, if_false]
    exact nx
  | succ n ih =>
    intro to ht nx
    obtain ⟨c1, c2⟩ := hM.2.1 to (by omega)
    have s158 := pl_158 (d := d) (h := p_mk Ls J L R X) c2
    cases e : isSm (B to) with
    | true =>
      rw [sp_y (by omega) e] at nx
      have n2 := ih (to + 1) (by omega) nx
      rw [e, bN_t] at s158
      clear ih nx
      generalize sB (B to) = y at *
      generalize sB b = x at *
      rw [P_run_eq, bk_161_3, pb_161_3]; simp -implicitDefEqProofs (disch := first | omega | decide) only [P_m, pw_iload_4, pw_iload_n1, pw_cge, pw_aload_n0, pw_aloadN_n0, pw_getR, pw_bald, pw_is1, pw_zeq, pw_iinc_4, il_1, po_i4, po_r4, po_n4, po_u4, pw_goto, kd_123, rf_123_1, rf_123_2, rf_123_3, rf_123_4, rf_123_5, rf_123_7, rf_123_11, rf_123_12, rf_123_15, rf_123_16, rf_123_17, rf_123_26, rf_123_29, rf_123_30, rf_123_32, rf_123_34, rf_123_35, rf_123_45, kd_130, n_0, n_1, nn_lt, nn_nlt, nn_le, nn_nle, nn_ne, nn_sub, nn_mul, nI_add, nn_neg, nm_eq, mn_eq, mm_eq, mn_lt, nm_lt, mn_le, nm_le, nn_sub0, nn_of, implies_true, nn_c, nn_in, nn_div, nat_rem, Nat.reduceMul, Nat.reduceSub, Nat.reduceDiv, Nat.reduceMod, pf_at, pf_ne, mk_s, mk_1, Classical.not_not, b2i_T, b2i_F, false_imp_iff, true_imp_iff, false_and, and_false, p_sw, Int.reduceAdd, Int.zero_add, Option.some.injEq, Value.int.injEq, Value.long.injEq, Value.ref.injEq, exists_eq_left', mk_I, mk_L, mk_wI, mk_wL, rf_s, rf_n, true_and, and_true, and_self, or_true, true_or, or_false, false_or, not_true_eq_false, not_false_eq_true, Option.toList_some, Option.toList_none, List.cons_append, List.nil_append, List.map_nil, List.map_cons, List.sum_nil, List.sum_cons, cat_i, cat_l, cat_r, cat_n, Nat.reduceLeDiff, Nat.reduceAdd, Nat.reduceEqDiff, Nat.zero_le, p_ent, p_u_ne, p_u_at, reduceIte, if_true, if_false, c1, P_ce s158]
      exact n2
    | false =>
      rw [sp_n (Or.inr e)] at nx
      rw [e, bN_f] at s158
      clear ih
      generalize sB (B to) = y at *
      generalize sB b = x at *
      rw [P_run_eq, bk_161_3, pb_161_3]; simp -implicitDefEqProofs (disch := first | omega | decide) only [P_m, pw_iload_4, pw_iload_n1, pw_cge, pw_aload_n0, pw_aloadN_n0, pw_getR, pw_bald, pw_is1, pw_zeq, pw_iinc_4, il_1, po_i4, po_r4, po_n4, po_u4, pw_goto, kd_123, rf_123_1, rf_123_2, rf_123_3, rf_123_4, rf_123_5, rf_123_7, rf_123_11, rf_123_12, rf_123_15, rf_123_16, rf_123_17, rf_123_26, rf_123_29, rf_123_30, rf_123_32, rf_123_34, rf_123_35, rf_123_45, kd_130, n_0, n_1, nn_lt, nn_nlt, nn_le, nn_nle, nn_ne, nn_sub, nn_mul, nI_add, nn_neg, nm_eq, mn_eq, mm_eq, mn_lt, nm_lt, mn_le, nm_le, nn_sub0, nn_of, implies_true, nn_c, nn_in, nn_div, nat_rem, Nat.reduceMul, Nat.reduceSub, Nat.reduceDiv, Nat.reduceMod, pf_at, pf_ne, mk_s, mk_1, Classical.not_not, b2i_T, b2i_F, false_imp_iff, true_imp_iff, false_and, and_false, p_sw, Int.reduceAdd, Int.zero_add, Option.some.injEq, Value.int.injEq, Value.long.injEq, Value.ref.injEq, exists_eq_left', mk_I, mk_L, mk_wI, mk_wL, rf_s, rf_n, true_and, and_true, and_self, or_true, true_or, or_false, false_or, not_true_eq_false, not_false_eq_true, Option.toList_some, Option.toList_none, List.cons_append, List.nil_append, List.map_nil, List.map_cons, List.sum_nil, List.sum_cons, cat_i, cat_l, cat_r, cat_n, Nat.reduceLeDiff, Nat.reduceAdd, Nat.reduceEqDiff, Nat.zero_le, p_ent, p_u_ne, p_u_at, reduceIte, if_true, if_false, c1, P_ce s158]
      exact nx
theorem lp_161d {Q : Option Value → pHp → Prop} {k b : Nat} {J : Nat → Nat → Int32} (hM : mB B T J) : ∀ n to, to + n = T → P_run (d + 1) 161 (p_bk 161 6) 0 0 [.ref 123, .int (nI T), .int (nI k), .int (sB b), .int (nI (sp B T isDg to))] [] (p_mk Ls J L R X) Q → P_run (d + 1) 161 (p_bk 161 5) 0 0 [.ref 123, .int (nI T), .int (nI k), .int (sB b), .int (nI to)] [] (p_mk Ls J L R X) Q := by
  have T4 := hM.1
  intro n
  induction n with
  | zero =>
    intro to ht nx
    rw [sp_n (Or.inl (by omega))] at nx
    generalize sB b = x at *
    rw [P_run_eq, bk_161_5, pb_161_5]; simp -implicitDefEqProofs (disch := first | omega | decide) only [P_m, pw_iload_4, pw_iload_n1, pw_cge, pw_aload_n0, pw_aloadN_n0, pw_getR, pw_bald, pw_is1, pw_zeq, pw_iinc_4, il_1, po_i4, po_r4, po_n4, po_u4, pw_goto, kd_123, rf_123_1, rf_123_2, rf_123_3, rf_123_4, rf_123_5, rf_123_7, rf_123_11, rf_123_12, rf_123_15, rf_123_16, rf_123_17, rf_123_26, rf_123_29, rf_123_30, rf_123_32, rf_123_34, rf_123_35, rf_123_45, n_0, n_1, nn_lt, nn_nlt, nn_le, nn_nle, nn_ne, nn_sub, nn_mul, nI_add, nn_neg, nm_eq, mn_eq, mm_eq, mn_lt, nm_lt, mn_le, nm_le, nn_sub0, nn_of, implies_true, nn_c, nn_in, nn_div, nat_rem, Nat.reduceMul, Nat.reduceSub, Nat.reduceDiv, Nat.reduceMod, pf_at, pf_ne, mk_s, mk_1, Classical.not_not, b2i_T, b2i_F, false_imp_iff, true_imp_iff, false_and, and_false, p_sw, Int.reduceAdd, Int.zero_add, Option.some.injEq, Value.int.injEq, Value.long.injEq, Value.ref.injEq, exists_eq_left', mk_I, mk_L, mk_wI, mk_wL, rf_s, rf_n, true_and, and_true, and_self, or_true, true_or, or_false, false_or, not_true_eq_false, not_false_eq_true, Option.toList_some, Option.toList_none, List.cons_append, List.nil_append, List.map_nil, List.map_cons, List.sum_nil, List.sum_cons, cat_i, cat_l, cat_r, cat_n, Nat.reduceLeDiff, Nat.reduceAdd, Nat.reduceEqDiff, Nat.zero_le, p_ent, p_u_ne, p_u_at, reduceIte, if_true, if_false]
    exact nx
  | succ n ih =>
    intro to ht nx
    obtain ⟨c1, c2⟩ := hM.2.1 to (by omega)
    have s159 := pl_159 (d := d) (h := p_mk Ls J L R X) c2
    cases e : isDg (B to) with
    | true =>
      rw [sp_y (by omega) e] at nx
      have n2 := ih (to + 1) (by omega) nx
      rw [e, bN_t] at s159
      clear ih nx
      generalize sB (B to) = y at *
      generalize sB b = x at *
      rw [P_run_eq, bk_161_5, pb_161_5]; simp -implicitDefEqProofs (disch := first | omega | decide) only [P_m, pw_iload_4, pw_iload_n1, pw_cge, pw_aload_n0, pw_aloadN_n0, pw_getR, pw_bald, pw_is1, pw_zeq, pw_iinc_4, il_1, po_i4, po_r4, po_n4, po_u4, pw_goto, kd_123, rf_123_1, rf_123_2, rf_123_3, rf_123_4, rf_123_5, rf_123_7, rf_123_11, rf_123_12, rf_123_15, rf_123_16, rf_123_17, rf_123_26, rf_123_29, rf_123_30, rf_123_32, rf_123_34, rf_123_35, rf_123_45, kd_130, n_0, n_1, nn_lt, nn_nlt, nn_le, nn_nle, nn_ne, nn_sub, nn_mul, nI_add, nn_neg, nm_eq, mn_eq, mm_eq, mn_lt, nm_lt, mn_le, nm_le, nn_sub0, nn_of, implies_true, nn_c, nn_in, nn_div, nat_rem, Nat.reduceMul, Nat.reduceSub, Nat.reduceDiv, Nat.reduceMod, pf_at, pf_ne, mk_s, mk_1, Classical.not_not, b2i_T, b2i_F, false_imp_iff, true_imp_iff, false_and, and_false, p_sw, Int.reduceAdd, Int.zero_add, Option.some.injEq, Value.int.injEq, Value.long.injEq, Value.ref.injEq, exists_eq_left', mk_I, mk_L, mk_wI, mk_wL, rf_s, rf_n, true_and, and_true, and_self, or_true, true_or, or_false, false_or, not_true_eq_false, not_false_eq_true, Option.toList_some, Option.toList_none, List.cons_append, List.nil_append, List.map_nil, List.map_cons, List.sum_nil, List.sum_cons, cat_i, cat_l, cat_r, cat_n, Nat.reduceLeDiff, Nat.reduceAdd, Nat.reduceEqDiff, Nat.zero_le, p_ent, p_u_ne, p_u_at, reduceIte, if_true, if_false, c1, P_ce s159]
      exact n2
    | false =>
      rw [sp_n (Or.inr e)] at nx
      rw [e, bN_f] at s159
      clear ih
      generalize sB (B to) = y at *
      generalize sB b = x at *
      rw [P_run_eq, bk_161_5, pb_161_5]; simp -implicitDefEqProofs (disch := first | omega | decide) only [P_m, pw_iload_4, pw_iload_n1, pw_cge, pw_aload_n0, pw_aloadN_n0, pw_getR, pw_bald, pw_is1, pw_zeq, pw_iinc_4, il_1, po_i4, po_r4, po_n4, po_u4, pw_goto, kd_123, rf_123_1, rf_123_2, rf_123_3, rf_123_4, rf_123_5, rf_123_7, rf_123_11, rf_123_12, rf_123_15, rf_123_16, rf_123_17, rf_123_26, rf_123_29, rf_123_30, rf_123_32, rf_123_34, rf_123_35, rf_123_45, kd_130, n_0, n_1, nn_lt, nn_nlt, nn_le, nn_nle, nn_ne, nn_sub, nn_mul, nI_add, nn_neg, nm_eq, mn_eq, mm_eq, mn_lt, nm_lt, mn_le, nm_le, nn_sub0, nn_of, implies_true, nn_c, nn_in, nn_div, nat_rem, Nat.reduceMul, Nat.reduceSub, Nat.reduceDiv, Nat.reduceMod, pf_at, pf_ne, mk_s, mk_1, Classical.not_not, b2i_T, b2i_F, false_imp_iff, true_imp_iff, false_and, and_false, p_sw, Int.reduceAdd, Int.zero_add, Option.some.injEq, Value.int.injEq, Value.long.injEq, Value.ref.injEq, exists_eq_left', mk_I, mk_L, mk_wI, mk_wL, rf_s, rf_n, true_and, and_true, and_self, or_true, true_or, or_false, false_or, not_true_eq_false, not_false_eq_true, Option.toList_some, Option.toList_none, List.cons_append, List.nil_append, List.map_nil, List.map_cons, List.sum_nil, List.sum_cons, cat_i, cat_l, cat_r, cat_n, Nat.reduceLeDiff, Nat.reduceAdd, Nat.reduceEqDiff, Nat.zero_le, p_ent, p_u_ne, p_u_at, reduceIte, if_true, if_false, c1, P_ce s159]
      exact nx
theorem sd_ex : ∀ b, b < 256 → isSm b = true → isDg b = false := by decide +kernel
/-- a token -/
theorem lp_161t {Q : Option Value → pHp → Prop} {k j : Nat} {J : Nat → Nat → Int32} (hM : mB B T J) (hk : k < T) (hj : j ≤ 400) (e18 : J 123 18 = nI j) (ek : tS B T j = k) (hb : ¬ B k = 32) (nx : P_run (d + 1) 161 (p_bk 161 1) 0 0 [.ref 123, .int (nI T), .int (nI (te B T k))] [] (p_mk Ls (p_u (p_u (p_u (p_u J 134 j (nI (tS B T j))) 132 j (nI (tC B T j))) 133 j (nI (tV B T j))) 123 18 (nI (j + 1))) L R X) Q) : P_run (d + 1) 161 (p_bk 161 1) 0 0 [.ref 123, .int (nI T), .int (nI k)] [] (p_mk Ls J L R X) Q := by
  have T4 := hM.1
  obtain ⟨c1, c2⟩ := hM.2.1 k hk
  obtain ⟨t1, t2, t3⟩ := te_b (B := B) (show k ≤ T by omega)
  have t3 := t3 hk
  have s158 := pl_158 (d := d) (h := p_mk Ls J L R X) c2
  have s159 := pl_159 (d := d) (h := p_mk Ls J L R X) c2
  have nb32 : ¬ sB (B k) = nI 32 := fun h => hb ((sB_bl _ c2).1.mp h)
  rw [ek] at nx
  have lsx : ∀ {l : List Value} {a b c : Int32}, lsLe l (l ++ [.int a, .int b, .int c]) := fun {l a b c} => lsLe_ap _ [_, _, _] (by simp only [List.mem_cons, List.not_mem_nil, or_false]; rintro _ (rfl | rfl | rfl) <;> rfl)
  -- behind what it is
  have t13 : ∀ (i : Int32) (to : Nat), to = te B T k → P_run (d + 1) 161 (p_bk 161 13) 0 0 [.ref 123, .int (nI T), .int (nI k), .int (sB (B k)), .int (nI to)] [] (p_mk Ls (p_u (p_u (p_u J 134 j (nI k)) 132 j (nI (tC B T j))) 133 j (nI (tV B T j))) L R X) Q := by
    intro i to et
    subst et
    have e18' : p_u (p_u (p_u J 134 j (nI k)) 132 j (nI (tC B T j))) 133 j (nI (tV B T j)) 123 18 = nI j := by rw [p_u_ne (by omega), p_u_ne (by omega), p_u_ne (by omega)]; exact e18
    generalize p_u (p_u (p_u J 134 j (nI k)) 132 j (nI (tC B T j))) 133 j (nI (tV B T j)) = J3 at *
    generalize te B T k = to at *
    clear c1 s158 s159 nb32
    generalize sB (B k) = x at *
    rw [P_run_eq, bk_161_13, pb_161_13]; simp -implicitDefEqProofs (disch := first | omega | decide) only [P_m, pw_aload_n0, pw_aloadN_n0, pw_dupi, pw_dupr, pw_getI, pw_iconst, il_1, pw_iadd, pw_putI, pw_iload_4, pw_istore_n2, ps_2, pe_2, po_i2, po_r2, po_n2, po_u2, pw_goto, kd_123, rf_123_1, rf_123_2, rf_123_3, rf_123_4, rf_123_5, rf_123_7, rf_123_11, rf_123_12, rf_123_15, rf_123_16, rf_123_17, rf_123_26, rf_123_29, rf_123_30, rf_123_32, rf_123_34, rf_123_35, rf_123_45, n_0, n_1, nn_lt, nn_nlt, nn_le, nn_nle, nn_ne, nn_sub, nn_mul, nI_add, nn_neg, nm_eq, mn_eq, mm_eq, mn_lt, nm_lt, mn_le, nm_le, nn_sub0, nn_of, implies_true, nn_c, nn_in, nn_div, nat_rem, Nat.reduceMul, Nat.reduceSub, Nat.reduceDiv, Nat.reduceMod, pf_at, pf_ne, mk_s, mk_1, Classical.not_not, b2i_T, b2i_F, false_imp_iff, true_imp_iff, false_and, and_false, p_sw, Int.reduceAdd, Int.zero_add, Option.some.injEq, Value.int.injEq, Value.long.injEq, Value.ref.injEq, exists_eq_left', mk_I, mk_L, mk_wI, mk_wL, rf_s, rf_n, true_and, and_true, and_self, or_true, true_or, or_false, false_or, not_true_eq_false, not_false_eq_true, Option.toList_some, Option.toList_none, List.cons_append, List.nil_append, List.map_nil, List.map_cons, List.sum_nil, List.sum_cons, cat_i, cat_l, cat_r, cat_n, Nat.reduceLeDiff, Nat.reduceAdd, Nat.reduceEqDiff, Nat.zero_le, p_ent, p_u_ne, p_u_at, reduceIte, if_true, if_false, e18']
    exact P_ls nx two_l
  have cm : ∀ c : Int32, p_u (p_u (p_u J 134 j (nI k)) 133 j (nI 0)) 132 j c = p_u (p_u (p_u J 134 j (nI k)) 132 j c) 133 j (nI 0) := fun c => pu_cm (by omega)
  have a18 : p_u J 134 j (nI k) 123 18 = nI j := by rw [p_u_ne (by omega)]; exact e18
  have b18 : p_u (p_u J 134 j (nI k)) 133 j (nI 0) 123 18 = nI j := by rw [p_u_ne (by omega)]; exact a18
  have d18 : ∀ c : Int32, p_u (p_u (p_u J 134 j (nI k)) 132 j c) 133 j (nI 0) 123 18 = nI j := fun c => by rw [p_u_ne (by omega), p_u_ne (by omega), p_u_ne (by omega)]; exact e18
  have f2 : frT J (p_u (p_u J 134 j (nI k)) 133 j (nI 0)) := ⟨fun a a1 a2 a3 a4 => by rw [p_u_ne a3, p_u_ne a4], fun m _ => by rw [p_u_ne (by omega), p_u_ne (by omega)]⟩
  have M2 := mB_f hM f2
  have s158b := pl_158 (d := d) (h := p_mk Ls (p_u (p_u J 134 j (nI k)) 133 j (nI 0)) L R X) c2
  have s159b := pl_159 (d := d) (h := p_mk Ls (p_u (p_u J 134 j (nI k)) 133 j (nI 0)) L R X) c2
  cases sm : isSm (B k) with
  | true =>
    have dg := sd_ex _ c2 sm
    have et : te B T k = sp B T isSm (k + 1) := by unfold te; rw [if_neg (by omega), if_pos sm]
    have eC : tC B T j = wdC (slc B k (te B T k)) := by unfold tC cdT; rw [ek, if_neg (by omega), if_pos sm]
    have eV : tV B T j = 0 := by unfold tV vlT; rw [ek, if_neg (by omega), dg, if_neg (by decide)]
    have s160 := pl_160 (d := d) (Ls := Ls) (L := L) (R := R) (X := X) M2 t1 t2
    rw [← eC] at s160
    have s159c := pl_159 (d := d) (h := p_mk Ls (p_u (p_u (p_u J 134 j (nI k)) 132 j (nI (tC B T j))) 133 j (nI 0)) L R X) c2
    rw [dg, bN_f] at s159 s159b s159c
    rw [sm, bN_t] at s158 s158b
    have n13 := t13 0 (te B T k) rfl
    rw [eV] at n13
    have cm := cm (nI (tC B T j))
    have n6 : P_run (d + 1) 161 (p_bk 161 6) 0 0 [.ref 123, .int (nI T), .int (nI k), .int (sB (B k)), .int (nI (te B T k))] [] (p_mk Ls J L R X) Q := by
      clear t13 c1 nb32 eC et
      generalize hJ3 : p_u (p_u (p_u J 134 j (nI k)) 132 j (nI (tC B T j))) 133 j (nI 0) = J3 at *
      generalize hJ2 : p_u (p_u J 134 j (nI k)) 133 j (nI 0) = J2 at *
      generalize te B T k = to at *
      generalize tC B T j = cc at *
      generalize sB (B k) = x at *
      rw [P_run_eq, bk_161_6, pb_161_6]; simp -implicitDefEqProofs (disch := first | omega | decide) only [P_m, ↓P_run_eq _ 161 _ (p_bk 161 9), bk_161_9, pb_161_9, ↓P_run_eq _ 161 _ (p_bk 161 10), bk_161_10, pb_161_10, pw_aload_n0, pw_aloadN_n0, pw_getR, pw_getI, pw_iload_n2, pw_iast, pw_iconst, il_0, pw_iload_n3, pw_is1, pw_zeq, pw_iload_4, pw_iv3, pw_goto, pw_istore, ps_5, pe_5, po_i5, po_r5, po_n5, po_u5, pw_nop, pw_iload_5, pw_cge, pw_iald, pw_ldc, cn_6, pw_cle, kd_123, rf_123_1, rf_123_2, rf_123_3, rf_123_4, rf_123_5, rf_123_7, rf_123_11, rf_123_12, rf_123_15, rf_123_16, rf_123_17, rf_123_26, rf_123_29, rf_123_30, rf_123_32, rf_123_34, rf_123_35, rf_123_45, kd_132, kd_133, kd_134, n_0, n_1, nn_lt, nn_nlt, nn_le, nn_nle, nn_ne, nn_sub, nn_mul, nI_add, nn_neg, nm_eq, mn_eq, mm_eq, mn_lt, nm_lt, mn_le, nm_le, nn_sub0, nn_of, implies_true, nn_c, nn_in, nn_div, nat_rem, Nat.reduceMul, Nat.reduceSub, Nat.reduceDiv, Nat.reduceMod, pf_at, pf_ne, mk_s, mk_1, Classical.not_not, b2i_T, b2i_F, false_imp_iff, true_imp_iff, false_and, and_false, p_sw, Int.reduceAdd, Int.zero_add, Option.some.injEq, Value.int.injEq, Value.long.injEq, Value.ref.injEq, exists_eq_left', mk_I, mk_L, mk_wI, mk_wL, rf_s, rf_n, true_and, and_true, and_self, or_true, true_or, or_false, false_or, not_true_eq_false, not_false_eq_true, Option.toList_some, Option.toList_none, List.cons_append, List.nil_append, List.map_nil, List.map_cons, List.sum_nil, List.sum_cons, cat_i, cat_l, cat_r, cat_n, Nat.reduceLeDiff, Nat.reduceAdd, Nat.reduceEqDiff, Nat.zero_le, p_ent, p_u_ne, p_u_at, reduceIte, if_true, if_false, e18, a18, b18, hJ2, cm, P_ce s158b, P_ce s160, P_ce s159c]
      exact P_ls n13 one_l
    have n3 := lp_161s (d := d) (Ls := Ls) (L := L) (R := R) (X := X) (k := k) (b := B k) (Q := Q) hM (T - (k + 1)) (k + 1) (by omega) (by
      rw [← et]
      clear t13 c1 nb32 eC n13 cm
      generalize te B T k = to at *
      generalize sB (B k) = x at *
      rw [P_run_eq, bk_161_4, pb_161_4]; simp -implicitDefEqProofs (disch := first | omega | decide) only [P_m, pw_iload_n3, pw_is1, pw_zeq, pw_nop, kd_123, rf_123_1, rf_123_2, rf_123_3, rf_123_4, rf_123_5, rf_123_7, rf_123_11, rf_123_12, rf_123_15, rf_123_16, rf_123_17, rf_123_26, rf_123_29, rf_123_30, rf_123_32, rf_123_34, rf_123_35, rf_123_45, n_0, n_1, nn_lt, nn_nlt, nn_le, nn_nle, nn_ne, nn_sub, nn_mul, nI_add, nn_neg, nm_eq, mn_eq, mm_eq, mn_lt, nm_lt, mn_le, nm_le, nn_sub0, nn_of, implies_true, nn_c, nn_in, nn_div, nat_rem, Nat.reduceMul, Nat.reduceSub, Nat.reduceDiv, Nat.reduceMod, pf_at, pf_ne, mk_s, mk_1, Classical.not_not, b2i_T, b2i_F, false_imp_iff, true_imp_iff, false_and, and_false, p_sw, Int.reduceAdd, Int.zero_add, Option.some.injEq, Value.int.injEq, Value.long.injEq, Value.ref.injEq, exists_eq_left', mk_I, mk_L, mk_wI, mk_wL, rf_s, rf_n, true_and, and_true, and_self, or_true, true_or, or_false, false_or, not_true_eq_false, not_false_eq_true, Option.toList_some, Option.toList_none, List.cons_append, List.nil_append, List.map_nil, List.map_cons, List.sum_nil, List.sum_cons, cat_i, cat_l, cat_r, cat_n, Nat.reduceLeDiff, Nat.reduceAdd, Nat.reduceEqDiff, Nat.zero_le, p_ent, p_u_ne, p_u_at, reduceIte, if_true, if_false, P_ce s159]
      exact n6)
    clear t13 n6 n13
    generalize sB (B k) = x at *
    rw [P_run_eq, bk_161_1, pb_161_1]; simp -implicitDefEqProofs (disch := first | omega | decide) only [P_m, ↓P_run_eq _ 161 _ (p_bk 161 2), bk_161_2, pb_161_2, pw_iload_n2, pw_iload_n1, pw_cge, pw_aload_n0, pw_aloadN_n0, pw_getR, pw_bald, pw_istore_n3, ps_3, pe_3, po_i3, po_r3, po_n3, po_u3, pw_iload_n3, pw_bipush, bl_32, pw_cne, pw_iinc_2, il_1, po_i2, po_r2, po_n2, po_u2, pw_goto, pw_iconst, pw_iadd, pw_istore, ps_4, pe_4, po_i4, po_r4, po_n4, po_u4, pw_is1, pw_zeq, pw_nop, kd_123, rf_123_1, rf_123_2, rf_123_3, rf_123_4, rf_123_5, rf_123_7, rf_123_11, rf_123_12, rf_123_15, rf_123_16, rf_123_17, rf_123_26, rf_123_29, rf_123_30, rf_123_32, rf_123_34, rf_123_35, rf_123_45, kd_130, n_0, n_1, n_32, nn_lt, nn_nlt, nn_le, nn_nle, nn_ne, nn_sub, nn_mul, nI_add, nn_neg, nm_eq, mn_eq, mm_eq, mn_lt, nm_lt, mn_le, nm_le, nn_sub0, nn_of, implies_true, nn_c, nn_in, nn_div, nat_rem, Nat.reduceMul, Nat.reduceSub, Nat.reduceDiv, Nat.reduceMod, pf_at, pf_ne, mk_s, mk_1, Classical.not_not, b2i_T, b2i_F, false_imp_iff, true_imp_iff, false_and, and_false, p_sw, Int.reduceAdd, Int.zero_add, Option.some.injEq, Value.int.injEq, Value.long.injEq, Value.ref.injEq, exists_eq_left', mk_I, mk_L, mk_wI, mk_wL, rf_s, rf_n, true_and, and_true, and_self, or_true, true_or, or_false, false_or, not_true_eq_false, not_false_eq_true, Option.toList_some, Option.toList_none, List.cons_append, List.nil_append, List.map_nil, List.map_cons, List.sum_nil, List.sum_cons, cat_i, cat_l, cat_r, cat_n, Nat.reduceLeDiff, Nat.reduceAdd, Nat.reduceEqDiff, Nat.zero_le, p_ent, p_u_ne, p_u_at, reduceIte, if_true, if_false, c1, nb32, P_ce s158]
    exact n3
  | false =>
    rw [sm, bN_f] at s158 s158b
    cases dg : isDg (B k) with
    | true =>
      have et : te B T k = sp B T isDg (k + 1) := by unfold te; rw [if_neg (by omega), sm, if_neg (by decide), if_pos dg]
      have eC : tC B T j = 50 := by unfold tC cdT; rw [ek, if_neg (by omega), sm, if_neg (by decide), if_pos dg]
      have eV : tV B T j = vlF B (te B T k - k) k 0 := by unfold tV vlT; rw [ek, if_neg (by omega), if_pos dg]
      rw [dg, bN_t] at s159 s159b
      have n13 := t13 0 (te B T k) rfl
      rw [eV, eC] at n13
      have cm := cm (nI 50)
      have dgi : ∀ i, k ≤ i → i < te B T k → 48 ≤ B i ∧ B i ≤ 57 := fun i h1 h2 => dg_in (B := B) (T := T) (i := j) (k := i) (by rw [ek]; exact dg) (by omega) (by rw [ek]; exact h1) (by rw [ek]; exact h2)
      have n10 := lp_161v (d := d) (Ls := Ls) (L := L) (R := R) (X := X) (Q := Q) (j := j) (k := k) (to := te B T k) (b := B k) (J := p_u (p_u J 134 j (nI k)) 132 j (nI 50)) (mB_f hM ⟨fun a a1 a2 a3 a4 => by rw [p_u_ne a2, p_u_ne a4], fun m _ => by rw [p_u_ne (by omega), p_u_ne (by omega)]⟩) hj (by rw [p_u_ne (by omega), p_u_ne (by omega)]; exact e18) t1 t2 c2 dg dgi n13
      have n6 : P_run (d + 1) 161 (p_bk 161 6) 0 0 [.ref 123, .int (nI T), .int (nI k), .int (sB (B k)), .int (nI (te B T k))] [] (p_mk Ls J L R X) Q := by
        clear t13 c1 nb32 eC et n13 dgi eV
        generalize hJ3 : p_u (p_u (p_u J 134 j (nI k)) 132 j (nI 50)) 133 j (nI 0) = J3 at *
        generalize hJ2 : p_u (p_u J 134 j (nI k)) 133 j (nI 0) = J2 at *
        generalize te B T k = to at *
        generalize sB (B k) = x at *
        rw [P_run_eq, bk_161_6, pb_161_6]; simp -implicitDefEqProofs (disch := first | omega | decide) only [P_m, ↓P_run_eq _ 161 _ (p_bk 161 7), bk_161_7, pb_161_7, ↓P_run_eq _ 161 _ (p_bk 161 9), bk_161_9, pb_161_9, pw_aload_n0, pw_aloadN_n0, pw_getR, pw_getI, pw_iload_n2, pw_iast, pw_iconst, il_0, pw_iload_n3, pw_is1, pw_zeq, pw_iload_4, pw_iv3, pw_goto, pw_bipush, bl_50, pw_istore, ps_5, pe_5, po_i5, po_r5, po_n5, po_u5, pw_nop, kd_123, rf_123_1, rf_123_2, rf_123_3, rf_123_4, rf_123_5, rf_123_7, rf_123_11, rf_123_12, rf_123_15, rf_123_16, rf_123_17, rf_123_26, rf_123_29, rf_123_30, rf_123_32, rf_123_34, rf_123_35, rf_123_45, kd_132, kd_133, kd_134, n_0, n_1, n_50, nn_lt, nn_nlt, nn_le, nn_nle, nn_ne, nn_sub, nn_mul, nI_add, nn_neg, nm_eq, mn_eq, mm_eq, mn_lt, nm_lt, mn_le, nm_le, nn_sub0, nn_of, implies_true, nn_c, nn_in, nn_div, nat_rem, Nat.reduceMul, Nat.reduceSub, Nat.reduceDiv, Nat.reduceMod, pf_at, pf_ne, mk_s, mk_1, Classical.not_not, b2i_T, b2i_F, false_imp_iff, true_imp_iff, false_and, and_false, p_sw, Int.reduceAdd, Int.zero_add, Option.some.injEq, Value.int.injEq, Value.long.injEq, Value.ref.injEq, exists_eq_left', mk_I, mk_L, mk_wI, mk_wL, rf_s, rf_n, true_and, and_true, and_self, or_true, true_or, or_false, false_or, not_true_eq_false, not_false_eq_true, Option.toList_some, Option.toList_none, List.cons_append, List.nil_append, List.map_nil, List.map_cons, List.sum_nil, List.sum_cons, cat_i, cat_l, cat_r, cat_n, Nat.reduceLeDiff, Nat.reduceAdd, Nat.reduceEqDiff, Nat.zero_le, p_ent, p_u_ne, p_u_at, reduceIte, if_true, if_false, e18, a18, b18, hJ2, cm, P_ce s158b, P_ce s159b]
        exact n10
      have n5 := lp_161d (d := d) (Ls := Ls) (L := L) (R := R) (X := X) (k := k) (b := B k) (Q := Q) hM (T - (k + 1)) (k + 1) (by omega) (by rw [← et]; exact n6)
      clear t13 n6 n13 n10 dgi
      generalize sB (B k) = x at *
      rw [P_run_eq, bk_161_1, pb_161_1]; simp -implicitDefEqProofs (disch := first | omega | decide) only [P_m, ↓P_run_eq _ 161 _ (p_bk 161 2), bk_161_2, pb_161_2, ↓P_run_eq _ 161 _ (p_bk 161 4), bk_161_4, pb_161_4, pw_iload_n2, pw_iload_n1, pw_cge, pw_aload_n0, pw_aloadN_n0, pw_getR, pw_bald, pw_istore_n3, ps_3, pe_3, po_i3, po_r3, po_n3, po_u3, pw_iload_n3, pw_bipush, bl_32, pw_cne, pw_iinc_2, il_1, po_i2, po_r2, po_n2, po_u2, pw_goto, pw_iconst, pw_iadd, pw_istore, ps_4, pe_4, po_i4, po_r4, po_n4, po_u4, pw_is1, pw_zeq, pw_nop, kd_123, rf_123_1, rf_123_2, rf_123_3, rf_123_4, rf_123_5, rf_123_7, rf_123_11, rf_123_12, rf_123_15, rf_123_16, rf_123_17, rf_123_26, rf_123_29, rf_123_30, rf_123_32, rf_123_34, rf_123_35, rf_123_45, kd_130, n_0, n_1, n_32, nn_lt, nn_nlt, nn_le, nn_nle, nn_ne, nn_sub, nn_mul, nI_add, nn_neg, nm_eq, mn_eq, mm_eq, mn_lt, nm_lt, mn_le, nm_le, nn_sub0, nn_of, implies_true, nn_c, nn_in, nn_div, nat_rem, Nat.reduceMul, Nat.reduceSub, Nat.reduceDiv, Nat.reduceMod, pf_at, pf_ne, mk_s, mk_1, Classical.not_not, b2i_T, b2i_F, false_imp_iff, true_imp_iff, false_and, and_false, p_sw, Int.reduceAdd, Int.zero_add, Option.some.injEq, Value.int.injEq, Value.long.injEq, Value.ref.injEq, exists_eq_left', mk_I, mk_L, mk_wI, mk_wL, rf_s, rf_n, true_and, and_true, and_self, or_true, true_or, or_false, false_or, not_true_eq_false, not_false_eq_true, Option.toList_some, Option.toList_none, List.cons_append, List.nil_append, List.map_nil, List.map_cons, List.sum_nil, List.sum_cons, cat_i, cat_l, cat_r, cat_n, Nat.reduceLeDiff, Nat.reduceAdd, Nat.reduceEqDiff, Nat.zero_le, p_ent, p_u_ne, p_u_at, reduceIte, if_true, if_false, c1, nb32, P_ce s158, P_ce s159]
      exact n5
    | false =>
      have et : te B T k = k + 1 := by unfold te; rw [if_neg (by omega), sm, if_neg (by decide), dg, if_neg (by decide)]
      have eC : tC B T j = 100 + B k := by unfold tC cdT; rw [ek, if_neg (by omega), sm, if_neg (by decide), dg, if_neg (by decide)]
      have eV : tV B T j = 0 := by unfold tV vlT; rw [ek, if_neg (by omega), dg, if_neg (by decide)]
      have s159c := pl_159 (d := d) (h := p_mk Ls (p_u (p_u (p_u J 134 j (nI k)) 132 j (nI (100 + B k))) 133 j (nI 0)) L R X) c2
      rw [dg, bN_f] at s159 s159b s159c
      have n13 := t13 0 (te B T k) rfl
      rw [eV, eC, et] at n13
      have cm := cm (nI (100 + B k))
      have ad := (sB_bl _ c2).2
      clear t13 eC
      generalize hJ3 : p_u (p_u (p_u J 134 j (nI k)) 132 j (nI (100 + B k))) 133 j (nI 0) = J3 at *
      generalize hJ2 : p_u (p_u J 134 j (nI k)) 133 j (nI 0) = J2 at *
      generalize 100 + B k = cc at *
      generalize sB (B k) = x at *
      rw [P_run_eq, bk_161_1, pb_161_1]; simp -implicitDefEqProofs (disch := first | omega | decide) only [P_m, ↓P_run_eq _ 161 _ (p_bk 161 2), bk_161_2, pb_161_2, ↓P_run_eq _ 161 _ (p_bk 161 4), bk_161_4, pb_161_4, ↓P_run_eq _ 161 _ (p_bk 161 6), bk_161_6, pb_161_6, ↓P_run_eq _ 161 _ (p_bk 161 7), bk_161_7, pb_161_7, ↓P_run_eq _ 161 _ (p_bk 161 8), bk_161_8, pb_161_8, ↓P_run_eq _ 161 _ (p_bk 161 9), bk_161_9, pb_161_9, ↓P_run_eq _ 161 _ (p_bk 161 10), bk_161_10, pb_161_10, pw_iload_n2, pw_iload_n1, pw_cge, pw_aload_n0, pw_aloadN_n0, pw_getR, pw_bald, pw_istore_n3, ps_3, pe_3, po_i3, po_r3, po_n3, po_u3, pw_iload_n3, pw_bipush, bl_32, pw_cne, pw_iinc_2, il_1, po_i2, po_r2, po_n2, po_u2, pw_goto, pw_iconst, pw_iadd, pw_istore, ps_4, pe_4, po_i4, po_r4, po_n4, po_u4, pw_is1, pw_zeq, pw_nop, pw_getI, pw_iast, il_0, pw_iload_4, pw_iv3, bl_50, bl_100, pw_sipush, sl_255, pw_iand, ps_5, pe_5, po_i5, po_r5, po_n5, po_u5, pw_iload_5, pw_iald, pw_ldc, cn_6, pw_cle, kd_123, rf_123_1, rf_123_2, rf_123_3, rf_123_4, rf_123_5, rf_123_7, rf_123_11, rf_123_12, rf_123_15, rf_123_16, rf_123_17, rf_123_26, rf_123_29, rf_123_30, rf_123_32, rf_123_34, rf_123_35, rf_123_45, kd_130, kd_132, kd_133, kd_134, n_0, n_1, n_32, n_50, n_100, n_255, nn_lt, nn_nlt, nn_le, nn_nle, nn_ne, nn_sub, nn_mul, nI_add, nn_neg, nm_eq, mn_eq, mm_eq, mn_lt, nm_lt, mn_le, nm_le, nn_sub0, nn_of, implies_true, nn_c, nn_in, nn_div, nat_rem, Nat.reduceMul, Nat.reduceSub, Nat.reduceDiv, Nat.reduceMod, pf_at, pf_ne, mk_s, mk_1, Classical.not_not, b2i_T, b2i_F, false_imp_iff, true_imp_iff, false_and, and_false, p_sw, Int.reduceAdd, Int.zero_add, Option.some.injEq, Value.int.injEq, Value.long.injEq, Value.ref.injEq, exists_eq_left', mk_I, mk_L, mk_wI, mk_wL, rf_s, rf_n, true_and, and_true, and_self, or_true, true_or, or_false, false_or, not_true_eq_false, not_false_eq_true, Option.toList_some, Option.toList_none, List.cons_append, List.nil_append, List.map_nil, List.map_cons, List.sum_nil, List.sum_cons, cat_i, cat_l, cat_r, cat_n, Nat.reduceLeDiff, Nat.reduceAdd, Nat.reduceEqDiff, Nat.zero_le, p_ent, p_u_ne, p_u_at, reduceIte, if_true, if_false, c1, nb32, e18, a18, b18, hJ2, cm, ad, P_ce s158, P_ce s159, P_ce s158b, P_ce s159b, P_ce s159c]
      exact P_ls n13 one_l
theorem pl_161 {N : Nat} (hM : mB B T I) (hN : tkN B T N) : ∃ J, (frT I J ∧ tkR B T J (N + 1) ∧ J 123 18 = nI N) ∧ P_m (d + 1) 161 [.ref 123, .int (nI T)] (p_mk Ls I L R X) (fun v h' => v = none ∧ h' = p_mk Ls J L R X) := by
  have T4 := hM.1
  obtain ⟨n1, n2, n3, n4⟩ := hN
  have loop : ∀ n k j J, k + n = T → nb B T k = tS B T j → (∀ i, i < j → tS B T i < T) → frT I J → J 123 18 = nI j → tkR B T J j → P_run (d + 1) 161 (p_bk 161 1) 0 0 [.ref 123, .int (nI T), .int (nI k)] [] (p_mk Ls J L R X) (fun v h' => v = none ∧ ∃ J', (frT I J' ∧ tkR B T J' (N + 1) ∧ J' 123 18 = nI N) ∧ h' = p_mk Ls J' L R X) := by
    intro n
    induction n using Nat.strongRecOn with
    | ind n ih =>
      intro k j J hk hnb hjl fJ e18 hR
      have jN : j ≤ N := Nat.not_lt.mp (fun h => by have := hjl N h; omega)
      by_cases kT : k = T
      · have tj : tS B T j = T := by rw [← hnb, kT]; exact sp_n (Or.inl (Nat.le_refl T))
        have ej : j = N := by
          refine Nat.le_antisymm jN (Nat.not_lt.mp (fun h => ?_))
          have := n3 j h
          omega
        subst ej
        have c0 := n4 j (Nat.le_refl j)
        have v0 : tV B T j = 0 := by unfold tV vlT; rw [if_pos (by omega)]
        have e18' : p_u J 134 j (nI T) 123 18 = nI j := by rw [p_u_ne (by omega)]; exact e18
        have e18'' : p_u (p_u J 134 j (nI T)) 132 j (nI 0) 123 18 = nI j := by rw [p_u_ne (by omega)]; exact e18'
        have fin : frT I (p_u (p_u (p_u J 134 j (nI T)) 132 j (nI 0)) 133 j (nI 0)) ∧ tkR B T (p_u (p_u (p_u J 134 j (nI T)) 132 j (nI 0)) 133 j (nI 0)) (j + 1) ∧ p_u (p_u (p_u J 134 j (nI T)) 132 j (nI 0)) 133 j (nI 0) 123 18 = nI j := by
          refine ⟨⟨fun a a1 a2 a3 a4 => by rw [p_u_ne a3, p_u_ne a2, p_u_ne a4]; exact fJ.1 a a1 a2 a3 a4, fun m hm => by rw [p_u_ne (by omega), p_u_ne (by omega), p_u_ne (by omega)]; exact fJ.2 m hm⟩, fun i hi => ?_, by rw [p_u_ne (by omega)]; exact e18''⟩
          rw [p_u_ne (by omega), p_u_at, p_u_at, p_u_ne (show ¬ 134 = 133 by omega), p_u_ne (show ¬ 134 = 132 by omega), p_u_at, p_u_ne (show ¬ 132 = 134 by omega), p_u_ne (show ¬ 133 = 132 by omega), p_u_ne (show ¬ 133 = 134 by omega)]
          by_cases e : i = j
          · rw [if_pos e, if_pos e, if_pos e, e, c0, v0, tj]; exact ⟨rfl, rfl, rfl⟩
          · rw [if_neg e, if_neg e, if_neg e]; exact hR i (by omega)
        clear ih
        subst kT
        rw [P_run_eq, bk_161_1, pb_161_1]; simp -implicitDefEqProofs (disch := first | omega | decide) only [P_m, ↓P_run_eq _ 161 _ (p_bk 161 14), bk_161_14, pb_161_14, pw_iload_n2, pw_iload_n1, pw_cge, pw_aload_n0, pw_aloadN_n0, pw_getR, pw_bald, pw_istore_n3, ps_3, pe_3, po_i3, po_r3, po_n3, po_u3, pw_iload_n3, pw_bipush, bl_32, pw_cne, pw_iinc_2, il_1, po_i2, po_r2, po_n2, po_u2, pw_goto, pw_getI, pw_iast, pw_iconst, il_0, pw_vret, kd_123, rf_123_1, rf_123_2, rf_123_3, rf_123_4, rf_123_5, rf_123_7, rf_123_11, rf_123_12, rf_123_15, rf_123_16, rf_123_17, rf_123_26, rf_123_29, rf_123_30, rf_123_32, rf_123_34, rf_123_35, rf_123_45, kd_132, kd_133, kd_134, n_0, n_1, n_32, nn_lt, nn_nlt, nn_le, nn_nle, nn_ne, nn_sub, nn_mul, nI_add, nn_neg, nm_eq, mn_eq, mm_eq, mn_lt, nm_lt, mn_le, nm_le, nn_sub0, nn_of, implies_true, nn_c, nn_in, nn_div, nat_rem, Nat.reduceMul, Nat.reduceSub, Nat.reduceDiv, Nat.reduceMod, pf_at, pf_ne, mk_s, mk_1, Classical.not_not, b2i_T, b2i_F, false_imp_iff, true_imp_iff, false_and, and_false, p_sw, Int.reduceAdd, Int.zero_add, Option.some.injEq, Value.int.injEq, Value.long.injEq, Value.ref.injEq, exists_eq_left', mk_I, mk_L, mk_wI, mk_wL, rf_s, rf_n, true_and, and_true, and_self, or_true, true_or, or_false, false_or, not_true_eq_false, not_false_eq_true, Option.toList_some, Option.toList_none, List.cons_append, List.nil_append, List.map_nil, List.map_cons, List.sum_nil, List.sum_cons, cat_i, cat_l, cat_r, cat_n, Nat.reduceLeDiff, Nat.reduceAdd, Nat.reduceEqDiff, Nat.zero_le, p_ent, p_u_ne, p_u_at, reduceIte, if_true, if_false, e18, e18', e18'']
        exact ⟨_, fin, rfl⟩
      · obtain ⟨c1, c2⟩ := (mB_f hM fJ).2.1 k (by omega)
        by_cases bl : B k = 32
        · have nx := ih (n - 1) (by omega) (k + 1) j J (by omega) (by rw [← hnb]; exact (sp_y (by omega) (decide_eq_true bl)).symm) hjl fJ e18 hR
          rw [(sB_bl _ c2).1.mpr bl] at c1
          clear ih
          rw [P_run_eq, bk_161_1, pb_161_1]; simp -implicitDefEqProofs (disch := first | omega | decide) only [P_m, pw_iload_n2, pw_iload_n1, pw_cge, pw_aload_n0, pw_aloadN_n0, pw_getR, pw_bald, pw_istore_n3, ps_3, pe_3, po_i3, po_r3, po_n3, po_u3, pw_iload_n3, pw_bipush, bl_32, pw_cne, pw_iinc_2, il_1, po_i2, po_r2, po_n2, po_u2, pw_goto, kd_123, rf_123_1, rf_123_2, rf_123_3, rf_123_4, rf_123_5, rf_123_7, rf_123_11, rf_123_12, rf_123_15, rf_123_16, rf_123_17, rf_123_26, rf_123_29, rf_123_30, rf_123_32, rf_123_34, rf_123_35, rf_123_45, kd_130, n_0, n_1, n_32, nn_lt, nn_nlt, nn_le, nn_nle, nn_ne, nn_sub, nn_mul, nI_add, nn_neg, nm_eq, mn_eq, mm_eq, mn_lt, nm_lt, mn_le, nm_le, nn_sub0, nn_of, implies_true, nn_c, nn_in, nn_div, nat_rem, Nat.reduceMul, Nat.reduceSub, Nat.reduceDiv, Nat.reduceMod, pf_at, pf_ne, mk_s, mk_1, Classical.not_not, b2i_T, b2i_F, false_imp_iff, true_imp_iff, false_and, and_false, p_sw, Int.reduceAdd, Int.zero_add, Option.some.injEq, Value.int.injEq, Value.long.injEq, Value.ref.injEq, exists_eq_left', mk_I, mk_L, mk_wI, mk_wL, rf_s, rf_n, true_and, and_true, and_self, or_true, true_or, or_false, false_or, not_true_eq_false, not_false_eq_true, Option.toList_some, Option.toList_none, List.cons_append, List.nil_append, List.map_nil, List.map_cons, List.sum_nil, List.sum_cons, cat_i, cat_l, cat_r, cat_n, Nat.reduceLeDiff, Nat.reduceAdd, Nat.reduceEqDiff, Nat.zero_le, p_ent, p_u_ne, p_u_at, reduceIte, if_true, if_false, c1]
          exact P_ls nx one_l
        · have nk : nb B T k = k := sp_n (Or.inr (decide_eq_false bl))
          have ek : tS B T j = k := by rw [← hnb, nk]
          obtain ⟨t1, t2, t3⟩ := te_b (B := B) (show k ≤ T by omega)
          have t3 := t3 (by omega)
          have jN2 : j < N := Nat.lt_of_le_of_ne jN (fun e => by rw [e] at ek; omega)
          refine lp_161t (mB_f hM fJ) (by omega) (by omega) e18 ek bl ?_
          refine ih (T - te B T k) (by omega) (te B T k) (j + 1) _ (by omega) ?_ ?_ ?_ ?_ ?_
          · rw [← ek]; rfl
          · intro i hi
            by_cases e : i = j
            · rw [e]; omega
            · exact hjl i (by omega)
          · exact ⟨fun a a1 a2 a3 a4 => by rw [p_u_ne a1, p_u_ne a3, p_u_ne a2, p_u_ne a4]; exact fJ.1 a a1 a2 a3 a4, fun m hm => by rw [p_u_at, if_neg hm, p_u_ne (by omega), p_u_ne (by omega), p_u_ne (by omega)]; exact fJ.2 m hm⟩
          · rw [p_u_at, if_pos rfl]
          · intro i hi
            rw [p_u_ne (by omega), p_u_ne (by omega), p_u_at, p_u_ne (show ¬ 133 = 123 by omega), p_u_at, p_u_ne (show ¬ 134 = 123 by omega), p_u_ne (show ¬ 134 = 133 by omega), p_u_ne (show ¬ 134 = 132 by omega), p_u_at, p_u_ne (show ¬ 132 = 134 by omega), p_u_ne (show ¬ 133 = 132 by omega), p_u_ne (show ¬ 133 = 134 by omega)]
            by_cases e : i = j
            · rw [if_pos e, if_pos e, if_pos e, e]; exact ⟨rfl, rfl, rfl⟩
            · rw [if_neg e, if_neg e, if_neg e]; exact hR i (by omega)
  have st := loop T 0 0 (p_u I 123 18 (nI 0)) (by omega) rfl (fun i hi => absurd hi (Nat.not_lt_zero i)) ⟨fun a a1 _ _ _ => p_u_ne a1, fun m hm => by rw [p_u_at, if_neg hm]⟩ (by rw [p_u_at, if_pos rfl]) (fun i hi => absurd hi (Nat.not_lt_zero i))
  have all : P_m (d + 1) 161 [.ref 123, .int (nI T)] (p_mk Ls I L R X) (fun v h' => v = none ∧ ∃ J', (frT I J' ∧ tkR B T J' (N + 1) ∧ J' 123 18 = nI N) ∧ h' = p_mk Ls J' L R X) := by
    simp -implicitDefEqProofs (disch := first | omega | decide) only [P_m, ↓P_run_eq _ 161 _ (p_bk 161 0), bk_161_0, pb_161_0, pw_aload_n0, pw_aloadN_n0, pw_iconst, il_0, pw_putI, pw_istore_n2, ps_2, pe_2, po_i2, po_r2, po_n2, po_u2, pw_nop, kd_123, rf_123_1, rf_123_2, rf_123_3, rf_123_4, rf_123_5, rf_123_7, rf_123_11, rf_123_12, rf_123_15, rf_123_16, rf_123_17, rf_123_26, rf_123_29, rf_123_30, rf_123_32, rf_123_34, rf_123_35, rf_123_45, n_0, n_1, nn_lt, nn_nlt, nn_le, nn_nle, nn_ne, nn_sub, nn_mul, nI_add, nn_neg, nm_eq, mn_eq, mm_eq, mn_lt, nm_lt, mn_le, nm_le, nn_sub0, nn_of, implies_true, nn_c, nn_in, nn_div, nat_rem, Nat.reduceMul, Nat.reduceSub, Nat.reduceDiv, Nat.reduceMod, pf_at, pf_ne, mk_s, mk_1, Classical.not_not, b2i_T, b2i_F, false_imp_iff, true_imp_iff, false_and, and_false, p_sw, Int.reduceAdd, Int.zero_add, Option.some.injEq, Value.int.injEq, Value.long.injEq, Value.ref.injEq, exists_eq_left', mk_I, mk_L, mk_wI, mk_wL, rf_s, rf_n, true_and, and_true, and_self, or_true, true_or, or_false, false_or, not_true_eq_false, not_false_eq_true, Option.toList_some, Option.toList_none, List.cons_append, List.nil_append, List.map_nil, List.map_cons, List.sum_nil, List.sum_cons, cat_i, cat_l, cat_r, cat_n, Nat.reduceLeDiff, Nat.reduceAdd, Nat.reduceEqDiff, Nat.zero_le, p_ent, p_u_ne, p_u_at, reduceIte, if_true, if_false]
    exact st
  obtain ⟨v, g', ⟨rfl, J', f1, rfl⟩, s⟩ := P_mex all
  exact ⟨J', f1, s⟩
end SM
