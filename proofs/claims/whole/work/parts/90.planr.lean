/-! PLANS OF THE REFERENCE -/
def pfI : Option Nat → Int32
  | none => nI 1000000
  | some v => nI v
section PR
variable {d Ls : Nat} {I : Nat → Nat → Int32} {L : Nat → Nat → Int64} {R : Nat → Nat → Option Nat} {X : List pKd} {h : pHp} {c : Option (List tCl)}
theorem sp_224 {s : Nat} {g : Option Nat} (hs : s < 256) (hg : ∀ k, g = some k → k < 256) : P_m (d + 1) 224 [.int (nI s), .int (pnI g)] h (fun v h' => v = some (.int (nI (bN (tld g s)))) ∧ h' = h) := by
  have c1 := sp_132n (d := d) (h := h) hs
  cases g with
  | none =>
    have pl := pc_le s
    by_cases c : pc s ≤ 1
    · have e : tld none s = true := decide_eq_true c
      rw [e]
      simp -implicitDefEqProofs (disch := first | omega | decide) only [P_m, ↓P_run_eq _ 224 _ (p_bk 224 0), bk_224_0, pb_224_0, ↓P_run_eq _ 224 _ (p_bk 224 1), bk_224_1, pb_224_1, ↓P_run_eq _ 224 _ (p_bk 224 2), bk_224_2, pb_224_2, pw_iload_n1, pw_iconst, il_m1, pw_cne, pw_iload_n0, pw_is1, il_2, pw_cge, il_1, pw_goto, il_0, pw_nop, pw_ret1, n_0, n_1, n_2, nn_lt, nn_nlt, nn_le, nn_nle, nn_ne, nn_sub, nn_mul, nI_add, nn_neg, nm_eq, mn_eq, mm_eq, mn_lt, nm_lt, mn_le, nm_le, nn_sub0, nn_of, implies_true, nn_c, nn_in, nn_div, nat_rem, Nat.reduceMul, Nat.reduceSub, Nat.reduceDiv, Nat.reduceMod, pf_at, pf_ne, mk_s, mk_1, Classical.not_not, b2i_T, b2i_F, false_imp_iff, true_imp_iff, false_and, and_false, p_sw, Int.reduceAdd, Int.zero_add, Option.some.injEq, Value.int.injEq, Value.long.injEq, Value.ref.injEq, exists_eq_left', mk_I, mk_L, mk_wI, mk_wL, rf_s, rf_n, true_and, and_true, and_self, or_true, true_or, or_false, false_or, not_true_eq_false, not_false_eq_true, Option.toList_some, Option.toList_none, List.cons_append, List.nil_append, List.map_nil, List.map_cons, List.sum_nil, List.sum_cons, cat_i, cat_l, cat_r, cat_n, Nat.reduceLeDiff, Nat.reduceAdd, Nat.reduceEqDiff, Nat.zero_le, p_ent, p_u_ne, p_u_at, reduceIte, if_true, if_false, pnI, bN, P_ce c1]
    · have e : tld none s = false := decide_eq_false c
      rw [e]
      simp -implicitDefEqProofs (disch := first | omega | decide) only [P_m, ↓P_run_eq _ 224 _ (p_bk 224 0), bk_224_0, pb_224_0, ↓P_run_eq _ 224 _ (p_bk 224 1), bk_224_1, pb_224_1, ↓P_run_eq _ 224 _ (p_bk 224 2), bk_224_2, pb_224_2, pw_iload_n1, pw_iconst, il_m1, pw_cne, pw_iload_n0, pw_is1, il_2, pw_cge, il_1, pw_goto, il_0, pw_nop, pw_ret1, n_0, n_1, n_2, nn_lt, nn_nlt, nn_le, nn_nle, nn_ne, nn_sub, nn_mul, nI_add, nn_neg, nm_eq, mn_eq, mm_eq, mn_lt, nm_lt, mn_le, nm_le, nn_sub0, nn_of, implies_true, nn_c, nn_in, nn_div, nat_rem, Nat.reduceMul, Nat.reduceSub, Nat.reduceDiv, Nat.reduceMod, pf_at, pf_ne, mk_s, mk_1, Classical.not_not, b2i_T, b2i_F, false_imp_iff, true_imp_iff, false_and, and_false, p_sw, Int.reduceAdd, Int.zero_add, Option.some.injEq, Value.int.injEq, Value.long.injEq, Value.ref.injEq, exists_eq_left', mk_I, mk_L, mk_wI, mk_wL, rf_s, rf_n, true_and, and_true, and_self, or_true, true_or, or_false, false_or, not_true_eq_false, not_false_eq_true, Option.toList_some, Option.toList_none, List.cons_append, List.nil_append, List.map_nil, List.map_cons, List.sum_nil, List.sum_cons, cat_i, cat_l, cat_r, cat_n, Nat.reduceLeDiff, Nat.reduceAdd, Nat.reduceEqDiff, Nat.zero_le, p_ent, p_u_ne, p_u_at, reduceIte, if_true, if_false, pnI, bN, P_ce c1]
  | some g =>
    have hg := hg g rfl
    have e1 := nn_and s g
    have e2 := dn_n hs hg
    have l1 : s &&& g < 256 := and_256 hs
    have l2 := dn_lt (g := g) hs
    have e : tld (some g) s = (decide (s &&& g = 0) || decide (dn s g = 0)) := rfl
    rw [e]
    generalize s &&& g = z1 at *
    generalize dn s g = z2 at *
    by_cases c1 : z1 = 0
    · rw [decide_eq_true c1, Bool.true_or]
      simp -implicitDefEqProofs (disch := first | omega | decide) only [P_m, ↓P_run_eq _ 224 _ (p_bk 224 0), bk_224_0, pb_224_0, ↓P_run_eq _ 224 _ (p_bk 224 3), bk_224_3, pb_224_3, ↓P_run_eq _ 224 _ (p_bk 224 4), bk_224_4, pb_224_4, ↓P_run_eq _ 224 _ (p_bk 224 6), bk_224_6, pb_224_6, pw_iload_n1, pw_iconst, il_m1, pw_cne, pw_iload_n0, pw_is1, il_2, pw_cge, il_1, pw_goto, pw_iand, pw_zeq, pw_ixor, pw_zne, pw_nop, pw_ret1, n_0, n_1, n_2, nn_lt, nn_nlt, nn_le, nn_nle, nn_ne, nn_sub, nn_mul, nI_add, nn_neg, nm_eq, mn_eq, mm_eq, mn_lt, nm_lt, mn_le, nm_le, nn_sub0, nn_of, implies_true, nn_c, nn_in, nn_div, nat_rem, Nat.reduceMul, Nat.reduceSub, Nat.reduceDiv, Nat.reduceMod, pf_at, pf_ne, mk_s, mk_1, Classical.not_not, b2i_T, b2i_F, false_imp_iff, true_imp_iff, false_and, and_false, p_sw, Int.reduceAdd, Int.zero_add, Option.some.injEq, Value.int.injEq, Value.long.injEq, Value.ref.injEq, exists_eq_left', mk_I, mk_L, mk_wI, mk_wL, rf_s, rf_n, true_and, and_true, and_self, or_true, true_or, or_false, false_or, not_true_eq_false, not_false_eq_true, Option.toList_some, Option.toList_none, List.cons_append, List.nil_append, List.map_nil, List.map_cons, List.sum_nil, List.sum_cons, cat_i, cat_l, cat_r, cat_n, Nat.reduceLeDiff, Nat.reduceAdd, Nat.reduceEqDiff, Nat.zero_le, p_ent, p_u_ne, p_u_at, reduceIte, if_true, if_false, pnI, bN, e1, c1]
    · rw [decide_eq_false c1, Bool.false_or]
      by_cases c2 : z2 = 0
      · rw [decide_eq_true c2]
        simp -implicitDefEqProofs (disch := first | omega | decide) only [P_m, ↓P_run_eq _ 224 _ (p_bk 224 0), bk_224_0, pb_224_0, ↓P_run_eq _ 224 _ (p_bk 224 3), bk_224_3, pb_224_3, ↓P_run_eq _ 224 _ (p_bk 224 4), bk_224_4, pb_224_4, ↓P_run_eq _ 224 _ (p_bk 224 6), bk_224_6, pb_224_6, pw_iload_n1, pw_iconst, il_m1, pw_cne, pw_iload_n0, pw_is1, il_2, pw_cge, il_1, pw_goto, pw_iand, pw_zeq, pw_ixor, pw_zne, pw_nop, pw_ret1, n_0, n_1, n_2, nn_lt, nn_nlt, nn_le, nn_nle, nn_ne, nn_sub, nn_mul, nI_add, nn_neg, nm_eq, mn_eq, mm_eq, mn_lt, nm_lt, mn_le, nm_le, nn_sub0, nn_of, implies_true, nn_c, nn_in, nn_div, nat_rem, Nat.reduceMul, Nat.reduceSub, Nat.reduceDiv, Nat.reduceMod, pf_at, pf_ne, mk_s, mk_1, Classical.not_not, b2i_T, b2i_F, false_imp_iff, true_imp_iff, false_and, and_false, p_sw, Int.reduceAdd, Int.zero_add, Option.some.injEq, Value.int.injEq, Value.long.injEq, Value.ref.injEq, exists_eq_left', mk_I, mk_L, mk_wI, mk_wL, rf_s, rf_n, true_and, and_true, and_self, or_true, true_or, or_false, false_or, not_true_eq_false, not_false_eq_true, Option.toList_some, Option.toList_none, List.cons_append, List.nil_append, List.map_nil, List.map_cons, List.sum_nil, List.sum_cons, cat_i, cat_l, cat_r, cat_n, Nat.reduceLeDiff, Nat.reduceAdd, Nat.reduceEqDiff, Nat.zero_le, p_ent, p_u_ne, p_u_at, reduceIte, if_true, if_false, pnI, bN, e1, c1, e2, c2]
      · rw [decide_eq_false c2]
        simp -implicitDefEqProofs (disch := first | omega | decide) only [P_m, ↓P_run_eq _ 224 _ (p_bk 224 0), bk_224_0, pb_224_0, ↓P_run_eq _ 224 _ (p_bk 224 3), bk_224_3, pb_224_3, ↓P_run_eq _ 224 _ (p_bk 224 5), bk_224_5, pb_224_5, ↓P_run_eq _ 224 _ (p_bk 224 6), bk_224_6, pb_224_6, pw_iload_n1, pw_iconst, il_m1, pw_cne, pw_iload_n0, pw_is1, il_2, pw_cge, il_1, pw_goto, pw_iand, pw_zeq, pw_ixor, pw_zne, pw_nop, il_0, pw_ret1, n_0, n_1, n_2, nn_lt, nn_nlt, nn_le, nn_nle, nn_ne, nn_sub, nn_mul, nI_add, nn_neg, nm_eq, mn_eq, mm_eq, mn_lt, nm_lt, mn_le, nm_le, nn_sub0, nn_of, implies_true, nn_c, nn_in, nn_div, nat_rem, Nat.reduceMul, Nat.reduceSub, Nat.reduceDiv, Nat.reduceMod, pf_at, pf_ne, mk_s, mk_1, Classical.not_not, b2i_T, b2i_F, false_imp_iff, true_imp_iff, false_and, and_false, p_sw, Int.reduceAdd, Int.zero_add, Option.some.injEq, Value.int.injEq, Value.long.injEq, Value.ref.injEq, exists_eq_left', mk_I, mk_L, mk_wI, mk_wL, rf_s, rf_n, true_and, and_true, and_self, or_true, true_or, or_false, false_or, not_true_eq_false, not_false_eq_true, Option.toList_some, Option.toList_none, List.cons_append, List.nil_append, List.map_nil, List.map_cons, List.sum_nil, List.sum_cons, cat_i, cat_l, cat_r, cat_n, Nat.reduceLeDiff, Nat.reduceAdd, Nat.reduceEqDiff, Nat.zero_le, p_ent, p_u_ne, p_u_at, reduceIte, if_true, if_false, pnI, bN, e1, c1, e2, c2]
/-- what the reference's table says -/
def tbR (I : Nat → Nat → Int32) (T : Nat → Option Nat) (A s : Nat) : Prop := ∀ s', s' < s → dn s' A = 0 → I 138 s' = pfI (T s')
theorem pl_225 {s q n A a : Nat} {T : Nat → Option Nat} {w : Nat → Nat} {md : Bool} (hn : n ≤ 8) (hw : ∀ t, t < n → w t ≤ 99) (hs : s < 256) (hq : q < 8) (hA : dn s A = 0) (hb : tbB n w md T) (hT : tbR I T A s) (ha : a ≤ 65535) (e37 : I 125 (37 + q) = nI a) (e52 : I 125 52 = nI n) :
    P_m (d + 2) 225 [.ref 123, .int (nI q), .int (nI s)] (p_mk Ls I L R X) (fun v h' => v = some (.int (nI (bN (bhx T a n s 4).isSome))) ∧ h' = p_mk Ls I L R X) := by
  have loop : ∀ x, x ≤ 4 → ∀ b, bhx T a n s x = some b → P_run (d + 2) 225 (p_bk 225 1) 0 0 [.ref 123, .int (nI q), .int (nI s), .int (nI 1), .int (nI x)] [] (p_mk Ls I L R X) (fun v h' => v = some (.int (nI (bN (bhx T a n s 4).isSome))) ∧ h' = p_mk Ls I L R X) := by
    refine down_ind ?_ ?_
    · intro b e
      rw [e]
      rw [P_run_eq, bk_225_1, pb_225_1]; simp -implicitDefEqProofs (disch := first | omega | decide) only [P_m, ↓P_run_eq _ 225 _ (p_bk 225 4), bk_225_4, pb_225_4, pw_iload_4, pw_iconst, il_4, pw_cge, pw_iload_n3, pw_zeq, pw_aload_n0, pw_aloadN_n0, pw_iload_n1, pw_iload_n2, pw_iv4, pw_istore, ps_5, pe_5, po_i5, po_r5, po_n5, po_u5, pw_iload_5, pw_ceq, pw_getR, pw_iald, pw_ldc, cn_6, il_1, pw_goto, pw_ret1, n_0, n_1, n_4, nn_lt, nn_nlt, nn_le, nn_nle, nn_ne, nn_sub, nn_mul, nI_add, nn_neg, nm_eq, mn_eq, mm_eq, mn_lt, nm_lt, mn_le, nm_le, nn_sub0, nn_of, implies_true, nn_c, nn_in, nn_div, nat_rem, Nat.reduceMul, Nat.reduceSub, Nat.reduceDiv, Nat.reduceMod, pf_at, pf_ne, mk_s, mk_1, Classical.not_not, b2i_T, b2i_F, false_imp_iff, true_imp_iff, false_and, and_false, p_sw, Int.reduceAdd, Int.zero_add, Option.some.injEq, Value.int.injEq, Value.long.injEq, Value.ref.injEq, exists_eq_left', mk_I, mk_L, mk_wI, mk_wL, rf_s, rf_n, true_and, and_true, and_self, or_true, true_or, or_false, false_or, not_true_eq_false, not_false_eq_true, Option.toList_some, Option.toList_none, List.cons_append, List.nil_append, List.map_nil, List.map_cons, List.sum_nil, List.sum_cons, cat_i, cat_l, cat_r, cat_n, Nat.reduceLeDiff, Nat.reduceAdd, Nat.reduceEqDiff, Nat.zero_le, p_ent, p_u_ne, p_u_at, reduceIte, if_true, if_false, bN]
      rfl
    · intro x hx ih b e
      have s1 := sp_202 (d := d) (Ls := Ls) (I := I) (L := L) (R := R) (X := X) hq hn hs hx ha e37 e52
      have a2 : alk a n s x < 256 := bs_256 hn
      have ex : bhx T a n s (x + 1) = (if alk a n s x = s then none else match T (alk a n s x) with
          | none => none
          | some v => some (b.1 + v, if b.2 < v then v else b.2)) := by
        show (match bhx T a n s x with | none => none | some b => _) = _
        rw [e]
        rfl
      have out : bhx T a n s 4 = none → ∀ l : Value, l.category = 1 → P_run (d + 2) 225 (p_bk 225 1) 0 0 [.ref 123, .int (nI q), .int (nI s), .int (nI 0), .int (nI (x + 1)), l] [] (p_mk Ls I L R X) (fun v h' => v = some (.int (nI (bN (bhx T a n s 4).isSome))) ∧ h' = p_mk Ls I L R X) := by
        intro e4 l hl
        rw [e4]
        by_cases c4 : x + 1 = 4
        · rw [c4]
          rw [P_run_eq, bk_225_1, pb_225_1]; simp -implicitDefEqProofs (disch := first | omega | decide) only [P_m, ↓P_run_eq _ 225 _ (p_bk 225 4), bk_225_4, pb_225_4, pw_iload_4, pw_iconst, il_4, pw_cge, pw_iload_n3, pw_zeq, pw_aload_n0, pw_aloadN_n0, pw_iload_n1, pw_iload_n2, pw_iv4, pw_istore, ps_5, pe_5, po_i5, po_r5, po_n5, po_u5, pw_iload_5, pw_ceq, pw_getR, pw_iald, pw_ldc, cn_6, il_1, pw_goto, pw_ret1, n_0, n_1, n_4, nn_lt, nn_nlt, nn_le, nn_nle, nn_ne, nn_sub, nn_mul, nI_add, nn_neg, nm_eq, mn_eq, mm_eq, mn_lt, nm_lt, mn_le, nm_le, nn_sub0, nn_of, implies_true, nn_c, nn_in, nn_div, nat_rem, Nat.reduceMul, Nat.reduceSub, Nat.reduceDiv, Nat.reduceMod, pf_at, pf_ne, mk_s, mk_1, Classical.not_not, b2i_T, b2i_F, false_imp_iff, true_imp_iff, false_and, and_false, p_sw, Int.reduceAdd, Int.zero_add, Option.some.injEq, Value.int.injEq, Value.long.injEq, Value.ref.injEq, exists_eq_left', mk_I, mk_L, mk_wI, mk_wL, rf_s, rf_n, true_and, and_true, and_self, or_true, true_or, or_false, false_or, not_true_eq_false, not_false_eq_true, Option.toList_some, Option.toList_none, List.cons_append, List.nil_append, List.map_nil, List.map_cons, List.sum_nil, List.sum_cons, cat_i, cat_l, cat_r, cat_n, Nat.reduceLeDiff, Nat.reduceAdd, Nat.reduceEqDiff, Nat.zero_le, p_ent, p_u_ne, p_u_at, reduceIte, if_true, if_false, bN]
          rfl
        · have : x + 1 < 4 := by omega
          rw [P_run_eq, bk_225_1, pb_225_1]; simp -implicitDefEqProofs (disch := first | omega | decide) only [P_m, ↓P_run_eq _ 225 _ (p_bk 225 4), bk_225_4, pb_225_4, pw_iload_4, pw_iconst, il_4, pw_cge, pw_iload_n3, pw_zeq, pw_aload_n0, pw_aloadN_n0, pw_iload_n1, pw_iload_n2, pw_iv4, pw_istore, ps_5, pe_5, po_i5, po_r5, po_n5, po_u5, pw_iload_5, pw_ceq, pw_getR, pw_iald, pw_ldc, cn_6, il_1, pw_goto, pw_ret1, n_0, n_1, n_4, nn_lt, nn_nlt, nn_le, nn_nle, nn_ne, nn_sub, nn_mul, nI_add, nn_neg, nm_eq, mn_eq, mm_eq, mn_lt, nm_lt, mn_le, nm_le, nn_sub0, nn_of, implies_true, nn_c, nn_in, nn_div, nat_rem, Nat.reduceMul, Nat.reduceSub, Nat.reduceDiv, Nat.reduceMod, pf_at, pf_ne, mk_s, mk_1, Classical.not_not, b2i_T, b2i_F, false_imp_iff, true_imp_iff, false_and, and_false, p_sw, Int.reduceAdd, Int.zero_add, Option.some.injEq, Value.int.injEq, Value.long.injEq, Value.ref.injEq, exists_eq_left', mk_I, mk_L, mk_wI, mk_wL, rf_s, rf_n, true_and, and_true, and_self, or_true, true_or, or_false, false_or, not_true_eq_false, not_false_eq_true, Option.toList_some, Option.toList_none, List.cons_append, List.nil_append, List.map_nil, List.map_cons, List.sum_nil, List.sum_cons, cat_i, cat_l, cat_r, cat_n, Nat.reduceLeDiff, Nat.reduceAdd, Nat.reduceEqDiff, Nat.zero_le, p_ent, p_u_ne, p_u_at, reduceIte, if_true, if_false, bN]
          rfl
      by_cases c : alk a n s x = s
      · rw [if_pos c] at ex
        have := out (bhx_4 hx ex) (.int (nI s)) rfl
        rw [c] at s1
        generalize (bhx T a n s 4).isSome = B at *
        rw [P_run_eq, bk_225_1, pb_225_1]; simp -implicitDefEqProofs (disch := first | omega | decide) only [P_m, ↓P_run_eq _ 225 _ (p_bk 225 2), bk_225_2, pb_225_2, ↓P_run_eq _ 225 _ (p_bk 225 3), bk_225_3, pb_225_3, pw_iload_4, pw_iconst, il_4, pw_cge, pw_iload_n3, pw_zeq, pw_aload_n0, pw_aloadN_n0, pw_iload_n1, pw_iload_n2, pw_iv4, pw_istore, ps_5, pe_5, po_i5, po_r5, po_n5, po_u5, pw_iload_5, pw_ceq, pw_getR, pw_iald, pw_ldc, cn_6, il_1, pw_goto, il_0, pw_nop, pw_istore_n3, ps_3, pe_3, po_i3, po_r3, po_n3, po_u3, pw_iinc_4, po_i4, po_r4, po_n4, po_u4, kd_123, rf_123_1, rf_123_2, rf_123_3, rf_123_4, rf_123_5, rf_123_7, rf_123_11, rf_123_12, rf_123_15, rf_123_16, rf_123_17, rf_123_26, rf_123_29, rf_123_30, rf_123_32, rf_123_34, rf_123_35, rf_123_45, n_0, n_1, n_4, nn_lt, nn_nlt, nn_le, nn_nle, nn_ne, nn_sub, nn_mul, nI_add, nn_neg, nm_eq, mn_eq, mm_eq, mn_lt, nm_lt, mn_le, nm_le, nn_sub0, nn_of, implies_true, nn_c, nn_in, nn_div, nat_rem, Nat.reduceMul, Nat.reduceSub, Nat.reduceDiv, Nat.reduceMod, pf_at, pf_ne, mk_s, mk_1, Classical.not_not, b2i_T, b2i_F, false_imp_iff, true_imp_iff, false_and, and_false, p_sw, Int.reduceAdd, Int.zero_add, Option.some.injEq, Value.int.injEq, Value.long.injEq, Value.ref.injEq, exists_eq_left', mk_I, mk_L, mk_wI, mk_wL, rf_s, rf_n, true_and, and_true, and_self, or_true, true_or, or_false, false_or, not_true_eq_false, not_false_eq_true, Option.toList_some, Option.toList_none, List.cons_append, List.nil_append, List.map_nil, List.map_cons, List.sum_nil, List.sum_cons, cat_i, cat_l, cat_r, cat_n, Nat.reduceLeDiff, Nat.reduceAdd, Nat.reduceEqDiff, Nat.zero_le, p_ent, p_u_ne, p_u_at, reduceIte, if_true, if_false, P_ce s1]
        exact this
      · rw [if_neg c] at ex
        have t2 := hT _ (alk_lt hn hs c) (alk_in hn hs hA)
        cases e2 : T (alk a n s x) with
        | none =>
          rw [e2] at ex t2
          have := out (bhx_4 hx ex) (.int (nI (alk a n s x))) rfl
          replace t2 : I 138 (alk a n s x) = nI 1000000 := t2
          generalize alk a n s x = z at *
          generalize (bhx T a n s 4).isSome = B at *
          rw [P_run_eq, bk_225_1, pb_225_1]; simp -implicitDefEqProofs (disch := first | omega | decide) only [P_m, ↓P_run_eq _ 225 _ (p_bk 225 2), bk_225_2, pb_225_2, ↓P_run_eq _ 225 _ (p_bk 225 3), bk_225_3, pb_225_3, pw_iload_4, pw_iconst, il_4, pw_cge, pw_iload_n3, pw_zeq, pw_aload_n0, pw_aloadN_n0, pw_iload_n1, pw_iload_n2, pw_iv4, pw_istore, ps_5, pe_5, po_i5, po_r5, po_n5, po_u5, pw_iload_5, pw_ceq, pw_getR, pw_iald, pw_ldc, cn_6, il_1, pw_goto, il_0, pw_nop, pw_istore_n3, ps_3, pe_3, po_i3, po_r3, po_n3, po_u3, pw_iinc_4, po_i4, po_r4, po_n4, po_u4, kd_123, rf_123_1, rf_123_2, rf_123_3, rf_123_4, rf_123_5, rf_123_7, rf_123_11, rf_123_12, rf_123_15, rf_123_16, rf_123_17, rf_123_26, rf_123_29, rf_123_30, rf_123_32, rf_123_34, rf_123_35, rf_123_45, kd_138, n_0, n_1, n_4, nn_lt, nn_nlt, nn_le, nn_nle, nn_ne, nn_sub, nn_mul, nI_add, nn_neg, nm_eq, mn_eq, mm_eq, mn_lt, nm_lt, mn_le, nm_le, nn_sub0, nn_of, implies_true, nn_c, nn_in, nn_div, nat_rem, Nat.reduceMul, Nat.reduceSub, Nat.reduceDiv, Nat.reduceMod, pf_at, pf_ne, mk_s, mk_1, Classical.not_not, b2i_T, b2i_F, false_imp_iff, true_imp_iff, false_and, and_false, p_sw, Int.reduceAdd, Int.zero_add, Option.some.injEq, Value.int.injEq, Value.long.injEq, Value.ref.injEq, exists_eq_left', mk_I, mk_L, mk_wI, mk_wL, rf_s, rf_n, true_and, and_true, and_self, or_true, true_or, or_false, false_or, not_true_eq_false, not_false_eq_true, Option.toList_some, Option.toList_none, List.cons_append, List.nil_append, List.map_nil, List.map_cons, List.sum_nil, List.sum_cons, cat_i, cat_l, cat_r, cat_n, Nat.reduceLeDiff, Nat.reduceAdd, Nat.reduceEqDiff, Nat.zero_le, p_ent, p_u_ne, p_u_at, reduceIte, if_true, if_false, n_1000000, t2, c, P_ce s1]
          exact this
        | some v =>
          rw [e2] at ex t2
          have l3 := tbB_le hn hw hb e2
          replace t2 : I 138 (alk a n s x) = nI v := t2
          have ih := ih _ ex
          generalize alk a n s x = z at *
          generalize (bhx T a n s 4).isSome = B at *
          rw [P_run_eq, bk_225_1, pb_225_1]; simp -implicitDefEqProofs (disch := first | omega | decide) only [P_m, ↓P_run_eq _ 225 _ (p_bk 225 2), bk_225_2, pb_225_2, ↓P_run_eq _ 225 _ (p_bk 225 3), bk_225_3, pb_225_3, pw_iload_4, pw_iconst, il_4, pw_cge, pw_iload_n3, pw_zeq, pw_aload_n0, pw_aloadN_n0, pw_iload_n1, pw_iload_n2, pw_iv4, pw_istore, ps_5, pe_5, po_i5, po_r5, po_n5, po_u5, pw_iload_5, pw_ceq, pw_getR, pw_iald, pw_ldc, cn_6, il_1, pw_goto, il_0, pw_nop, pw_istore_n3, ps_3, pe_3, po_i3, po_r3, po_n3, po_u3, pw_iinc_4, po_i4, po_r4, po_n4, po_u4, kd_123, rf_123_1, rf_123_2, rf_123_3, rf_123_4, rf_123_5, rf_123_7, rf_123_11, rf_123_12, rf_123_15, rf_123_16, rf_123_17, rf_123_26, rf_123_29, rf_123_30, rf_123_32, rf_123_34, rf_123_35, rf_123_45, kd_138, n_0, n_1, n_4, nn_lt, nn_nlt, nn_le, nn_nle, nn_ne, nn_sub, nn_mul, nI_add, nn_neg, nm_eq, mn_eq, mm_eq, mn_lt, nm_lt, mn_le, nm_le, nn_sub0, nn_of, implies_true, nn_c, nn_in, nn_div, nat_rem, Nat.reduceMul, Nat.reduceSub, Nat.reduceDiv, Nat.reduceMod, pf_at, pf_ne, mk_s, mk_1, Classical.not_not, b2i_T, b2i_F, false_imp_iff, true_imp_iff, false_and, and_false, p_sw, Int.reduceAdd, Int.zero_add, Option.some.injEq, Value.int.injEq, Value.long.injEq, Value.ref.injEq, exists_eq_left', mk_I, mk_L, mk_wI, mk_wL, rf_s, rf_n, true_and, and_true, and_self, or_true, true_or, or_false, false_or, not_true_eq_false, not_false_eq_true, Option.toList_some, Option.toList_none, List.cons_append, List.nil_append, List.map_nil, List.map_cons, List.sum_nil, List.sum_cons, cat_i, cat_l, cat_r, cat_n, Nat.reduceLeDiff, Nat.reduceAdd, Nat.reduceEqDiff, Nat.zero_le, p_ent, p_u_ne, p_u_at, reduceIte, if_true, if_false, n_1000000, t2, c, P_ce s1]
          exact P_ls ih one_l
  simp -implicitDefEqProofs (disch := first | omega | decide) only [P_m, ↓P_run_eq _ 225 _ (p_bk 225 0), bk_225_0, pb_225_0, pw_iconst, il_1, pw_istore_n3, ps_3, pe_3, po_i3, po_r3, po_n3, po_u3, il_0, pw_istore, ps_4, pe_4, po_i4, po_r4, po_n4, po_u4, pw_nop, kd_123, rf_123_1, rf_123_2, rf_123_3, rf_123_4, rf_123_5, rf_123_7, rf_123_11, rf_123_12, rf_123_15, rf_123_16, rf_123_17, rf_123_26, rf_123_29, rf_123_30, rf_123_32, rf_123_34, rf_123_35, rf_123_45, n_0, n_1, nn_lt, nn_nlt, nn_le, nn_nle, nn_ne, nn_sub, nn_mul, nI_add, nn_neg, nm_eq, mn_eq, mm_eq, mn_lt, nm_lt, mn_le, nm_le, nn_sub0, nn_of, implies_true, nn_c, nn_in, nn_div, nat_rem, Nat.reduceMul, Nat.reduceSub, Nat.reduceDiv, Nat.reduceMod, pf_at, pf_ne, mk_s, mk_1, Classical.not_not, b2i_T, b2i_F, false_imp_iff, true_imp_iff, false_and, and_false, p_sw, Int.reduceAdd, Int.zero_add, Option.some.injEq, Value.int.injEq, Value.long.injEq, Value.ref.injEq, exists_eq_left', mk_I, mk_L, mk_wI, mk_wL, rf_s, rf_n, true_and, and_true, and_self, or_true, true_or, or_false, false_or, not_true_eq_false, not_false_eq_true, Option.toList_some, Option.toList_none, List.cons_append, List.nil_append, List.map_nil, List.map_cons, List.sum_nil, List.sum_cons, cat_i, cat_l, cat_r, cat_n, Nat.reduceLeDiff, Nat.reduceAdd, Nat.reduceEqDiff, Nat.zero_le, p_ent, p_u_ne, p_u_at, reduceIte, if_true, if_false]
  exact loop 0 (by omega) (0, 0) rfl
theorem bhx_s1 {T : Nat → Option Nat} {a n s x : Nat} {B : Nat × Nat} (hx : x < 4) (h : bhx T a n s 4 = some B) {b : Nat × Nat} (e : bhx T a n s x = some b) : ∃ v, ¬ alk a n s x = s ∧ T (alk a n s x) = some v ∧ bhx T a n s (x + 1) = some (b.1 + v, if b.2 < v then v else b.2) := by
  have ex : bhx T a n s (x + 1) = (if alk a n s x = s then none else match T (alk a n s x) with
      | none => none
      | some v => some (b.1 + v, if b.2 < v then v else b.2)) := by
    show (match bhx T a n s x with | none => none | some b => _) = _
    rw [e]
    rfl
  by_cases c : alk a n s x = s
  · rw [if_pos c] at ex
    rw [bhx_4 hx ex] at h
    cases h
  · rw [if_neg c] at ex
    cases e2 : T (alk a n s x) with
    | none =>
      rw [e2] at ex
      rw [bhx_4 hx ex] at h
      cases h
    | some v =>
      rw [e2] at ex
      exact ⟨v, c, rfl, ex⟩
theorem pl_226 {s q n A a : Nat} {T : Nat → Option Nat} {w : Nat → Nat} {md : Bool} {B : Nat × Nat} (hn : n ≤ 8) (hw : ∀ t, t < n → w t ≤ 99) (hs : s < 256) (hA : dn s A = 0) (hb : tbB n w md T) (hT : tbR I T A s) (ha : a ≤ 65535) (e37 : I 125 (37 + q) = nI a) (e52 : I 125 52 = nI n) (hB : bhx T a n s 4 = some B) (hc : lawOf (I 125) c) (hq : envOk (I 125) q) :
    ∃ J, frE I J ∧ P_m (d + 48) 226 [.ref 123, .int (nI q), .int (nI s)] (p_mk Ls I L R X) (fun v h' => v = some (.int (nI (yv c (I 125) q (pc s) + B.2))) ∧ h' = p_mk Ls J L R X) := by
  obtain ⟨J, fJ, s2⟩ := ages_r (Ls := Ls) (L := L) (R := R) (X := X) (D := d + 47) hc hq (pc_le s) (by omega)
  obtain ⟨y1, y2⟩ := yv_e (c := c) hq (pc_le s)
  rw [y1] at s2
  have s3 := sp_132n (d := d + 47) (h := p_mk Ls I L R X) hs
  have loop : ∀ x, x ≤ 4 → ∀ b, bhx T a n s x = some b → P_run (d + 48) 226 (p_bk 226 1) 0 0 [.ref 123, .int (nI q), .int (nI s), .int (nI b.2), .int (nI x)] [] (p_mk Ls I L R X) (fun v h' => v = some (.int (nI (yv c (I 125) q (pc s) + B.2))) ∧ h' = p_mk Ls J L R X) := by
    refine down_ind ?_ ?_
    · intro b e
      rw [hB] at e
      cases e
      generalize yv c (I 125) q (pc s) = Y at *
      rw [P_run_eq, bk_226_1, pb_226_1]; simp -implicitDefEqProofs (disch := first | omega | decide) only [P_m, ↓P_run_eq _ 226 _ (p_bk 226 2), bk_226_2, pb_226_2, pw_iload_4, pw_iconst, il_4, pw_cge, pw_iload_n3, pw_aload_n0, pw_aloadN_n0, pw_getR, pw_iload_n1, pw_iload_n2, pw_iv4, pw_iald, pw_is2, pw_istore_n3, ps_3, pe_3, po_i3, po_r3, po_n3, po_u3, pw_iinc_4, il_1, po_i4, po_r4, po_n4, po_u4, pw_goto, pw_is1, pw_iv3, pw_iadd, pw_ret0, kd_123, rf_123_1, rf_123_2, rf_123_3, rf_123_4, rf_123_5, rf_123_7, rf_123_11, rf_123_12, rf_123_15, rf_123_16, rf_123_17, rf_123_26, rf_123_29, rf_123_30, rf_123_32, rf_123_34, rf_123_35, rf_123_45, n_0, n_1, n_4, nn_lt, nn_nlt, nn_le, nn_nle, nn_ne, nn_sub, nn_mul, nI_add, nn_neg, nm_eq, mn_eq, mm_eq, mn_lt, nm_lt, mn_le, nm_le, nn_sub0, nn_of, implies_true, nn_c, nn_in, nn_div, nat_rem, Nat.reduceMul, Nat.reduceSub, Nat.reduceDiv, Nat.reduceMod, pf_at, pf_ne, mk_s, mk_1, Classical.not_not, b2i_T, b2i_F, false_imp_iff, true_imp_iff, false_and, and_false, p_sw, Int.reduceAdd, Int.zero_add, Option.some.injEq, Value.int.injEq, Value.long.injEq, Value.ref.injEq, exists_eq_left', mk_I, mk_L, mk_wI, mk_wL, rf_s, rf_n, true_and, and_true, and_self, or_true, true_or, or_false, false_or, not_true_eq_false, not_false_eq_true, Option.toList_some, Option.toList_none, List.cons_append, List.nil_append, List.map_nil, List.map_cons, List.sum_nil, List.sum_cons, cat_i, cat_l, cat_r, cat_n, Nat.reduceLeDiff, Nat.reduceAdd, Nat.reduceEqDiff, Nat.zero_le, p_ent, p_u_ne, p_u_at, reduceIte, if_true, if_false, P_ce s3, P_ce s2]
    · intro x hx ih b e
      obtain ⟨v, c1, c2, c3⟩ := bhx_s1 hx hB e
      have s1 := sp_202 (d := d + 46) (Ls := Ls) (I := I) (L := L) (R := R) (X := X) hq.1 hn hs hx ha e37 e52
      have a2 : alk a n s x < 256 := bs_256 hn
      have t2 := hT _ (alk_lt hn hs c1) (alk_in hn hs hA)
      rw [c2] at t2
      have l3 := tbB_le hn hw hb c2
      obtain ⟨l1, l2, -⟩ := bhx_b hn hw hs hb x b e
      replace t2 : I 138 (alk a n s x) = nI v := t2
      have ih := ih _ c3
      have s4 := sp_127 (d := d + 47) (h := p_mk Ls I L R X) (nI b.2) (nI v)
      obtain ⟨b1, b2⟩ := b
      dsimp only at l1 l2 ih s4 ⊢
      generalize yv c (I 125) q (pc s) = Y at *
      generalize alk a n s x = z at *
      by_cases c4 : b2 < v
      · rw [if_pos c4] at ih
        rw [if_neg (by rw [nI_ltI (by omega) (by omega)]; omega)] at s4
        rw [P_run_eq, bk_226_1, pb_226_1]; simp -implicitDefEqProofs (disch := first | omega | decide) only [P_m, pw_iload_4, pw_iconst, il_4, pw_cge, pw_iload_n3, pw_aload_n0, pw_aloadN_n0, pw_getR, pw_iload_n1, pw_iload_n2, pw_iv4, pw_iald, pw_is2, pw_istore_n3, ps_3, pe_3, po_i3, po_r3, po_n3, po_u3, pw_iinc_4, il_1, po_i4, po_r4, po_n4, po_u4, pw_goto, kd_123, rf_123_1, rf_123_2, rf_123_3, rf_123_4, rf_123_5, rf_123_7, rf_123_11, rf_123_12, rf_123_15, rf_123_16, rf_123_17, rf_123_26, rf_123_29, rf_123_30, rf_123_32, rf_123_34, rf_123_35, rf_123_45, kd_138, n_0, n_1, n_4, nn_lt, nn_nlt, nn_le, nn_nle, nn_ne, nn_sub, nn_mul, nI_add, nn_neg, nm_eq, mn_eq, mm_eq, mn_lt, nm_lt, mn_le, nm_le, nn_sub0, nn_of, implies_true, nn_c, nn_in, nn_div, nat_rem, Nat.reduceMul, Nat.reduceSub, Nat.reduceDiv, Nat.reduceMod, pf_at, pf_ne, mk_s, mk_1, Classical.not_not, b2i_T, b2i_F, false_imp_iff, true_imp_iff, false_and, and_false, p_sw, Int.reduceAdd, Int.zero_add, Option.some.injEq, Value.int.injEq, Value.long.injEq, Value.ref.injEq, exists_eq_left', mk_I, mk_L, mk_wI, mk_wL, rf_s, rf_n, true_and, and_true, and_self, or_true, true_or, or_false, false_or, not_true_eq_false, not_false_eq_true, Option.toList_some, Option.toList_none, List.cons_append, List.nil_append, List.map_nil, List.map_cons, List.sum_nil, List.sum_cons, cat_i, cat_l, cat_r, cat_n, Nat.reduceLeDiff, Nat.reduceAdd, Nat.reduceEqDiff, Nat.zero_le, p_ent, p_u_ne, p_u_at, reduceIte, if_true, if_false, t2, P_ce s1, P_ce s4]
        exact ih
      · rw [if_neg c4] at ih
        have s4 : P_m (d + 47) 127 [.int (nI b2), .int (nI v)] (p_mk Ls I L R X) (fun w h' => w = some (.int (nI b2)) ∧ h' = p_mk Ls I L R X) := by
          by_cases e : v < b2
          · rw [if_pos ((nI_ltI (by omega) (by omega)).mpr e)] at s4; exact s4
          · have : v = b2 := by omega
            subst this
            rw [if_neg (by rw [nI_ltI (by omega) (by omega)]; omega)] at s4; exact s4
        rw [P_run_eq, bk_226_1, pb_226_1]; simp -implicitDefEqProofs (disch := first | omega | decide) only [P_m, pw_iload_4, pw_iconst, il_4, pw_cge, pw_iload_n3, pw_aload_n0, pw_aloadN_n0, pw_getR, pw_iload_n1, pw_iload_n2, pw_iv4, pw_iald, pw_is2, pw_istore_n3, ps_3, pe_3, po_i3, po_r3, po_n3, po_u3, pw_iinc_4, il_1, po_i4, po_r4, po_n4, po_u4, pw_goto, kd_123, rf_123_1, rf_123_2, rf_123_3, rf_123_4, rf_123_5, rf_123_7, rf_123_11, rf_123_12, rf_123_15, rf_123_16, rf_123_17, rf_123_26, rf_123_29, rf_123_30, rf_123_32, rf_123_34, rf_123_35, rf_123_45, kd_138, n_0, n_1, n_4, nn_lt, nn_nlt, nn_le, nn_nle, nn_ne, nn_sub, nn_mul, nI_add, nn_neg, nm_eq, mn_eq, mm_eq, mn_lt, nm_lt, mn_le, nm_le, nn_sub0, nn_of, implies_true, nn_c, nn_in, nn_div, nat_rem, Nat.reduceMul, Nat.reduceSub, Nat.reduceDiv, Nat.reduceMod, pf_at, pf_ne, mk_s, mk_1, Classical.not_not, b2i_T, b2i_F, false_imp_iff, true_imp_iff, false_and, and_false, p_sw, Int.reduceAdd, Int.zero_add, Option.some.injEq, Value.int.injEq, Value.long.injEq, Value.ref.injEq, exists_eq_left', mk_I, mk_L, mk_wI, mk_wL, rf_s, rf_n, true_and, and_true, and_self, or_true, true_or, or_false, false_or, not_true_eq_false, not_false_eq_true, Option.toList_some, Option.toList_none, List.cons_append, List.nil_append, List.map_nil, List.map_cons, List.sum_nil, List.sum_cons, cat_i, cat_l, cat_r, cat_n, Nat.reduceLeDiff, Nat.reduceAdd, Nat.reduceEqDiff, Nat.zero_le, p_ent, p_u_ne, p_u_at, reduceIte, if_true, if_false, t2, P_ce s1, P_ce s4]
        exact ih
  refine ⟨J, fJ, ?_⟩
  have st := loop 0 (by omega) (0, 0) rfl
  dsimp only at st
  generalize yv c (I 125) q (pc s) = Y at *
  simp -implicitDefEqProofs (disch := first | omega | decide) only [P_m, ↓P_run_eq _ 226 _ (p_bk 226 0), bk_226_0, pb_226_0, pw_iconst, il_0, pw_istore_n3, ps_3, pe_3, po_i3, po_r3, po_n3, po_u3, pw_istore, ps_4, pe_4, po_i4, po_r4, po_n4, po_u4, pw_nop, kd_123, rf_123_1, rf_123_2, rf_123_3, rf_123_4, rf_123_5, rf_123_7, rf_123_11, rf_123_12, rf_123_15, rf_123_16, rf_123_17, rf_123_26, rf_123_29, rf_123_30, rf_123_32, rf_123_34, rf_123_35, rf_123_45, n_0, n_1, nn_lt, nn_nlt, nn_le, nn_nle, nn_ne, nn_sub, nn_mul, nI_add, nn_neg, nm_eq, mn_eq, mm_eq, mn_lt, nm_lt, mn_le, nm_le, nn_sub0, nn_of, implies_true, nn_c, nn_in, nn_div, nat_rem, Nat.reduceMul, Nat.reduceSub, Nat.reduceDiv, Nat.reduceMod, pf_at, pf_ne, mk_s, mk_1, Classical.not_not, b2i_T, b2i_F, false_imp_iff, true_imp_iff, false_and, and_false, p_sw, Int.reduceAdd, Int.zero_add, Option.some.injEq, Value.int.injEq, Value.long.injEq, Value.ref.injEq, exists_eq_left', mk_I, mk_L, mk_wI, mk_wL, rf_s, rf_n, true_and, and_true, and_self, or_true, true_or, or_false, false_or, not_true_eq_false, not_false_eq_true, Option.toList_some, Option.toList_none, List.cons_append, List.nil_append, List.map_nil, List.map_cons, List.sum_nil, List.sum_cons, cat_i, cat_l, cat_r, cat_n, Nat.reduceLeDiff, Nat.reduceAdd, Nat.reduceEqDiff, Nat.zero_le, p_ent, p_u_ne, p_u_at, reduceIte, if_true, if_false]
  exact st
theorem pl_227 {s q n A a : Nat} {T : Nat → Option Nat} {w : Nat → Nat} {md : Bool} {B : Nat × Nat} (hn : n ≤ 8) (hw : ∀ t, t < n → w t ≤ 99) (hs : s < 256) (hA : dn s A = 0) (hb : tbB n w md T) (hT : tbR I T A s) (ha : a ≤ 65535) (e37 : I 125 (37 + q) = nI a) (e52 : I 125 52 = nI n) (hB : bhx T a n s 4 = some B) (hc : lawOf (I 125) c) (hq : envOk (I 125) q) (e13 : ∀ t, t < n → I 125 (13 + t) = nI (w t)) :
    ∃ J, frE I J ∧ P_m (d + 48) 227 [.ref 123, .int (nI q), .int (nI s)] (p_mk Ls I L R X) (fun v h' => v = some (.int (nI (yv c (I 125) q (pc s) * wSum w s n + B.1))) ∧ h' = p_mk Ls J L R X) := by
  obtain ⟨J, fJ, s2⟩ := ages_r (Ls := Ls) (L := L) (R := R) (X := X) (D := d + 47) hc hq (pc_le s) (by omega)
  obtain ⟨y1, y2⟩ := yv_e (c := c) hq (pc_le s)
  rw [y1] at s2
  have e125 : J 125 = I 125 := fJ.1 125 (by omega) (by omega)
  have s3 := sp_132n (d := d + 47) (h := p_mk Ls I L R X) hs
  have s5 := sp_143 (d := d + 46) (Ls := Ls) (I := J) (L := L) (R := R) (X := X) hs hn hw (by rw [e125]; exact e52) (fun t ht => by rw [e125]; exact e13 t ht)
  have wl := wSum_le (s := s) n hw
  have loop : ∀ x, x ≤ 4 → ∀ b, bhx T a n s x = some b → P_run (d + 48) 227 (p_bk 227 1) 0 0 [.ref 123, .int (nI q), .int (nI s), .int (nI b.1), .int (nI x)] [] (p_mk Ls I L R X) (fun v h' => v = some (.int (nI (yv c (I 125) q (pc s) * wSum w s n + B.1))) ∧ h' = p_mk Ls J L R X) := by
    refine down_ind ?_ ?_
    · intro b e
      rw [hB] at e
      cases e
      have ym : yv c (I 125) q (pc s) * wSum w s n ≤ 99 * 792 := Nat.mul_le_mul y2 (by omega)
      generalize yv c (I 125) q (pc s) = Y at *
      generalize wSum w s n = W at *
      rw [P_run_eq, bk_227_1, pb_227_1]; simp -implicitDefEqProofs (disch := first | omega | decide) only [P_m, ↓P_run_eq _ 227 _ (p_bk 227 2), bk_227_2, pb_227_2, pw_iload_4, pw_iconst, il_4, pw_cge, pw_iload_n3, pw_aload_n0, pw_aloadN_n0, pw_getR, pw_iload_n1, pw_iload_n2, pw_iv4, pw_iald, pw_iadd, pw_istore_n3, ps_3, pe_3, po_i3, po_r3, po_n3, po_u3, pw_iinc_4, il_1, po_i4, po_r4, po_n4, po_u4, pw_goto, pw_is1, pw_iv3, pw_iv2, pw_imul, pw_ret0, kd_123, rf_123_1, rf_123_2, rf_123_3, rf_123_4, rf_123_5, rf_123_7, rf_123_11, rf_123_12, rf_123_15, rf_123_16, rf_123_17, rf_123_26, rf_123_29, rf_123_30, rf_123_32, rf_123_34, rf_123_35, rf_123_45, n_0, n_1, n_4, nn_lt, nn_nlt, nn_le, nn_nle, nn_ne, nn_sub, nn_mul, nI_add, nn_neg, nm_eq, mn_eq, mm_eq, mn_lt, nm_lt, mn_le, nm_le, nn_sub0, nn_of, implies_true, nn_c, nn_in, nn_div, nat_rem, Nat.reduceMul, Nat.reduceSub, Nat.reduceDiv, Nat.reduceMod, pf_at, pf_ne, mk_s, mk_1, Classical.not_not, b2i_T, b2i_F, false_imp_iff, true_imp_iff, false_and, and_false, p_sw, Int.reduceAdd, Int.zero_add, Option.some.injEq, Value.int.injEq, Value.long.injEq, Value.ref.injEq, exists_eq_left', mk_I, mk_L, mk_wI, mk_wL, rf_s, rf_n, true_and, and_true, and_self, or_true, true_or, or_false, false_or, not_true_eq_false, not_false_eq_true, Option.toList_some, Option.toList_none, List.cons_append, List.nil_append, List.map_nil, List.map_cons, List.sum_nil, List.sum_cons, cat_i, cat_l, cat_r, cat_n, Nat.reduceLeDiff, Nat.reduceAdd, Nat.reduceEqDiff, Nat.zero_le, p_ent, p_u_ne, p_u_at, reduceIte, if_true, if_false, P_ce s3, P_ce s2, P_ce s5]
    · intro x hx ih b e
      obtain ⟨v, c1, c2, c3⟩ := bhx_s1 hx hB e
      have s1 := sp_202 (d := d + 46) (Ls := Ls) (I := I) (L := L) (R := R) (X := X) hq.1 hn hs hx ha e37 e52
      have a2 : alk a n s x < 256 := bs_256 hn
      have t2 := hT _ (alk_lt hn hs c1) (alk_in hn hs hA)
      rw [c2] at t2
      replace t2 : I 138 (alk a n s x) = nI v := t2
      have ih := ih _ c3
      dsimp only at ih
      generalize yv c (I 125) q (pc s) = Y at *
      generalize alk a n s x = z at *
      rw [P_run_eq, bk_227_1, pb_227_1]; simp -implicitDefEqProofs (disch := first | omega | decide) only [P_m, pw_iload_4, pw_iconst, il_4, pw_cge, pw_iload_n3, pw_aload_n0, pw_aloadN_n0, pw_getR, pw_iload_n1, pw_iload_n2, pw_iv4, pw_iald, pw_iadd, pw_istore_n3, ps_3, pe_3, po_i3, po_r3, po_n3, po_u3, pw_iinc_4, il_1, po_i4, po_r4, po_n4, po_u4, pw_goto, kd_123, rf_123_1, rf_123_2, rf_123_3, rf_123_4, rf_123_5, rf_123_7, rf_123_11, rf_123_12, rf_123_15, rf_123_16, rf_123_17, rf_123_26, rf_123_29, rf_123_30, rf_123_32, rf_123_34, rf_123_35, rf_123_45, kd_138, n_0, n_1, n_4, nn_lt, nn_nlt, nn_le, nn_nle, nn_ne, nn_sub, nn_mul, nI_add, nn_neg, nm_eq, mn_eq, mm_eq, mn_lt, nm_lt, mn_le, nm_le, nn_sub0, nn_of, implies_true, nn_c, nn_in, nn_div, nat_rem, Nat.reduceMul, Nat.reduceSub, Nat.reduceDiv, Nat.reduceMod, pf_at, pf_ne, mk_s, mk_1, Classical.not_not, b2i_T, b2i_F, false_imp_iff, true_imp_iff, false_and, and_false, p_sw, Int.reduceAdd, Int.zero_add, Option.some.injEq, Value.int.injEq, Value.long.injEq, Value.ref.injEq, exists_eq_left', mk_I, mk_L, mk_wI, mk_wL, rf_s, rf_n, true_and, and_true, and_self, or_true, true_or, or_false, false_or, not_true_eq_false, not_false_eq_true, Option.toList_some, Option.toList_none, List.cons_append, List.nil_append, List.map_nil, List.map_cons, List.sum_nil, List.sum_cons, cat_i, cat_l, cat_r, cat_n, Nat.reduceLeDiff, Nat.reduceAdd, Nat.reduceEqDiff, Nat.zero_le, p_ent, p_u_ne, p_u_at, reduceIte, if_true, if_false, t2, P_ce s1]
      exact ih
  refine ⟨J, fJ, ?_⟩
  have st := loop 0 (by omega) (0, 0) rfl
  dsimp only at st
  generalize yv c (I 125) q (pc s) = Y at *
  simp -implicitDefEqProofs (disch := first | omega | decide) only [P_m, ↓P_run_eq _ 227 _ (p_bk 227 0), bk_227_0, pb_227_0, pw_iconst, il_0, pw_istore_n3, ps_3, pe_3, po_i3, po_r3, po_n3, po_u3, pw_istore, ps_4, pe_4, po_i4, po_r4, po_n4, po_u4, pw_nop, kd_123, rf_123_1, rf_123_2, rf_123_3, rf_123_4, rf_123_5, rf_123_7, rf_123_11, rf_123_12, rf_123_15, rf_123_16, rf_123_17, rf_123_26, rf_123_29, rf_123_30, rf_123_32, rf_123_34, rf_123_35, rf_123_45, n_0, n_1, nn_lt, nn_nlt, nn_le, nn_nle, nn_ne, nn_sub, nn_mul, nI_add, nn_neg, nm_eq, mn_eq, mm_eq, mn_lt, nm_lt, mn_le, nm_le, nn_sub0, nn_of, implies_true, nn_c, nn_in, nn_div, nat_rem, Nat.reduceMul, Nat.reduceSub, Nat.reduceDiv, Nat.reduceMod, pf_at, pf_ne, mk_s, mk_1, Classical.not_not, b2i_T, b2i_F, false_imp_iff, true_imp_iff, false_and, and_false, p_sw, Int.reduceAdd, Int.zero_add, Option.some.injEq, Value.int.injEq, Value.long.injEq, Value.ref.injEq, exists_eq_left', mk_I, mk_L, mk_wI, mk_wL, rf_s, rf_n, true_and, and_true, and_self, or_true, true_or, or_false, false_or, not_true_eq_false, not_false_eq_true, Option.toList_some, Option.toList_none, List.cons_append, List.nil_append, List.map_nil, List.map_cons, List.sum_nil, List.sum_cons, cat_i, cat_l, cat_r, cat_n, Nat.reduceLeDiff, Nat.reduceAdd, Nat.reduceEqDiff, Nat.zero_le, p_ent, p_u_ne, p_u_at, reduceIte, if_true, if_false]
  exact st
theorem pl_228 {s q n A a : Nat} {T : Nat → Option Nat} {w : Nat → Nat} {md so : Bool} (hn : n ≤ 8) (hw : ∀ t, t < n → w t ≤ 99) (hs : s < 256) (hA : dn s A = 0) (hb : tbB n w md T) (hT : tbR I T A s) (ha : a ≤ 65535) (e37 : I 125 (37 + q) = nI a) (e52 : I 125 52 = nI n) (hc : lawOf (I 125) c) (hq : envOk (I 125) q) (e29 : I 125 (29 + q) = nI (kn (I 125) (29 + q)) ∧ kn (I 125) (29 + q) ≤ 1) :
    ∃ J, frE I J ∧ P_m (d + 48) 228 [.ref 123, .int (nI q), .int (nI s), .int (nI (bN so))] (p_mk Ls I L R X) (fun v h' => v = some (.int (nI (bN (okP c (I 125) so q (pc s) && (bhx T a n s 4).isSome)))) ∧ h' = p_mk Ls J L R X) := by
  obtain ⟨J, fJ, s2⟩ := bars_r (Ls := Ls) (L := L) (R := R) (X := X) (D := d + 47) hc hq (pc_le s) (by omega)
  have e125 : J 125 = I 125 := fJ.1 125 (by omega) (by omega)
  have s3 := sp_132n (d := d + 47) (h := p_mk Ls I L R X) hs
  have s4 := pl_225 (d := d + 45) (Ls := Ls) (I := J) (L := L) (R := R) (X := X) (q := q) (a := a) hn hw hs hq.1 hA hb (fun s' h1 h2 => by rw [fJ.1 138 (by omega) (by omega)]; exact hT s' h1 h2) ha (by rw [e125]; exact e37) (by rw [e125]; exact e52)
  have vo : okP c (I 125) so q (pc s) = ((!so || decide (kn (I 125) (29 + q) = 1)) && !bv c (I 125) q (pc s)) := rfl
  rw [vo]
  have hq8 := hq.1
  have go : (so = true → kn (I 125) (29 + q) = 1) → ∃ J, frE I J ∧ P_m (d + 48) 228 [.ref 123, .int (nI q), .int (nI s), .int (nI (bN so))] (p_mk Ls I L R X) (fun v h' => v = some (.int (nI (bN (((!so || decide (kn (I 125) (29 + q) = 1)) && !bv c (I 125) q (pc s)) && (bhx T a n s 4).isSome)))) ∧ h' = p_mk Ls J L R X) := by
    intro ht
    have e0 : (!so || decide (kn (I 125) (29 + q) = 1)) = true := by
      cases so with
      | false => rfl
      | true => rw [decide_eq_true (ht rfl)]; rfl
    rw [e0, Bool.true_and]
    refine ⟨J, fJ, ?_⟩
    cases hbv : bv c (I 125) q (pc s) with
    | true =>
      rw [show hdF c (wEnv (I 125) q (nI (pc s))) 2 = true from hbv, bI_t] at s2
      have e1 : ((!true) && (bhx T a n s 4).isSome) = false := rfl
      rw [e1]
      cases so with
      | false => 
        simp -implicitDefEqProofs (disch := first | omega | decide) only [P_m, ↓P_run_eq _ 228 _ (p_bk 228 0), bk_228_0, pb_228_0, ↓P_run_eq _ 228 _ (p_bk 228 1), bk_228_1, pb_228_1, ↓P_run_eq _ 228 _ (p_bk 228 2), bk_228_2, pb_228_2, ↓P_run_eq _ 228 _ (p_bk 228 3), bk_228_3, pb_228_3, pw_iload_n3, pw_iconst, il_1, pw_cne, pw_aload_n0, pw_aloadN_n0, pw_getR, pw_bipush, bl_29, pw_iload_n1, pw_iadd, pw_iald, pw_zne, il_0, pw_ret1, pw_iload_n2, pw_is1, pw_iv3, pw_zeq, pw_goto, pw_nop, kd_123, rf_123_1, rf_123_2, rf_123_3, rf_123_4, rf_123_5, rf_123_7, rf_123_11, rf_123_12, rf_123_15, rf_123_16, rf_123_17, rf_123_26, rf_123_29, rf_123_30, rf_123_32, rf_123_34, rf_123_35, rf_123_45, n_0, n_1, n_29, nn_lt, nn_nlt, nn_le, nn_nle, nn_ne, nn_sub, nn_mul, nI_add, nn_neg, nm_eq, mn_eq, mm_eq, mn_lt, nm_lt, mn_le, nm_le, nn_sub0, nn_of, implies_true, nn_c, nn_in, nn_div, nat_rem, Nat.reduceMul, Nat.reduceSub, Nat.reduceDiv, Nat.reduceMod, pf_at, pf_ne, mk_s, mk_1, Classical.not_not, b2i_T, b2i_F, false_imp_iff, true_imp_iff, false_and, and_false, p_sw, Int.reduceAdd, Int.zero_add, Option.some.injEq, Value.int.injEq, Value.long.injEq, Value.ref.injEq, exists_eq_left', mk_I, mk_L, mk_wI, mk_wL, rf_s, rf_n, true_and, and_true, and_self, or_true, true_or, or_false, false_or, not_true_eq_false, not_false_eq_true, Option.toList_some, Option.toList_none, List.cons_append, List.nil_append, List.map_nil, List.map_cons, List.sum_nil, List.sum_cons, cat_i, cat_l, cat_r, cat_n, Nat.reduceLeDiff, Nat.reduceAdd, Nat.reduceEqDiff, Nat.zero_le, p_ent, p_u_ne, p_u_at, reduceIte, if_true, if_false, bN, P_ce s3, P_ce s2]
      | true =>
        have e29 := e29.1
        rw [ht rfl] at e29
        simp -implicitDefEqProofs (disch := first | omega | decide) only [P_m, ↓P_run_eq _ 228 _ (p_bk 228 0), bk_228_0, pb_228_0, ↓P_run_eq _ 228 _ (p_bk 228 1), bk_228_1, pb_228_1, ↓P_run_eq _ 228 _ (p_bk 228 2), bk_228_2, pb_228_2, ↓P_run_eq _ 228 _ (p_bk 228 3), bk_228_3, pb_228_3, pw_iload_n3, pw_iconst, il_1, pw_cne, pw_aload_n0, pw_aloadN_n0, pw_getR, pw_bipush, bl_29, pw_iload_n1, pw_iadd, pw_iald, pw_zne, il_0, pw_ret1, pw_iload_n2, pw_is1, pw_iv3, pw_zeq, pw_goto, pw_nop, kd_123, rf_123_1, rf_123_2, rf_123_3, rf_123_4, rf_123_5, rf_123_7, rf_123_11, rf_123_12, rf_123_15, rf_123_16, rf_123_17, rf_123_26, rf_123_29, rf_123_30, rf_123_32, rf_123_34, rf_123_35, rf_123_45, kd_125, n_0, n_1, n_29, nn_lt, nn_nlt, nn_le, nn_nle, nn_ne, nn_sub, nn_mul, nI_add, nn_neg, nm_eq, mn_eq, mm_eq, mn_lt, nm_lt, mn_le, nm_le, nn_sub0, nn_of, implies_true, nn_c, nn_in, nn_div, nat_rem, Nat.reduceMul, Nat.reduceSub, Nat.reduceDiv, Nat.reduceMod, pf_at, pf_ne, mk_s, mk_1, Classical.not_not, b2i_T, b2i_F, false_imp_iff, true_imp_iff, false_and, and_false, p_sw, Int.reduceAdd, Int.zero_add, Option.some.injEq, Value.int.injEq, Value.long.injEq, Value.ref.injEq, exists_eq_left', mk_I, mk_L, mk_wI, mk_wL, rf_s, rf_n, true_and, and_true, and_self, or_true, true_or, or_false, false_or, not_true_eq_false, not_false_eq_true, Option.toList_some, Option.toList_none, List.cons_append, List.nil_append, List.map_nil, List.map_cons, List.sum_nil, List.sum_cons, cat_i, cat_l, cat_r, cat_n, Nat.reduceLeDiff, Nat.reduceAdd, Nat.reduceEqDiff, Nat.zero_le, p_ent, p_u_ne, p_u_at, reduceIte, if_true, if_false, bN, e29, P_ce s3, P_ce s2]
    | false =>
      rw [show hdF c (wEnv (I 125) q (nI (pc s))) 2 = false from hbv, bI_f] at s2
      have e1 : ((!false) && (bhx T a n s 4).isSome) = (bhx T a n s 4).isSome := by rw [Bool.not_false, Bool.true_and]
      rw [e1]
      cases hbs : (bhx T a n s 4).isSome with
      | true =>
        rw [hbs] at s4
        cases so with
        | false => 
          simp -implicitDefEqProofs (disch := first | omega | decide) only [P_m, ↓P_run_eq _ 228 _ (p_bk 228 0), bk_228_0, pb_228_0, ↓P_run_eq _ 228 _ (p_bk 228 1), bk_228_1, pb_228_1, ↓P_run_eq _ 228 _ (p_bk 228 2), bk_228_2, pb_228_2, ↓P_run_eq _ 228 _ (p_bk 228 3), bk_228_3, pb_228_3, pw_iload_n3, pw_iconst, il_1, pw_cne, pw_aload_n0, pw_aloadN_n0, pw_getR, pw_bipush, bl_29, pw_iload_n1, pw_iadd, pw_iald, pw_zne, il_0, pw_ret1, pw_iload_n2, pw_is1, pw_iv3, pw_zeq, pw_goto, pw_nop, kd_123, rf_123_1, rf_123_2, rf_123_3, rf_123_4, rf_123_5, rf_123_7, rf_123_11, rf_123_12, rf_123_15, rf_123_16, rf_123_17, rf_123_26, rf_123_29, rf_123_30, rf_123_32, rf_123_34, rf_123_35, rf_123_45, n_0, n_1, n_29, nn_lt, nn_nlt, nn_le, nn_nle, nn_ne, nn_sub, nn_mul, nI_add, nn_neg, nm_eq, mn_eq, mm_eq, mn_lt, nm_lt, mn_le, nm_le, nn_sub0, nn_of, implies_true, nn_c, nn_in, nn_div, nat_rem, Nat.reduceMul, Nat.reduceSub, Nat.reduceDiv, Nat.reduceMod, pf_at, pf_ne, mk_s, mk_1, Classical.not_not, b2i_T, b2i_F, false_imp_iff, true_imp_iff, false_and, and_false, p_sw, Int.reduceAdd, Int.zero_add, Option.some.injEq, Value.int.injEq, Value.long.injEq, Value.ref.injEq, exists_eq_left', mk_I, mk_L, mk_wI, mk_wL, rf_s, rf_n, true_and, and_true, and_self, or_true, true_or, or_false, false_or, not_true_eq_false, not_false_eq_true, Option.toList_some, Option.toList_none, List.cons_append, List.nil_append, List.map_nil, List.map_cons, List.sum_nil, List.sum_cons, cat_i, cat_l, cat_r, cat_n, Nat.reduceLeDiff, Nat.reduceAdd, Nat.reduceEqDiff, Nat.zero_le, p_ent, p_u_ne, p_u_at, reduceIte, if_true, if_false, bN, P_ce s3, P_ce s2, P_ce s4]
        | true =>
          have e29 := e29.1
          rw [ht rfl] at e29
          simp -implicitDefEqProofs (disch := first | omega | decide) only [P_m, ↓P_run_eq _ 228 _ (p_bk 228 0), bk_228_0, pb_228_0, ↓P_run_eq _ 228 _ (p_bk 228 1), bk_228_1, pb_228_1, ↓P_run_eq _ 228 _ (p_bk 228 2), bk_228_2, pb_228_2, ↓P_run_eq _ 228 _ (p_bk 228 3), bk_228_3, pb_228_3, pw_iload_n3, pw_iconst, il_1, pw_cne, pw_aload_n0, pw_aloadN_n0, pw_getR, pw_bipush, bl_29, pw_iload_n1, pw_iadd, pw_iald, pw_zne, il_0, pw_ret1, pw_iload_n2, pw_is1, pw_iv3, pw_zeq, pw_goto, pw_nop, kd_123, rf_123_1, rf_123_2, rf_123_3, rf_123_4, rf_123_5, rf_123_7, rf_123_11, rf_123_12, rf_123_15, rf_123_16, rf_123_17, rf_123_26, rf_123_29, rf_123_30, rf_123_32, rf_123_34, rf_123_35, rf_123_45, kd_125, n_0, n_1, n_29, nn_lt, nn_nlt, nn_le, nn_nle, nn_ne, nn_sub, nn_mul, nI_add, nn_neg, nm_eq, mn_eq, mm_eq, mn_lt, nm_lt, mn_le, nm_le, nn_sub0, nn_of, implies_true, nn_c, nn_in, nn_div, nat_rem, Nat.reduceMul, Nat.reduceSub, Nat.reduceDiv, Nat.reduceMod, pf_at, pf_ne, mk_s, mk_1, Classical.not_not, b2i_T, b2i_F, false_imp_iff, true_imp_iff, false_and, and_false, p_sw, Int.reduceAdd, Int.zero_add, Option.some.injEq, Value.int.injEq, Value.long.injEq, Value.ref.injEq, exists_eq_left', mk_I, mk_L, mk_wI, mk_wL, rf_s, rf_n, true_and, and_true, and_self, or_true, true_or, or_false, false_or, not_true_eq_false, not_false_eq_true, Option.toList_some, Option.toList_none, List.cons_append, List.nil_append, List.map_nil, List.map_cons, List.sum_nil, List.sum_cons, cat_i, cat_l, cat_r, cat_n, Nat.reduceLeDiff, Nat.reduceAdd, Nat.reduceEqDiff, Nat.zero_le, p_ent, p_u_ne, p_u_at, reduceIte, if_true, if_false, bN, e29, P_ce s3, P_ce s2, P_ce s4]
      | false =>
        rw [hbs] at s4
        cases so with
        | false => 
          simp -implicitDefEqProofs (disch := first | omega | decide) only [P_m, ↓P_run_eq _ 228 _ (p_bk 228 0), bk_228_0, pb_228_0, ↓P_run_eq _ 228 _ (p_bk 228 1), bk_228_1, pb_228_1, ↓P_run_eq _ 228 _ (p_bk 228 2), bk_228_2, pb_228_2, ↓P_run_eq _ 228 _ (p_bk 228 3), bk_228_3, pb_228_3, pw_iload_n3, pw_iconst, il_1, pw_cne, pw_aload_n0, pw_aloadN_n0, pw_getR, pw_bipush, bl_29, pw_iload_n1, pw_iadd, pw_iald, pw_zne, il_0, pw_ret1, pw_iload_n2, pw_is1, pw_iv3, pw_zeq, pw_goto, pw_nop, kd_123, rf_123_1, rf_123_2, rf_123_3, rf_123_4, rf_123_5, rf_123_7, rf_123_11, rf_123_12, rf_123_15, rf_123_16, rf_123_17, rf_123_26, rf_123_29, rf_123_30, rf_123_32, rf_123_34, rf_123_35, rf_123_45, n_0, n_1, n_29, nn_lt, nn_nlt, nn_le, nn_nle, nn_ne, nn_sub, nn_mul, nI_add, nn_neg, nm_eq, mn_eq, mm_eq, mn_lt, nm_lt, mn_le, nm_le, nn_sub0, nn_of, implies_true, nn_c, nn_in, nn_div, nat_rem, Nat.reduceMul, Nat.reduceSub, Nat.reduceDiv, Nat.reduceMod, pf_at, pf_ne, mk_s, mk_1, Classical.not_not, b2i_T, b2i_F, false_imp_iff, true_imp_iff, false_and, and_false, p_sw, Int.reduceAdd, Int.zero_add, Option.some.injEq, Value.int.injEq, Value.long.injEq, Value.ref.injEq, exists_eq_left', mk_I, mk_L, mk_wI, mk_wL, rf_s, rf_n, true_and, and_true, and_self, or_true, true_or, or_false, false_or, not_true_eq_false, not_false_eq_true, Option.toList_some, Option.toList_none, List.cons_append, List.nil_append, List.map_nil, List.map_cons, List.sum_nil, List.sum_cons, cat_i, cat_l, cat_r, cat_n, Nat.reduceLeDiff, Nat.reduceAdd, Nat.reduceEqDiff, Nat.zero_le, p_ent, p_u_ne, p_u_at, reduceIte, if_true, if_false, bN, P_ce s3, P_ce s2, P_ce s4]
        | true =>
          have e29 := e29.1
          rw [ht rfl] at e29
          simp -implicitDefEqProofs (disch := first | omega | decide) only [P_m, ↓P_run_eq _ 228 _ (p_bk 228 0), bk_228_0, pb_228_0, ↓P_run_eq _ 228 _ (p_bk 228 1), bk_228_1, pb_228_1, ↓P_run_eq _ 228 _ (p_bk 228 2), bk_228_2, pb_228_2, ↓P_run_eq _ 228 _ (p_bk 228 3), bk_228_3, pb_228_3, pw_iload_n3, pw_iconst, il_1, pw_cne, pw_aload_n0, pw_aloadN_n0, pw_getR, pw_bipush, bl_29, pw_iload_n1, pw_iadd, pw_iald, pw_zne, il_0, pw_ret1, pw_iload_n2, pw_is1, pw_iv3, pw_zeq, pw_goto, pw_nop, kd_123, rf_123_1, rf_123_2, rf_123_3, rf_123_4, rf_123_5, rf_123_7, rf_123_11, rf_123_12, rf_123_15, rf_123_16, rf_123_17, rf_123_26, rf_123_29, rf_123_30, rf_123_32, rf_123_34, rf_123_35, rf_123_45, kd_125, n_0, n_1, n_29, nn_lt, nn_nlt, nn_le, nn_nle, nn_ne, nn_sub, nn_mul, nI_add, nn_neg, nm_eq, mn_eq, mm_eq, mn_lt, nm_lt, mn_le, nm_le, nn_sub0, nn_of, implies_true, nn_c, nn_in, nn_div, nat_rem, Nat.reduceMul, Nat.reduceSub, Nat.reduceDiv, Nat.reduceMod, pf_at, pf_ne, mk_s, mk_1, Classical.not_not, b2i_T, b2i_F, false_imp_iff, true_imp_iff, false_and, and_false, p_sw, Int.reduceAdd, Int.zero_add, Option.some.injEq, Value.int.injEq, Value.long.injEq, Value.ref.injEq, exists_eq_left', mk_I, mk_L, mk_wI, mk_wL, rf_s, rf_n, true_and, and_true, and_self, or_true, true_or, or_false, false_or, not_true_eq_false, not_false_eq_true, Option.toList_some, Option.toList_none, List.cons_append, List.nil_append, List.map_nil, List.map_cons, List.sum_nil, List.sum_cons, cat_i, cat_l, cat_r, cat_n, Nat.reduceLeDiff, Nat.reduceAdd, Nat.reduceEqDiff, Nat.zero_le, p_ent, p_u_ne, p_u_at, reduceIte, if_true, if_false, bN, e29, P_ce s3, P_ce s2, P_ce s4]
  by_cases h1 : so = true → kn (I 125) (29 + q) = 1
  · exact go h1
  · cases so with
    | false => exact go (fun h => absurd h (by decide))
    | true =>
      have e0 : ¬ kn (I 125) (29 + q) = 1 := fun h => h1 (fun _ => h)
      refine ⟨I, frE_rf, ?_⟩
      rw [decide_eq_false e0]
      have e29' := e29.1
      have e2 : kn (I 125) (29 + q) = 0 := by omega
      rw [e2] at e29'
      have e1 : (((!true || false) && !bv c (I 125) q (pc s)) && (bhx T a n s 4).isSome) = false := rfl
      rw [e1]
      simp -implicitDefEqProofs (disch := first | omega | decide) only [P_m, ↓P_run_eq _ 228 _ (p_bk 228 0), bk_228_0, pb_228_0, pw_iload_n3, pw_iconst, il_1, pw_cne, pw_aload_n0, pw_aloadN_n0, pw_getR, pw_bipush, bl_29, pw_iload_n1, pw_iadd, pw_iald, pw_zne, il_0, pw_ret1, kd_123, rf_123_1, rf_123_2, rf_123_3, rf_123_4, rf_123_5, rf_123_7, rf_123_11, rf_123_12, rf_123_15, rf_123_16, rf_123_17, rf_123_26, rf_123_29, rf_123_30, rf_123_32, rf_123_34, rf_123_35, rf_123_45, kd_125, n_0, n_1, n_29, nn_lt, nn_nlt, nn_le, nn_nle, nn_ne, nn_sub, nn_mul, nI_add, nn_neg, nm_eq, mn_eq, mm_eq, mn_lt, nm_lt, mn_le, nm_le, nn_sub0, nn_of, implies_true, nn_c, nn_in, nn_div, nat_rem, Nat.reduceMul, Nat.reduceSub, Nat.reduceDiv, Nat.reduceMod, pf_at, pf_ne, mk_s, mk_1, Classical.not_not, b2i_T, b2i_F, false_imp_iff, true_imp_iff, false_and, and_false, p_sw, Int.reduceAdd, Int.zero_add, Option.some.injEq, Value.int.injEq, Value.long.injEq, Value.ref.injEq, exists_eq_left', mk_I, mk_L, mk_wI, mk_wL, rf_s, rf_n, true_and, and_true, and_self, or_true, true_or, or_false, false_or, not_true_eq_false, not_false_eq_true, Option.toList_some, Option.toList_none, List.cons_append, List.nil_append, List.map_nil, List.map_cons, List.sum_nil, List.sum_cons, cat_i, cat_l, cat_r, cat_n, Nat.reduceLeDiff, Nat.reduceAdd, Nat.reduceEqDiff, Nat.zero_le, p_ent, p_u_ne, p_u_at, reduceIte, if_true, if_false, bN, e29']
end PR
