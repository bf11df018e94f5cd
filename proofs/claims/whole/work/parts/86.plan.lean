/-! PLANS OF THE CLASS -/
def pnI : Option Nat → Int32
  | none => mI 1
  | some v => nI v
def bN : Bool → Nat
  | true => 1
  | false => 0
def outB (md : Bool) (r : Option (Nat × Nat)) : Option Nat := r.map (fun b => if md = true then b.1 else b.2)
theorem bhx_n {T : Nat → Option Nat} {a n s x : Nat} (h : bhx T a n s x = none) : ∀ k, bhx T a n s (x + k) = none
  | 0 => h
  | k + 1 => by
    show bhx T a n s (x + k + 1) = none
    unfold bhx
    rw [bhx_n h k]
theorem bhx_4 {T : Nat → Option Nat} {a n s x : Nat} (hx : x < 4) (h : bhx T a n s (x + 1) = none) : bhx T a n s 4 = none := by
  have := bhx_n h (3 - x)
  rwa [show x + 1 + (3 - x) = 4 by omega] at this
section PC
variable {d Ls : Nat} {I : Nat → Nat → Int32} {L : Nat → Nat → Int64} {R : Nat → Nat → Option Nat} {X : List pKd} {h : pHp}
theorem sp_266n {s : Nat} (hs : s < 256) : P_m d 266 [.int (nI s)] h (fun v h' => v = some (.int (nI (pc s))) ∧ h' = h) := by
  have := sp_266 (d := d) (h := h) (nI s)
  rw [bc_n s hs] at this
  exact this
theorem sp_132n {s : Nat} (hs : s < 256) : P_m d 132 [.int (nI s)] h (fun v h' => v = some (.int (nI (pc s))) ∧ h' = h) := by
  have := sp_132 (d := d) (h := h) (nI s)
  rw [on_n s hs] at this
  exact this
theorem sp_37 {s : Nat} {g : Option Nat} (hs : s < 256) (hg : ∀ k, g = some k → k < 256) : P_m (d + 1) 37 [.int (nI s), .int (pnI g)] h (fun v h' => v = some (.int (nI (bN (tld g s)))) ∧ h' = h) := by
  have c1 := sp_266n (d := d) (h := h) hs
  cases g with
  | none =>
    have pl := pc_le s
    by_cases c : pc s ≤ 1
    · have e : tld none s = true := decide_eq_true c
      rw [e]
      simp -implicitDefEqProofs (disch := first | omega | decide) only [P_m, ↓P_run_eq _ 37 _ (p_bk 37 0), bk_37_0, pb_37_0, ↓P_run_eq _ 37 _ (p_bk 37 1), bk_37_1, pb_37_1, ↓P_run_eq _ 37 _ (p_bk 37 2), bk_37_2, pb_37_2, pw_iload_n1, pw_iconst, il_m1, pw_cne, pw_iload_n0, pw_is1, il_1, pw_cgt, pw_goto, il_0, pw_nop, pw_ret1, n_0, n_1, nn_lt, nn_nlt, nn_le, nn_nle, nn_ne, nn_sub, nn_mul, nI_add, nn_neg, nm_eq, mn_eq, mm_eq, mn_lt, nm_lt, mn_le, nm_le, nn_sub0, nn_of, implies_true, nn_c, nn_in, nn_div, nat_rem, Nat.reduceMul, Nat.reduceSub, Nat.reduceDiv, Nat.reduceMod, pf_at, pf_ne, mk_s, mk_1, Classical.not_not, b2i_T, b2i_F, false_imp_iff, true_imp_iff, false_and, and_false, p_sw, Int.reduceAdd, Int.zero_add, Option.some.injEq, Value.int.injEq, Value.long.injEq, Value.ref.injEq, exists_eq_left', mk_I, mk_L, mk_wI, mk_wL, rf_s, rf_n, true_and, and_true, and_self, or_true, true_or, or_false, false_or, not_true_eq_false, not_false_eq_true, Option.toList_some, Option.toList_none, List.cons_append, List.nil_append, List.map_nil, List.map_cons, List.sum_nil, List.sum_cons, cat_i, cat_l, cat_r, cat_n, Nat.reduceLeDiff, Nat.reduceAdd, Nat.reduceEqDiff, Nat.zero_le, p_ent, p_u_ne, p_u_at, reduceIte, if_true, if_false, pnI, bN, P_ce c1]
    · have e : tld none s = false := decide_eq_false c
      rw [e]
      simp -implicitDefEqProofs (disch := first | omega | decide) only [P_m, ↓P_run_eq _ 37 _ (p_bk 37 0), bk_37_0, pb_37_0, ↓P_run_eq _ 37 _ (p_bk 37 1), bk_37_1, pb_37_1, ↓P_run_eq _ 37 _ (p_bk 37 2), bk_37_2, pb_37_2, pw_iload_n1, pw_iconst, il_m1, pw_cne, pw_iload_n0, pw_is1, il_1, pw_cgt, pw_goto, il_0, pw_nop, pw_ret1, n_0, n_1, nn_lt, nn_nlt, nn_le, nn_nle, nn_ne, nn_sub, nn_mul, nI_add, nn_neg, nm_eq, mn_eq, mm_eq, mn_lt, nm_lt, mn_le, nm_le, nn_sub0, nn_of, implies_true, nn_c, nn_in, nn_div, nat_rem, Nat.reduceMul, Nat.reduceSub, Nat.reduceDiv, Nat.reduceMod, pf_at, pf_ne, mk_s, mk_1, Classical.not_not, b2i_T, b2i_F, false_imp_iff, true_imp_iff, false_and, and_false, p_sw, Int.reduceAdd, Int.zero_add, Option.some.injEq, Value.int.injEq, Value.long.injEq, Value.ref.injEq, exists_eq_left', mk_I, mk_L, mk_wI, mk_wL, rf_s, rf_n, true_and, and_true, and_self, or_true, true_or, or_false, false_or, not_true_eq_false, not_false_eq_true, Option.toList_some, Option.toList_none, List.cons_append, List.nil_append, List.map_nil, List.map_cons, List.sum_nil, List.sum_cons, cat_i, cat_l, cat_r, cat_n, Nat.reduceLeDiff, Nat.reduceAdd, Nat.reduceEqDiff, Nat.zero_le, p_ent, p_u_ne, p_u_at, reduceIte, if_true, if_false, pnI, bN, P_ce c1]
  | some g =>
    have hg := hg g rfl
    have e1 := nn_and s g
    have e2 := dn_n hs hg
    have l1 : s &&& g < 256 := and_256 hs
    have l2 := dn_lt (g := g) hs
    have e : tld (some g) s = (decide (s &&& g = 0) || decide (dn s g = 0)) := rfl
    rw [e]
    generalize s &&& g = z1 at *
    generalize dn s g = z2 at *
    by_cases c1 : z1 = 0
    · rw [decide_eq_true c1, Bool.true_or]
      simp -implicitDefEqProofs (disch := first | omega | decide) only [P_m, ↓P_run_eq _ 37 _ (p_bk 37 0), bk_37_0, pb_37_0, ↓P_run_eq _ 37 _ (p_bk 37 3), bk_37_3, pb_37_3, ↓P_run_eq _ 37 _ (p_bk 37 4), bk_37_4, pb_37_4, ↓P_run_eq _ 37 _ (p_bk 37 6), bk_37_6, pb_37_6, pw_iload_n1, pw_iconst, il_m1, pw_cne, pw_iload_n0, pw_is1, il_1, pw_cgt, pw_goto, pw_iand, pw_zeq, pw_ixor, pw_zne, pw_nop, pw_ret1, n_0, n_1, nn_lt, nn_nlt, nn_le, nn_nle, nn_ne, nn_sub, nn_mul, nI_add, nn_neg, nm_eq, mn_eq, mm_eq, mn_lt, nm_lt, mn_le, nm_le, nn_sub0, nn_of, implies_true, nn_c, nn_in, nn_div, nat_rem, Nat.reduceMul, Nat.reduceSub, Nat.reduceDiv, Nat.reduceMod, pf_at, pf_ne, mk_s, mk_1, Classical.not_not, b2i_T, b2i_F, false_imp_iff, true_imp_iff, false_and, and_false, p_sw, Int.reduceAdd, Int.zero_add, Option.some.injEq, Value.int.injEq, Value.long.injEq, Value.ref.injEq, exists_eq_left', mk_I, mk_L, mk_wI, mk_wL, rf_s, rf_n, true_and, and_true, and_self, or_true, true_or, or_false, false_or, not_true_eq_false, not_false_eq_true, Option.toList_some, Option.toList_none, List.cons_append, List.nil_append, List.map_nil, List.map_cons, List.sum_nil, List.sum_cons, cat_i, cat_l, cat_r, cat_n, Nat.reduceLeDiff, Nat.reduceAdd, Nat.reduceEqDiff, Nat.zero_le, p_ent, p_u_ne, p_u_at, reduceIte, if_true, if_false, pnI, bN, e1, c1]
    · rw [decide_eq_false c1, Bool.false_or]
      by_cases c2 : z2 = 0
      · rw [decide_eq_true c2]
        simp -implicitDefEqProofs (disch := first | omega | decide) only [P_m, ↓P_run_eq _ 37 _ (p_bk 37 0), bk_37_0, pb_37_0, ↓P_run_eq _ 37 _ (p_bk 37 3), bk_37_3, pb_37_3, ↓P_run_eq _ 37 _ (p_bk 37 4), bk_37_4, pb_37_4, ↓P_run_eq _ 37 _ (p_bk 37 6), bk_37_6, pb_37_6, pw_iload_n1, pw_iconst, il_m1, pw_cne, pw_iload_n0, pw_is1, il_1, pw_cgt, pw_goto, pw_iand, pw_zeq, pw_ixor, pw_zne, pw_nop, pw_ret1, n_0, n_1, nn_lt, nn_nlt, nn_le, nn_nle, nn_ne, nn_sub, nn_mul, nI_add, nn_neg, nm_eq, mn_eq, mm_eq, mn_lt, nm_lt, mn_le, nm_le, nn_sub0, nn_of, implies_true, nn_c, nn_in, nn_div, nat_rem, Nat.reduceMul, Nat.reduceSub, Nat.reduceDiv, Nat.reduceMod, pf_at, pf_ne, mk_s, mk_1, Classical.not_not, b2i_T, b2i_F, false_imp_iff, true_imp_iff, false_and, and_false, p_sw, Int.reduceAdd, Int.zero_add, Option.some.injEq, Value.int.injEq, Value.long.injEq, Value.ref.injEq, exists_eq_left', mk_I, mk_L, mk_wI, mk_wL, rf_s, rf_n, true_and, and_true, and_self, or_true, true_or, or_false, false_or, not_true_eq_false, not_false_eq_true, Option.toList_some, Option.toList_none, List.cons_append, List.nil_append, List.map_nil, List.map_cons, List.sum_nil, List.sum_cons, cat_i, cat_l, cat_r, cat_n, Nat.reduceLeDiff, Nat.reduceAdd, Nat.reduceEqDiff, Nat.zero_le, p_ent, p_u_ne, p_u_at, reduceIte, if_true, if_false, pnI, bN, e1, c1, e2, c2]
      · rw [decide_eq_false c2]
        simp -implicitDefEqProofs (disch := first | omega | decide) only [P_m, ↓P_run_eq _ 37 _ (p_bk 37 0), bk_37_0, pb_37_0, ↓P_run_eq _ 37 _ (p_bk 37 3), bk_37_3, pb_37_3, ↓P_run_eq _ 37 _ (p_bk 37 5), bk_37_5, pb_37_5, ↓P_run_eq _ 37 _ (p_bk 37 6), bk_37_6, pb_37_6, pw_iload_n1, pw_iconst, il_m1, pw_cne, pw_iload_n0, pw_is1, il_1, pw_cgt, pw_goto, pw_iand, pw_zeq, pw_ixor, pw_zne, pw_nop, il_0, pw_ret1, n_0, n_1, nn_lt, nn_nlt, nn_le, nn_nle, nn_ne, nn_sub, nn_mul, nI_add, nn_neg, nm_eq, mn_eq, mm_eq, mn_lt, nm_lt, mn_le, nm_le, nn_sub0, nn_of, implies_true, nn_c, nn_in, nn_div, nat_rem, Nat.reduceMul, Nat.reduceSub, Nat.reduceDiv, Nat.reduceMod, pf_at, pf_ne, mk_s, mk_1, Classical.not_not, b2i_T, b2i_F, false_imp_iff, true_imp_iff, false_and, and_false, p_sw, Int.reduceAdd, Int.zero_add, Option.some.injEq, Value.int.injEq, Value.long.injEq, Value.ref.injEq, exists_eq_left', mk_I, mk_L, mk_wI, mk_wL, rf_s, rf_n, true_and, and_true, and_self, or_true, true_or, or_false, false_or, not_true_eq_false, not_false_eq_true, Option.toList_some, Option.toList_none, List.cons_append, List.nil_append, List.map_nil, List.map_cons, List.sum_nil, List.sum_cons, cat_i, cat_l, cat_r, cat_n, Nat.reduceLeDiff, Nat.reduceAdd, Nat.reduceEqDiff, Nat.zero_le, p_ent, p_u_ne, p_u_at, reduceIte, if_true, if_false, pnI, bN, e1, c1, e2, c2]
theorem pl_40 {s q n A a : Nat} {T : Nat → Option Nat} {w : Nat → Nat} {md : Bool} (hn : n ≤ 8) (hw : ∀ t, t < n → w t ≤ 99) (hs : s < 256) (hq : q < 8) (hA : dn s A = 0) (hb : tbB n w md T)
    (hT : ∀ s', s' < s → dn s' A = 0 → I 62 s' = pnI (T s')) (hth : ∀ x, x < 4 → I 64 (q * 4 + x) = nI (thA a n x)) :
    P_m d 40 [.ref 48, .int (nI s), .int (nI q), .int (nI (bN md))] (p_mk Ls I L R X) (fun v h' => v = some (.int (pnI (outB md (bhx T a n s 4)))) ∧ h' = p_mk Ls I L R X) := by
  have loop : ∀ x, x ≤ 4 → ∀ b, bhx T a n s x = some b → P_run d 40 (p_bk 40 1) 0 0 [.ref 48, .int (nI s), .int (nI q), .int (nI (bN md)), .int (nI b.1), .int (nI b.2), .int (nI x)] [] (p_mk Ls I L R X) (fun v h' => v = some (.int (pnI (outB md (bhx T a n s 4)))) ∧ h' = p_mk Ls I L R X) := by
    refine down_ind ?_ ?_
    · intro b e
      rw [e]
      cases md
      · rw [P_run_eq, bk_40_1, pb_40_1]; simp -implicitDefEqProofs (disch := first | omega | decide) only [P_m, ↓P_run_eq _ 40 _ (p_bk 40 4), bk_40_4, pb_40_4, ↓P_run_eq _ 40 _ (p_bk 40 5), bk_40_5, pb_40_5, ↓P_run_eq _ 40 _ (p_bk 40 6), bk_40_6, pb_40_6, pw_iload_6, pw_iconst, il_4, pw_cge, pw_iload_n1, pw_aload_n0, pw_aloadN_n0, pw_getR, pw_iload_n2, pw_imul, pw_iadd, pw_iald, pw_iand, pw_istore, ps_7, pe_7, po_i7, po_r7, po_n7, po_u7, pw_iload_7, pw_ceq, il_m1, pw_cne, pw_nop, pw_iload_n3, pw_zeq, pw_iload_4, pw_goto, pw_iload_5, pw_ret0, n_0, n_1, n_4, nn_lt, nn_nlt, nn_le, nn_nle, nn_ne, nn_sub, nn_mul, nI_add, nn_neg, nm_eq, mn_eq, mm_eq, mn_lt, nm_lt, mn_le, nm_le, nn_sub0, nn_of, implies_true, nn_c, nn_in, nn_div, nat_rem, Nat.reduceMul, Nat.reduceSub, Nat.reduceDiv, Nat.reduceMod, pf_at, pf_ne, mk_s, mk_1, Classical.not_not, b2i_T, b2i_F, false_imp_iff, true_imp_iff, false_and, and_false, p_sw, Int.reduceAdd, Int.zero_add, Option.some.injEq, Value.int.injEq, Value.long.injEq, Value.ref.injEq, exists_eq_left', mk_I, mk_L, mk_wI, mk_wL, rf_s, rf_n, true_and, and_true, and_self, or_true, true_or, or_false, false_or, not_true_eq_false, not_false_eq_true, Option.toList_some, Option.toList_none, List.cons_append, List.nil_append, List.map_nil, List.map_cons, List.sum_nil, List.sum_cons, cat_i, cat_l, cat_r, cat_n, Nat.reduceLeDiff, Nat.reduceAdd, Nat.reduceEqDiff, Nat.zero_le, p_ent, p_u_ne, p_u_at, reduceIte, if_true, if_false, bN, pnI, outB, Option.map_some]
        first | done | rfl
      · rw [P_run_eq, bk_40_1, pb_40_1]; simp -implicitDefEqProofs (disch := first | omega | decide) only [P_m, ↓P_run_eq _ 40 _ (p_bk 40 4), bk_40_4, pb_40_4, ↓P_run_eq _ 40 _ (p_bk 40 5), bk_40_5, pb_40_5, ↓P_run_eq _ 40 _ (p_bk 40 6), bk_40_6, pb_40_6, pw_iload_6, pw_iconst, il_4, pw_cge, pw_iload_n1, pw_aload_n0, pw_aloadN_n0, pw_getR, pw_iload_n2, pw_imul, pw_iadd, pw_iald, pw_iand, pw_istore, ps_7, pe_7, po_i7, po_r7, po_n7, po_u7, pw_iload_7, pw_ceq, il_m1, pw_cne, pw_nop, pw_iload_n3, pw_zeq, pw_iload_4, pw_goto, pw_iload_5, pw_ret0, n_0, n_1, n_4, nn_lt, nn_nlt, nn_le, nn_nle, nn_ne, nn_sub, nn_mul, nI_add, nn_neg, nm_eq, mn_eq, mm_eq, mn_lt, nm_lt, mn_le, nm_le, nn_sub0, nn_of, implies_true, nn_c, nn_in, nn_div, nat_rem, Nat.reduceMul, Nat.reduceSub, Nat.reduceDiv, Nat.reduceMod, pf_at, pf_ne, mk_s, mk_1, Classical.not_not, b2i_T, b2i_F, false_imp_iff, true_imp_iff, false_and, and_false, p_sw, Int.reduceAdd, Int.zero_add, Option.some.injEq, Value.int.injEq, Value.long.injEq, Value.ref.injEq, exists_eq_left', mk_I, mk_L, mk_wI, mk_wL, rf_s, rf_n, true_and, and_true, and_self, or_true, true_or, or_false, false_or, not_true_eq_false, not_false_eq_true, Option.toList_some, Option.toList_none, List.cons_append, List.nil_append, List.map_nil, List.map_cons, List.sum_nil, List.sum_cons, cat_i, cat_l, cat_r, cat_n, Nat.reduceLeDiff, Nat.reduceAdd, Nat.reduceEqDiff, Nat.zero_le, p_ent, p_u_ne, p_u_at, reduceIte, if_true, if_false, bN, pnI, outB, Option.map_some]
        first | done | rfl
    · intro x hx ih b e
      obtain ⟨l1, l2, -⟩ := bhx_b hn hw hs hb x b e
      have t1 := hth x hx
      have al := alk_and (a := a) (x := x) hn hs
      have e1 : nI s &&& nI (thA a n x) = nI (alk a n s x) := by rw [nn_and, al]
      have a2 : alk a n s x < 256 := bs_256 hn
      have ex : bhx T a n s (x + 1) = (if alk a n s x = s then none else match T (alk a n s x) with
          | none => none
          | some v => some (b.1 + v, if b.2 < v then v else b.2)) := by
        show (match bhx T a n s x with | none => none | some b => _) = _
        rw [e]
        rfl
      by_cases c : alk a n s x = s
      · rw [if_pos c] at ex
        rw [bhx_4 hx ex]
        rw [c] at e1
        rw [P_run_eq, bk_40_1, pb_40_1]; simp -implicitDefEqProofs (disch := first | omega | decide) only [P_m, ↓P_run_eq _ 40 _ (p_bk 40 2), bk_40_2, pb_40_2, pw_iload_6, pw_iconst, il_4, pw_cge, pw_iload_n1, pw_aload_n0, pw_aloadN_n0, pw_getR, pw_iload_n2, pw_imul, pw_iadd, pw_iald, pw_iand, pw_istore, ps_7, pe_7, po_i7, po_r7, po_n7, po_u7, pw_iload_7, pw_ceq, il_m1, pw_cne, pw_nop, pw_ret0, kd_48, rf_48_0, rf_48_6, rf_48_7, rf_48_8, rf_48_9, rf_48_10, rf_48_12, rf_48_13, rf_48_14, rf_48_15, rf_48_1, rf_48_2, kd_64, n_0, n_1, n_4, nn_lt, nn_nlt, nn_le, nn_nle, nn_ne, nn_sub, nn_mul, nI_add, nn_neg, nm_eq, mn_eq, mm_eq, mn_lt, nm_lt, mn_le, nm_le, nn_sub0, nn_of, implies_true, nn_c, nn_in, nn_div, nat_rem, Nat.reduceMul, Nat.reduceSub, Nat.reduceDiv, Nat.reduceMod, pf_at, pf_ne, mk_s, mk_1, Classical.not_not, b2i_T, b2i_F, false_imp_iff, true_imp_iff, false_and, and_false, p_sw, Int.reduceAdd, Int.zero_add, Option.some.injEq, Value.int.injEq, Value.long.injEq, Value.ref.injEq, exists_eq_left', mk_I, mk_L, mk_wI, mk_wL, rf_s, rf_n, true_and, and_true, and_self, or_true, true_or, or_false, false_or, not_true_eq_false, not_false_eq_true, Option.toList_some, Option.toList_none, List.cons_append, List.nil_append, List.map_nil, List.map_cons, List.sum_nil, List.sum_cons, cat_i, cat_l, cat_r, cat_n, Nat.reduceLeDiff, Nat.reduceAdd, Nat.reduceEqDiff, Nat.zero_le, p_ent, p_u_ne, p_u_at, reduceIte, if_true, if_false, t1, e1, pnI, outB, Option.map_none]
      · rw [if_neg c] at ex
        have t2 := hT _ (alk_lt hn hs c) (alk_in hn hs hA)
        cases e2 : T (alk a n s x) with
        | none =>
          rw [e2] at ex t2
          rw [bhx_4 hx ex]
          replace t2 : I 62 (alk a n s x) = mI 1 := t2
          generalize alk a n s x = z at *
          rw [P_run_eq, bk_40_1, pb_40_1]; simp -implicitDefEqProofs (disch := first | omega | decide) only [P_m, ↓P_run_eq _ 40 _ (p_bk 40 2), bk_40_2, pb_40_2, pw_iload_6, pw_iconst, il_4, pw_cge, pw_iload_n1, pw_aload_n0, pw_aloadN_n0, pw_getR, pw_iload_n2, pw_imul, pw_iadd, pw_iald, pw_iand, pw_istore, ps_7, pe_7, po_i7, po_r7, po_n7, po_u7, pw_iload_7, pw_ceq, il_m1, pw_cne, pw_nop, pw_ret0, kd_48, rf_48_0, rf_48_6, rf_48_7, rf_48_8, rf_48_9, rf_48_10, rf_48_12, rf_48_13, rf_48_14, rf_48_15, rf_48_1, rf_48_2, kd_62, kd_64, n_0, n_1, n_4, nn_lt, nn_nlt, nn_le, nn_nle, nn_ne, nn_sub, nn_mul, nI_add, nn_neg, nm_eq, mn_eq, mm_eq, mn_lt, nm_lt, mn_le, nm_le, nn_sub0, nn_of, implies_true, nn_c, nn_in, nn_div, nat_rem, Nat.reduceMul, Nat.reduceSub, Nat.reduceDiv, Nat.reduceMod, pf_at, pf_ne, mk_s, mk_1, Classical.not_not, b2i_T, b2i_F, false_imp_iff, true_imp_iff, false_and, and_false, p_sw, Int.reduceAdd, Int.zero_add, Option.some.injEq, Value.int.injEq, Value.long.injEq, Value.ref.injEq, exists_eq_left', mk_I, mk_L, mk_wI, mk_wL, rf_s, rf_n, true_and, and_true, and_self, or_true, true_or, or_false, false_or, not_true_eq_false, not_false_eq_true, Option.toList_some, Option.toList_none, List.cons_append, List.nil_append, List.map_nil, List.map_cons, List.sum_nil, List.sum_cons, cat_i, cat_l, cat_r, cat_n, Nat.reduceLeDiff, Nat.reduceAdd, Nat.reduceEqDiff, Nat.zero_le, p_ent, p_u_ne, p_u_at, reduceIte, if_true, if_false, t1, t2, e1, c, pnI, outB, Option.map_none]
        | some v =>
          rw [e2] at ex t2
          have l3 := tbB_le hn hw hb e2
          replace t2 : I 62 (alk a n s x) = nI v := t2
          have ih := ih _ ex
          generalize alk a n s x = z at *
          obtain ⟨b1, b2⟩ := b
          dsimp only at l1 l2 ih ⊢
          by_cases c2 : b2 < v
          · rw [if_pos c2] at ih
            rw [P_run_eq, bk_40_1, pb_40_1]; simp -implicitDefEqProofs (disch := first | omega | decide) only [P_m, ↓P_run_eq _ 40 _ (p_bk 40 3), bk_40_3, pb_40_3, pw_iload_6, pw_iconst, il_4, pw_cge, pw_iload_n1, pw_aload_n0, pw_aloadN_n0, pw_getR, pw_iload_n2, pw_imul, pw_iadd, pw_iald, pw_iand, pw_istore, ps_7, pe_7, po_i7, po_r7, po_n7, po_u7, pw_iload_7, pw_ceq, il_m1, pw_cne, pw_nop, pw_iload_4, ps_4, pe_4, po_i4, po_r4, po_n4, po_u4, pw_iload_5, pw_max, ps_5, pe_5, po_i5, po_r5, po_n5, po_u5, pw_iinc_6, il_1, po_i6, po_r6, po_n6, po_u6, pw_goto, kd_48, rf_48_0, rf_48_6, rf_48_7, rf_48_8, rf_48_9, rf_48_10, rf_48_12, rf_48_13, rf_48_14, rf_48_15, rf_48_1, rf_48_2, kd_62, kd_64, n_0, n_1, n_4, nn_lt, nn_nlt, nn_le, nn_nle, nn_ne, nn_sub, nn_mul, nI_add, nn_neg, nm_eq, mn_eq, mm_eq, mn_lt, nm_lt, mn_le, nm_le, nn_sub0, nn_of, implies_true, nn_c, nn_in, nn_div, nat_rem, Nat.reduceMul, Nat.reduceSub, Nat.reduceDiv, Nat.reduceMod, pf_at, pf_ne, mk_s, mk_1, Classical.not_not, b2i_T, b2i_F, false_imp_iff, true_imp_iff, false_and, and_false, p_sw, Int.reduceAdd, Int.zero_add, Option.some.injEq, Value.int.injEq, Value.long.injEq, Value.ref.injEq, exists_eq_left', mk_I, mk_L, mk_wI, mk_wL, rf_s, rf_n, true_and, and_true, and_self, or_true, true_or, or_false, false_or, not_true_eq_false, not_false_eq_true, Option.toList_some, Option.toList_none, List.cons_append, List.nil_append, List.map_nil, List.map_cons, List.sum_nil, List.sum_cons, cat_i, cat_l, cat_r, cat_n, Nat.reduceLeDiff, Nat.reduceAdd, Nat.reduceEqDiff, Nat.zero_le, p_ent, p_u_ne, p_u_at, reduceIte, if_true, if_false, t1, t2, e1, c]
            exact P_ls ih one_l
          · rw [if_neg c2] at ih
            rw [P_run_eq, bk_40_1, pb_40_1]; simp -implicitDefEqProofs (disch := first | omega | decide) only [P_m, ↓P_run_eq _ 40 _ (p_bk 40 3), bk_40_3, pb_40_3, pw_iload_6, pw_iconst, il_4, pw_cge, pw_iload_n1, pw_aload_n0, pw_aloadN_n0, pw_getR, pw_iload_n2, pw_imul, pw_iadd, pw_iald, pw_iand, pw_istore, ps_7, pe_7, po_i7, po_r7, po_n7, po_u7, pw_iload_7, pw_ceq, il_m1, pw_cne, pw_nop, pw_iload_4, ps_4, pe_4, po_i4, po_r4, po_n4, po_u4, pw_iload_5, pw_max, ps_5, pe_5, po_i5, po_r5, po_n5, po_u5, pw_iinc_6, il_1, po_i6, po_r6, po_n6, po_u6, pw_goto, kd_48, rf_48_0, rf_48_6, rf_48_7, rf_48_8, rf_48_9, rf_48_10, rf_48_12, rf_48_13, rf_48_14, rf_48_15, rf_48_1, rf_48_2, kd_62, kd_64, n_0, n_1, n_4, nn_lt, nn_nlt, nn_le, nn_nle, nn_ne, nn_sub, nn_mul, nI_add, nn_neg, nm_eq, mn_eq, mm_eq, mn_lt, nm_lt, mn_le, nm_le, nn_sub0, nn_of, implies_true, nn_c, nn_in, nn_div, nat_rem, Nat.reduceMul, Nat.reduceSub, Nat.reduceDiv, Nat.reduceMod, pf_at, pf_ne, mk_s, mk_1, Classical.not_not, b2i_T, b2i_F, false_imp_iff, true_imp_iff, false_and, and_false, p_sw, Int.reduceAdd, Int.zero_add, Option.some.injEq, Value.int.injEq, Value.long.injEq, Value.ref.injEq, exists_eq_left', mk_I, mk_L, mk_wI, mk_wL, rf_s, rf_n, true_and, and_true, and_self, or_true, true_or, or_false, false_or, not_true_eq_false, not_false_eq_true, Option.toList_some, Option.toList_none, List.cons_append, List.nil_append, List.map_nil, List.map_cons, List.sum_nil, List.sum_cons, cat_i, cat_l, cat_r, cat_n, Nat.reduceLeDiff, Nat.reduceAdd, Nat.reduceEqDiff, Nat.zero_le, p_ent, p_u_ne, p_u_at, reduceIte, if_true, if_false, t1, t2, e1, c]
            exact P_ls ih one_l
  simp -implicitDefEqProofs (disch := first | omega | decide) only [P_m, ↓P_run_eq _ 40 _ (p_bk 40 0), bk_40_0, pb_40_0, pw_iconst, il_0, pw_istore, ps_4, pe_4, po_i4, po_r4, po_n4, po_u4, ps_5, pe_5, po_i5, po_r5, po_n5, po_u5, ps_6, pe_6, po_i6, po_r6, po_n6, po_u6, pw_nop, kd_48, rf_48_0, rf_48_6, rf_48_7, rf_48_8, rf_48_9, rf_48_10, rf_48_12, rf_48_13, rf_48_14, rf_48_15, rf_48_1, rf_48_2, n_0, n_1, nn_lt, nn_nlt, nn_le, nn_nle, nn_ne, nn_sub, nn_mul, nI_add, nn_neg, nm_eq, mn_eq, mm_eq, mn_lt, nm_lt, mn_le, nm_le, nn_sub0, nn_of, implies_true, nn_c, nn_in, nn_div, nat_rem, Nat.reduceMul, Nat.reduceSub, Nat.reduceDiv, Nat.reduceMod, pf_at, pf_ne, mk_s, mk_1, Classical.not_not, b2i_T, b2i_F, false_imp_iff, true_imp_iff, false_and, and_false, p_sw, Int.reduceAdd, Int.zero_add, Option.some.injEq, Value.int.injEq, Value.long.injEq, Value.ref.injEq, exists_eq_left', mk_I, mk_L, mk_wI, mk_wL, rf_s, rf_n, true_and, and_true, and_self, or_true, true_or, or_false, false_or, not_true_eq_false, not_false_eq_true, Option.toList_some, Option.toList_none, List.cons_append, List.nil_append, List.map_nil, List.map_cons, List.sum_nil, List.sum_cons, cat_i, cat_l, cat_r, cat_n, Nat.reduceLeDiff, Nat.reduceAdd, Nat.reduceEqDiff, Nat.zero_le, p_ent, p_u_ne, p_u_at, reduceIte, if_true, if_false]
  exact loop 0 (by omega) (0, 0) rfl
end PC
