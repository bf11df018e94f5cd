/-! THE CLASS READS TESTS -/
section TE
variable (o : Bool) (B : Nat → Nat) (T Ls : Nat) (L : Nat → Nat → Int64) (R : Nat → Nat → Option Nat) (X : List pKd)
def okTest (k : Nat) : Prop := ∀ x d l c p g cs D I r, d ≤ 8 → rdB o B T I R → rdS B T I k l D → c = D.length → RB o (tC B T) (tV B T) 1 p d k l c g cs = some r → ∃ J, (frS I J ∧ ocS B T J D r) ∧ P_m (x + 5 * (8 - d) + 14) 60 [.ref 35, .int (nI d)] (p_mk Ls I L R X) (fun v h' => v = some (.int (nI (ocV r))) ∧ h' = p_mk Ls J L R X)
def okPlain (k : Nat) : Prop := ∀ x d l c g cs D I r, d ≤ 8 → rdB o B T I R → rdS B T I k l D → c = D.length → RB o (tC B T) (tV B T) 0 false d k l c g cs = some r → ∃ J, (frS I J ∧ ocS B T J D r) ∧ P_m (x + 5 * (8 - d) + 13) 61 [.ref 35, .int (nI d)] (p_mk Ls I L R X) (fun v h' => v = some (.int (nI (ocV r))) ∧ h' = p_mk Ls J L R X)
end TE
section R6
variable (o : Bool) (C V : Nat → Nat)
def R63 (d k l : Nat) : tRB := bnd (RS o C V 1 d k l (fun _ => none) []) fun r => if cmpOp (C r.1) = 0 then some (.error r.1) else bnd (RS o C V 1 d (r.1 + 1) r.2.1 (fun _ => none) []) fun s => some (.ok (s.1, s.2.1, cmpS (cmpOp (C r.1)) r.2.2.1 s.2.2.1, r.2.2.2 ++ (s.2.2.2 ++ [(cmpOp (C r.1), 0)])))
def R62 (d k l c : Nat) (g : tDB) : tRB := if 8 ≤ d then some (.error k) else bnd (RB o C V 1 false (d + 1) (k + 1) l c g []) fun r => if C r.1 = 141 then some (.ok (r.1 + 1, r.2.1, r.2.2.1, r.2.2.2)) else some (.error r.1)
def Rpl (d k l c : Nat) (g : tDB) : tRB := if C k = 140 then R62 o C V d k l c g else R63 o C V d k l
end R6
section TF
variable {o : Bool} {B : Nat → Nat} {T Ls N : Nat} {L : Nat → Nat → Int64} {R : Nat → Nat → Option Nat} {X : List pKd}
theorem RB_pl {C V : Nat → Nat} (hN : ∀ k, N ≤ k → C k = 0) (h4 : N ≤ 400) {d k l c : Nat} {p : Bool} {g : tDB} {cs : tCd} (hk : k ≤ N) (h7 : ¬ C k = 7) : RB o C V 0 p d k l c g cs = bnd (Rpl o C V d k l c g) fun r => some (.ok (r.1, r.2.1, notD p r.2.2.1, r.2.2.2 ++ notC p)) := by
  rw [RB_0 hN h4 hk, if_neg h7]
  unfold Rpl
  by_cases c1 : C k = 140
  · rw [if_pos c1, if_pos c1]
    unfold R62
    by_cases c8 : 8 ≤ d
    · rw [if_pos c8, if_pos c8]; rfl
    · rw [if_neg c8, if_neg c8, bnd_as]
      refine bnd_cg rfl (fun a _ => ?_)
      by_cases c2 : C a.1 = 141
      · rw [if_pos c2, if_pos c2]; rfl
      · rw [if_neg c2, if_neg c2]; rfl
  · rw [if_neg c1, if_neg c1]
    unfold R63
    rw [bnd_as]
    refine bnd_cg rfl (fun a _ => ?_)
    by_cases c2 : cmpOp (C a.1) = 0
    · rw [if_pos c2, if_pos c2]; rfl
    · rw [if_neg c2, if_neg c2, bnd_as]
      refine bnd_cg rfl (fun s _ => ?_)
      rw [bnd_ok]
      simp only [List.append_assoc, List.cons_append, List.nil_append]
theorem cmp_cs (c : Nat) : (cmpOp c = 0 ∨ cmpOp c = 10 ∨ cmpOp c = 11 ∨ cmpOp c = 12) ∧ (c = 160 → cmpOp c = 10) ∧ (c = 162 → cmpOp c = 11) ∧ (c = 161 → cmpOp c = 12) ∧ (¬ c = 160 → ¬ c = 162 → ¬ c = 161 → cmpOp c = 0) := by
  refine ⟨?_, fun h => by subst h; rfl, fun h => by subst h; rfl, fun h => by subst h; rfl, fun h1 h2 h3 => ?_⟩
  · unfold cmpOp; (repeat' split) <;> omega
  · unfold cmpOp; rw [if_neg h1, if_neg h2, if_neg h3]
theorem sg3 : (isSm 60 = false ∧ isDg 60 = false) ∧ (isSm 62 = false ∧ isDg 62 = false) ∧ (isSm 61 = false ∧ isDg 61 = false) ∧ (isSm 40 = false ∧ isDg 40 = false) ∧ isSm 41 = false ∧ isDg 41 = false := by decide
theorem bl_cmp {D k d : Nat} {I : Nat → Nat → Int32} {Q : Option Value → pHp → Prop} (h0 : cT0 B T I R) (hk : cTk B T I k) (nx : P_run (D + 1) 63 (p_bk 63 5) 0 0 [.ref 35, .int (nI d)] [.int (pz (cmpOp (tC B T k)))] (p_mk Ls I L R X) Q) : P_run (D + 1) 63 (p_bk 63 1) 0 0 [.ref 35, .int (nI d)] [] (p_mk Ls I L R X) Q := by
  obtain ⟨-, m1, m2, m3, m4⟩ := cmp_cs (tC B T k)
  have s1 := pl_68 (d := D) (Ls := Ls) (L := L) (X := X) (c := 60) h0 hk (by omega) sg3.1.1 sg3.1.2
  have s2 := pl_68 (d := D) (Ls := Ls) (L := L) (X := X) (c := 62) h0 hk (by omega) sg3.2.1.1 sg3.2.1.2
  have s3 := pl_68 (d := D) (Ls := Ls) (L := L) (X := X) (c := 61) h0 hk (by omega) sg3.2.2.1.1 sg3.2.2.1.2
  by_cases c1 : tC B T k = 160
  · rw [m1 c1, pz_n (a := 10) (by omega)] at nx
    rw [decide_eq_true (show tC B T k = 100 + 60 from c1), bN_t] at s1
    rw [P_run_eq, bk_63_1, pb_63_1]; simp -implicitDefEqProofs (disch := first | omega | decide) only [P_m, pw_aload_n0, pw_aloadN_n0, pw_bipush, bl_60, pw_iv2, pw_zeq, bl_10, pw_goto, kd_35, rf_35_0, rf_35_1, n_0, n_1, n_10, n_60, nn_lt, nn_nlt, nn_le, nn_nle, nn_ne, nn_sub, nn_mul, nI_add, nn_neg, nm_eq, mn_eq, mm_eq, mn_lt, nm_lt, mn_le, nm_le, nn_sub0, nn_of, implies_true, nn_c, nn_in, nn_div, nat_rem, Nat.reduceMul, Nat.reduceSub, Nat.reduceDiv, Nat.reduceMod, pf_at, pf_ne, mk_s, mk_1, Classical.not_not, b2i_T, b2i_F, false_imp_iff, true_imp_iff, false_and, and_false, p_sw, Int.reduceAdd, Int.zero_add, Option.some.injEq, Value.int.injEq, Value.long.injEq, Value.ref.injEq, exists_eq_left', mk_I, mk_L, mk_wI, mk_wL, rf_s, rf_n, true_and, and_true, and_self, or_true, true_or, or_false, false_or, not_true_eq_false, not_false_eq_true, Option.toList_some, Option.toList_none, List.cons_append, List.nil_append, List.map_nil, List.map_cons, List.sum_nil, List.sum_cons, cat_i, cat_l, cat_r, cat_n, Nat.reduceLeDiff, Nat.reduceAdd, Nat.reduceEqDiff, Nat.zero_le, p_ent, p_u_ne, p_u_at, reduceIte, if_true, if_false, P_ce s1]
    exact nx
  · rw [decide_eq_false (show ¬ tC B T k = 100 + 60 from c1), bN_f] at s1
    by_cases c2 : tC B T k = 162
    · rw [m2 c2, pz_n (a := 11) (by omega)] at nx
      rw [decide_eq_true (show tC B T k = 100 + 62 from c2), bN_t] at s2
      rw [P_run_eq, bk_63_1, pb_63_1]; simp -implicitDefEqProofs (disch := first | omega | decide) only [P_m, ↓P_run_eq _ 63 _ (p_bk 63 2), bk_63_2, pb_63_2, pw_aload_n0, pw_aloadN_n0, pw_bipush, bl_60, pw_iv2, pw_zeq, bl_10, pw_goto, bl_62, bl_11, kd_35, rf_35_0, rf_35_1, n_0, n_1, n_10, n_11, n_60, n_62, nn_lt, nn_nlt, nn_le, nn_nle, nn_ne, nn_sub, nn_mul, nI_add, nn_neg, nm_eq, mn_eq, mm_eq, mn_lt, nm_lt, mn_le, nm_le, nn_sub0, nn_of, implies_true, nn_c, nn_in, nn_div, nat_rem, Nat.reduceMul, Nat.reduceSub, Nat.reduceDiv, Nat.reduceMod, pf_at, pf_ne, mk_s, mk_1, Classical.not_not, b2i_T, b2i_F, false_imp_iff, true_imp_iff, false_and, and_false, p_sw, Int.reduceAdd, Int.zero_add, Option.some.injEq, Value.int.injEq, Value.long.injEq, Value.ref.injEq, exists_eq_left', mk_I, mk_L, mk_wI, mk_wL, rf_s, rf_n, true_and, and_true, and_self, or_true, true_or, or_false, false_or, not_true_eq_false, not_false_eq_true, Option.toList_some, Option.toList_none, List.cons_append, List.nil_append, List.map_nil, List.map_cons, List.sum_nil, List.sum_cons, cat_i, cat_l, cat_r, cat_n, Nat.reduceLeDiff, Nat.reduceAdd, Nat.reduceEqDiff, Nat.zero_le, p_ent, p_u_ne, p_u_at, reduceIte, if_true, if_false, P_ce s1, P_ce s2]
      exact nx
    · rw [decide_eq_false (show ¬ tC B T k = 100 + 62 from c2), bN_f] at s2
      by_cases c3 : tC B T k = 161
      · rw [m3 c3, pz_n (a := 12) (by omega)] at nx
        rw [decide_eq_true (show tC B T k = 100 + 61 from c3), bN_t] at s3
        rw [P_run_eq, bk_63_1, pb_63_1]; simp -implicitDefEqProofs (disch := first | omega | decide) only [P_m, ↓P_run_eq _ 63 _ (p_bk 63 2), bk_63_2, pb_63_2, ↓P_run_eq _ 63 _ (p_bk 63 3), bk_63_3, pb_63_3, pw_aload_n0, pw_aloadN_n0, pw_bipush, bl_60, pw_iv2, pw_zeq, bl_10, pw_goto, bl_62, bl_11, bl_61, bl_12, kd_35, rf_35_0, rf_35_1, n_0, n_1, n_10, n_11, n_12, n_60, n_61, n_62, nn_lt, nn_nlt, nn_le, nn_nle, nn_ne, nn_sub, nn_mul, nI_add, nn_neg, nm_eq, mn_eq, mm_eq, mn_lt, nm_lt, mn_le, nm_le, nn_sub0, nn_of, implies_true, nn_c, nn_in, nn_div, nat_rem, Nat.reduceMul, Nat.reduceSub, Nat.reduceDiv, Nat.reduceMod, pf_at, pf_ne, mk_s, mk_1, Classical.not_not, b2i_T, b2i_F, false_imp_iff, true_imp_iff, false_and, and_false, p_sw, Int.reduceAdd, Int.zero_add, Option.some.injEq, Value.int.injEq, Value.long.injEq, Value.ref.injEq, exists_eq_left', mk_I, mk_L, mk_wI, mk_wL, rf_s, rf_n, true_and, and_true, and_self, or_true, true_or, or_false, false_or, not_true_eq_false, not_false_eq_true, Option.toList_some, Option.toList_none, List.cons_append, List.nil_append, List.map_nil, List.map_cons, List.sum_nil, List.sum_cons, cat_i, cat_l, cat_r, cat_n, Nat.reduceLeDiff, Nat.reduceAdd, Nat.reduceEqDiff, Nat.zero_le, p_ent, p_u_ne, p_u_at, reduceIte, if_true, if_false, P_ce s1, P_ce s2, P_ce s3]
        exact nx
      · rw [m4 c1 c2 c3, pz_0] at nx
        rw [decide_eq_false (show ¬ tC B T k = 100 + 61 from c3), bN_f] at s3
        rw [P_run_eq, bk_63_1, pb_63_1]; simp -implicitDefEqProofs (disch := first | omega | decide) only [P_m, ↓P_run_eq _ 63 _ (p_bk 63 2), bk_63_2, pb_63_2, ↓P_run_eq _ 63 _ (p_bk 63 3), bk_63_3, pb_63_3, ↓P_run_eq _ 63 _ (p_bk 63 4), bk_63_4, pb_63_4, pw_aload_n0, pw_aloadN_n0, pw_bipush, bl_60, pw_iv2, pw_zeq, bl_10, pw_goto, bl_62, bl_11, bl_61, bl_12, pw_iconst, il_m1, pw_nop, kd_35, rf_35_0, rf_35_1, n_0, n_1, n_10, n_11, n_12, n_60, n_61, n_62, nn_lt, nn_nlt, nn_le, nn_nle, nn_ne, nn_sub, nn_mul, nI_add, nn_neg, nm_eq, mn_eq, mm_eq, mn_lt, nm_lt, mn_le, nm_le, nn_sub0, nn_of, implies_true, nn_c, nn_in, nn_div, nat_rem, Nat.reduceMul, Nat.reduceSub, Nat.reduceDiv, Nat.reduceMod, pf_at, pf_ne, mk_s, mk_1, Classical.not_not, b2i_T, b2i_F, false_imp_iff, true_imp_iff, false_and, and_false, p_sw, Int.reduceAdd, Int.zero_add, Option.some.injEq, Value.int.injEq, Value.long.injEq, Value.ref.injEq, exists_eq_left', mk_I, mk_L, mk_wI, mk_wL, rf_s, rf_n, true_and, and_true, and_self, or_true, true_or, or_false, false_or, not_true_eq_false, not_false_eq_true, Option.toList_some, Option.toList_none, List.cons_append, List.nil_append, List.map_nil, List.map_cons, List.sum_nil, List.sum_cons, cat_i, cat_l, cat_r, cat_n, Nat.reduceLeDiff, Nat.reduceAdd, Nat.reduceEqDiff, Nat.zero_le, p_ent, p_u_ne, p_u_at, reduceIte, if_true, if_false, P_ce s1, P_ce s2, P_ce s3]
        exact nx
theorem pl_63 {x d k l : Nat} {D : tCd} {I : Nat → Nat → Int32} {r : Except Nat (Nat × Nat × tDB × tCd)} (hN : ∀ k, N ≤ k → tC B T k = 0) (h4 : N ≤ 400) (d8 : d ≤ 8) (hk : k ≤ N) (H : rdB o B T I R) (hS : rdS B T I k l D) (hr : R63 o (tC B T) (tV B T) d k l = some r) : ∃ J, (frS I J ∧ ocS B T J D r) ∧ P_m (x + 2 * (8 - d) + 12) 63 [.ref 35, .int (nI d)] (p_mk Ls I L R X) (fun v h' => v = some (.int (nI (ocV r))) ∧ h' = p_mk Ls J L R X) := by
  unfold R63 at hr
  obtain ⟨q, hq⟩ := RS_t (o := o) (V := tV B T) (md := 1) (d := d) (l := l) (f := fun _ => none) (cs := []) hN h4 hk (by omega)
  obtain ⟨J1, ⟨f1, o1⟩, s1⟩ := sums_c (o := o) (Ls := Ls) (L := L) (R := R) (X := X) hN h4 k hk x d l _ [] D I q d8 H hS hq
  rw [hq] at hr
  match q, hq, o1, s1, hr with
  | .error e, hq, o1, s1, hr =>
    cases hr
    refine ⟨J1, ⟨f1, o1⟩, ?_⟩
    show P_m _ _ _ _ (fun v h' => v = some (.int (nI 0)) ∧ _)
    replace s1 : P_m (x + 2 * (8 - d) + 11) 64 [.ref 35, .int (nI d)] (p_mk Ls I L R X) (fun v h' => v = some (.int (nI 0)) ∧ h' = p_mk Ls J1 L R X) := s1
    simp -implicitDefEqProofs (disch := first | omega | decide) only [P_m, ↓P_run_eq _ 63 _ (p_bk 63 0), bk_63_0, pb_63_0, pw_aload_n0, pw_aloadN_n0, pw_iload_n1, pw_iv2, pw_zne, pw_iconst, il_0, pw_ret1, kd_35, rf_35_0, rf_35_1, n_0, n_1, nn_lt, nn_nlt, nn_le, nn_nle, nn_ne, nn_sub, nn_mul, nI_add, nn_neg, nm_eq, mn_eq, mm_eq, mn_lt, nm_lt, mn_le, nm_le, nn_sub0, nn_of, implies_true, nn_c, nn_in, nn_div, nat_rem, Nat.reduceMul, Nat.reduceSub, Nat.reduceDiv, Nat.reduceMod, pf_at, pf_ne, mk_s, mk_1, Classical.not_not, b2i_T, b2i_F, false_imp_iff, true_imp_iff, false_and, and_false, p_sw, Int.reduceAdd, Int.zero_add, Option.some.injEq, Value.int.injEq, Value.long.injEq, Value.ref.injEq, exists_eq_left', mk_I, mk_L, mk_wI, mk_wL, rf_s, rf_n, true_and, and_true, and_self, or_true, true_or, or_false, false_or, not_true_eq_false, not_false_eq_true, Option.toList_some, Option.toList_none, List.cons_append, List.nil_append, List.map_nil, List.map_cons, List.sum_nil, List.sum_cons, cat_i, cat_l, cat_r, cat_n, Nat.reduceLeDiff, Nat.reduceAdd, Nat.reduceEqDiff, Nat.zero_le, p_ent, p_u_ne, p_u_at, reduceIte, if_true, if_false, P_ce s1]
  | .ok q, hq, o1, s1, hr =>
    have o1 : rdS B T J1 q.1 q.2.1 (D ++ q.2.2.2) := o1
    replace s1 : P_m (x + 2 * (8 - d) + 11) 64 [.ref 35, .int (nI d)] (p_mk Ls I L R X) (fun v h' => v = some (.int (nI 1)) ∧ h' = p_mk Ls J1 L R X) := s1
    obtain ⟨q1, q2, -⟩ := RS_pr hN hq hk
    obtain ⟨q3, q4⟩ := q2 (by omega)
    have H1 := rdB_fr H f1
    rw [bnd_ok] at hr
    obtain ⟨cc, -⟩ := cmp_cs (tC B T q.1)
    by_cases c0 : cmpOp (tC B T q.1) = 0
    · rw [if_pos c0] at hr
      cases hr
      refine ⟨J1, ⟨f1, o1.1⟩, ?_⟩
      have nx : P_run (x + 2 * (8 - d) + 11 + 1) 63 (p_bk 63 1) 0 0 [.ref 35, .int (nI d)] [] (p_mk Ls J1 L R X) (fun v h' => v = some (.int (nI 0)) ∧ h' = p_mk Ls J1 L R X) := by
        refine bl_cmp H1.2.1 o1.1 ?_
        rw [c0, pz_0]
        rw [P_run_eq, bk_63_5, pb_63_5]; simp -implicitDefEqProofs (disch := first | omega | decide) only [P_m, pw_istore_n2, ps_2, pe_2, po_i2, po_r2, po_n2, po_u2, pw_iload_n2, pw_iconst, il_m1, pw_cne, il_0, pw_ret1, kd_35, rf_35_0, rf_35_1, n_0, n_1, nn_lt, nn_nlt, nn_le, nn_nle, nn_ne, nn_sub, nn_mul, nI_add, nn_neg, nm_eq, mn_eq, mm_eq, mn_lt, nm_lt, mn_le, nm_le, nn_sub0, nn_of, implies_true, nn_c, nn_in, nn_div, nat_rem, Nat.reduceMul, Nat.reduceSub, Nat.reduceDiv, Nat.reduceMod, pf_at, pf_ne, mk_s, mk_1, Classical.not_not, b2i_T, b2i_F, false_imp_iff, true_imp_iff, false_and, and_false, p_sw, Int.reduceAdd, Int.zero_add, Option.some.injEq, Value.int.injEq, Value.long.injEq, Value.ref.injEq, exists_eq_left', mk_I, mk_L, mk_wI, mk_wL, rf_s, rf_n, true_and, and_true, and_self, or_true, true_or, or_false, false_or, not_true_eq_false, not_false_eq_true, Option.toList_some, Option.toList_none, List.cons_append, List.nil_append, List.map_nil, List.map_cons, List.sum_nil, List.sum_cons, cat_i, cat_l, cat_r, cat_n, Nat.reduceLeDiff, Nat.reduceAdd, Nat.reduceEqDiff, Nat.zero_le, p_ent, p_u_ne, p_u_at, reduceIte, if_true, if_false]
      show P_m _ _ _ _ (fun v h' => v = some (.int (nI 0)) ∧ _)
      simp -implicitDefEqProofs (disch := first | omega | decide) only [P_m, ↓P_run_eq _ 63 _ (p_bk 63 0), bk_63_0, pb_63_0, pw_aload_n0, pw_aloadN_n0, pw_iload_n1, pw_iv2, pw_zne, pw_iconst, il_0, pw_ret1, kd_35, rf_35_0, rf_35_1, n_0, n_1, nn_lt, nn_nlt, nn_le, nn_nle, nn_ne, nn_sub, nn_mul, nI_add, nn_neg, nm_eq, mn_eq, mm_eq, mn_lt, nm_lt, mn_le, nm_le, nn_sub0, nn_of, implies_true, nn_c, nn_in, nn_div, nat_rem, Nat.reduceMul, Nat.reduceSub, Nat.reduceDiv, Nat.reduceMod, pf_at, pf_ne, mk_s, mk_1, Classical.not_not, b2i_T, b2i_F, false_imp_iff, true_imp_iff, false_and, and_false, p_sw, Int.reduceAdd, Int.zero_add, Option.some.injEq, Value.int.injEq, Value.long.injEq, Value.ref.injEq, exists_eq_left', mk_I, mk_L, mk_wI, mk_wL, rf_s, rf_n, true_and, and_true, and_self, or_true, true_or, or_false, false_or, not_true_eq_false, not_false_eq_true, Option.toList_some, Option.toList_none, List.cons_append, List.nil_append, List.map_nil, List.map_cons, List.sum_nil, List.sum_cons, cat_i, cat_l, cat_r, cat_n, Nat.reduceLeDiff, Nat.reduceAdd, Nat.reduceEqDiff, Nat.zero_le, p_ent, p_u_ne, p_u_at, reduceIte, if_true, if_false, P_ce s1]
      exact nx
    · rw [if_neg c0] at hr
      have qN := kN_of hN (show ¬ tC B T q.1 = 0 from fun h => c0 (by rw [h]; rfl))
      have s72 := pl_step (d := x + 2 * (8 - d) + 11) (Ls := Ls) (L := L) (X := X) H1.2.1 o1.1
      have f2 : frS I (stp B T J1 (q.1 + 1)) := frS_tr f1 frS_stp
      have H2 := rdB_fr H f2
      have o2 := rdS_stp o1
      obtain ⟨s, hs⟩ := RS_t (o := o) (V := tV B T) (md := 1) (d := d) (l := q.2.1) (f := fun _ => none) (cs := []) hN h4 (show q.1 + 1 ≤ N by omega) (by omega)
      obtain ⟨J3, ⟨f3, o3⟩, s3⟩ := sums_c (o := o) (Ls := Ls) (L := L) (R := R) (X := X) hN h4 (q.1 + 1) (by omega) x d q.2.1 _ [] (D ++ q.2.2.2) _ s d8 H2 o2 hs
      rw [hs] at hr
      match s, hs, o3, s3, hr with
      | .error e, hs, o3, s3, hr =>
        cases hr
        refine ⟨J3, ⟨frS_tr f2 f3, o3⟩, ?_⟩
        replace s3 : P_m (x + 2 * (8 - d) + 11) 64 [.ref 35, .int (nI d)] (p_mk Ls (stp B T J1 (q.1 + 1)) L R X) (fun v h' => v = some (.int (nI 0)) ∧ h' = p_mk Ls J3 L R X) := s3
        have nx : P_run (x + 2 * (8 - d) + 11 + 1) 63 (p_bk 63 1) 0 0 [.ref 35, .int (nI d)] [] (p_mk Ls J1 L R X) (fun v h' => v = some (.int (nI 0)) ∧ h' = p_mk Ls J3 L R X) := by
          refine bl_cmp H1.2.1 o1.1 ?_
          rw [pz_n c0]
          generalize stp B T J1 (q.1 + 1) = J2 at *
          generalize cmpOp (tC B T q.1) = cO at *
          have ab : cO < 13 := by omega
          rw [P_run_eq, bk_63_5, pb_63_5]; simp -implicitDefEqProofs (disch := first | omega | decide) only [P_m, ↓P_run_eq _ 63 _ (p_bk 63 6), bk_63_6, pb_63_6, pw_istore_n2, ps_2, pe_2, po_i2, po_r2, po_n2, po_u2, pw_iload_n2, pw_iconst, il_m1, pw_cne, il_0, pw_ret1, pw_aload_n0, pw_aloadN_n0, pw_iv1, pw_iload_n1, pw_iv2, pw_zne, kd_35, rf_35_0, rf_35_1, n_0, n_1, nn_lt, nn_nlt, nn_le, nn_nle, nn_ne, nn_sub, nn_mul, nI_add, nn_neg, nm_eq, mn_eq, mm_eq, mn_lt, nm_lt, mn_le, nm_le, nn_sub0, nn_of, implies_true, nn_c, nn_in, nn_div, nat_rem, Nat.reduceMul, Nat.reduceSub, Nat.reduceDiv, Nat.reduceMod, pf_at, pf_ne, mk_s, mk_1, Classical.not_not, b2i_T, b2i_F, false_imp_iff, true_imp_iff, false_and, and_false, p_sw, Int.reduceAdd, Int.zero_add, Option.some.injEq, Value.int.injEq, Value.long.injEq, Value.ref.injEq, exists_eq_left', mk_I, mk_L, mk_wI, mk_wL, rf_s, rf_n, true_and, and_true, and_self, or_true, true_or, or_false, false_or, not_true_eq_false, not_false_eq_true, Option.toList_some, Option.toList_none, List.cons_append, List.nil_append, List.map_nil, List.map_cons, List.sum_nil, List.sum_cons, cat_i, cat_l, cat_r, cat_n, Nat.reduceLeDiff, Nat.reduceAdd, Nat.reduceEqDiff, Nat.zero_le, p_ent, p_u_ne, p_u_at, reduceIte, if_true, if_false, P_ce s72, P_ce s3]
        show P_m _ _ _ _ (fun v h' => v = some (.int (nI 0)) ∧ _)
        simp -implicitDefEqProofs (disch := first | omega | decide) only [P_m, ↓P_run_eq _ 63 _ (p_bk 63 0), bk_63_0, pb_63_0, pw_aload_n0, pw_aloadN_n0, pw_iload_n1, pw_iv2, pw_zne, pw_iconst, il_0, pw_ret1, kd_35, rf_35_0, rf_35_1, n_0, n_1, nn_lt, nn_nlt, nn_le, nn_nle, nn_ne, nn_sub, nn_mul, nI_add, nn_neg, nm_eq, mn_eq, mm_eq, mn_lt, nm_lt, mn_le, nm_le, nn_sub0, nn_of, implies_true, nn_c, nn_in, nn_div, nat_rem, Nat.reduceMul, Nat.reduceSub, Nat.reduceDiv, Nat.reduceMod, pf_at, pf_ne, mk_s, mk_1, Classical.not_not, b2i_T, b2i_F, false_imp_iff, true_imp_iff, false_and, and_false, p_sw, Int.reduceAdd, Int.zero_add, Option.some.injEq, Value.int.injEq, Value.long.injEq, Value.ref.injEq, exists_eq_left', mk_I, mk_L, mk_wI, mk_wL, rf_s, rf_n, true_and, and_true, and_self, or_true, true_or, or_false, false_or, not_true_eq_false, not_false_eq_true, Option.toList_some, Option.toList_none, List.cons_append, List.nil_append, List.map_nil, List.map_cons, List.sum_nil, List.sum_cons, cat_i, cat_l, cat_r, cat_n, Nat.reduceLeDiff, Nat.reduceAdd, Nat.reduceEqDiff, Nat.zero_le, p_ent, p_u_ne, p_u_at, reduceIte, if_true, if_false, P_ce s1]
        exact nx
      | .ok s, hs, o3, s3, hr =>
        rw [bnd_ok] at hr
        cases hr
        have o3 : rdS B T J3 s.1 s.2.1 (D ++ q.2.2.2 ++ s.2.2.2) := o3
        obtain ⟨t1, t2, -⟩ := RS_pr hN hs (show q.1 + 1 ≤ N by omega)
        obtain ⟨t3, t4⟩ := t2 (by omega)
        replace s3 : P_m (x + 2 * (8 - d) + 11) 64 [.ref 35, .int (nI d)] (p_mk Ls (stp B T J1 (q.1 + 1)) L R X) (fun v h' => v = some (.int (nI 1)) ∧ h' = p_mk Ls J3 L R X) := s3
        have ol := o1.2.2.2.2.1
        have ll : (D ++ q.2.2.2 ++ s.2.2.2).length = (D ++ q.2.2.2).length + s.2.2.2.length := List.length_append
        have s77 := pl_77 (d := x + 2 * (8 - d) + 11) (Ls := Ls) (L := L) (R := R) (X := X) (o := cmpOp (tC B T q.1)) (v := 0) (n := (D ++ q.2.2.2 ++ s.2.2.2).length) (by omega) o3.2.2.2.1
        have o4 := rdS_em (op := cmpOp (tC B T q.1)) (v := 0) o3 (by omega)
        have ex : D ++ q.2.2.2 ++ s.2.2.2 ++ [(cmpOp (tC B T q.1), 0)] = D ++ (q.2.2.2 ++ (s.2.2.2 ++ [(cmpOp (tC B T q.1), 0)])) := by simp only [List.append_assoc]
        rw [ex] at o4
        refine ⟨_, ⟨frS_tr f2 (frS_tr f3 frS_em), o4⟩, ?_⟩
        have nx : P_run (x + 2 * (8 - d) + 11 + 1) 63 (p_bk 63 1) 0 0 [.ref 35, .int (nI d)] [] (p_mk Ls J1 L R X) (fun v h' => v = some (.int (nI 1)) ∧ h' = p_mk Ls (emW J3 (D ++ q.2.2.2 ++ s.2.2.2).length (cmpOp (tC B T q.1)) 0) L R X) := by
          refine bl_cmp H1.2.1 o1.1 ?_
          rw [pz_n c0]
          clear o4 ex
          generalize emW J3 (D ++ q.2.2.2 ++ s.2.2.2).length (cmpOp (tC B T q.1)) 0 = J4 at *
          generalize (D ++ q.2.2.2 ++ s.2.2.2).length = dl at *
          generalize stp B T J1 (q.1 + 1) = J2 at *
          generalize cmpOp (tC B T q.1) = cO at *
          have ab : cO < 13 := by omega
          rw [P_run_eq, bk_63_5, pb_63_5]; simp -implicitDefEqProofs (disch := first | omega | decide) only [P_m, ↓P_run_eq _ 63 _ (p_bk 63 6), bk_63_6, pb_63_6, ↓P_run_eq _ 63 _ (p_bk 63 7), bk_63_7, pb_63_7, pw_istore_n2, ps_2, pe_2, po_i2, po_r2, po_n2, po_u2, pw_iload_n2, pw_iconst, il_m1, pw_cne, il_0, pw_ret1, pw_aload_n0, pw_aloadN_n0, pw_iv1, pw_iload_n1, pw_iv2, pw_zne, pw_getR, pw_iv3, pw_popi, pw_popr, il_1, kd_35, rf_35_0, rf_35_1, kd_36, rf_36_1, rf_36_2, rf_36_3, rf_36_4, rf_36_5, rf_36_7, rf_36_8, n_0, n_1, nn_lt, nn_nlt, nn_le, nn_nle, nn_ne, nn_sub, nn_mul, nI_add, nn_neg, nm_eq, mn_eq, mm_eq, mn_lt, nm_lt, mn_le, nm_le, nn_sub0, nn_of, implies_true, nn_c, nn_in, nn_div, nat_rem, Nat.reduceMul, Nat.reduceSub, Nat.reduceDiv, Nat.reduceMod, pf_at, pf_ne, mk_s, mk_1, Classical.not_not, b2i_T, b2i_F, false_imp_iff, true_imp_iff, false_and, and_false, p_sw, Int.reduceAdd, Int.zero_add, Option.some.injEq, Value.int.injEq, Value.long.injEq, Value.ref.injEq, exists_eq_left', mk_I, mk_L, mk_wI, mk_wL, rf_s, rf_n, true_and, and_true, and_self, or_true, true_or, or_false, false_or, not_true_eq_false, not_false_eq_true, Option.toList_some, Option.toList_none, List.cons_append, List.nil_append, List.map_nil, List.map_cons, List.sum_nil, List.sum_cons, cat_i, cat_l, cat_r, cat_n, Nat.reduceLeDiff, Nat.reduceAdd, Nat.reduceEqDiff, Nat.zero_le, p_ent, p_u_ne, p_u_at, reduceIte, if_true, if_false, P_ce s72, P_ce s3, P_ce s77]
        show P_m _ _ _ _ (fun v h' => v = some (.int (nI 1)) ∧ _)
        generalize emW J3 (D ++ q.2.2.2 ++ s.2.2.2).length (cmpOp (tC B T q.1)) 0 = J4 at *
        simp -implicitDefEqProofs (disch := first | omega | decide) only [P_m, ↓P_run_eq _ 63 _ (p_bk 63 0), bk_63_0, pb_63_0, pw_aload_n0, pw_aloadN_n0, pw_iload_n1, pw_iv2, pw_zne, pw_iconst, il_0, pw_ret1, kd_35, rf_35_0, rf_35_1, n_0, n_1, nn_lt, nn_nlt, nn_le, nn_nle, nn_ne, nn_sub, nn_mul, nI_add, nn_neg, nm_eq, mn_eq, mm_eq, mn_lt, nm_lt, mn_le, nm_le, nn_sub0, nn_of, implies_true, nn_c, nn_in, nn_div, nat_rem, Nat.reduceMul, Nat.reduceSub, Nat.reduceDiv, Nat.reduceMod, pf_at, pf_ne, mk_s, mk_1, Classical.not_not, b2i_T, b2i_F, false_imp_iff, true_imp_iff, false_and, and_false, p_sw, Int.reduceAdd, Int.zero_add, Option.some.injEq, Value.int.injEq, Value.long.injEq, Value.ref.injEq, exists_eq_left', mk_I, mk_L, mk_wI, mk_wL, rf_s, rf_n, true_and, and_true, and_self, or_true, true_or, or_false, false_or, not_true_eq_false, not_false_eq_true, Option.toList_some, Option.toList_none, List.cons_append, List.nil_append, List.map_nil, List.map_cons, List.sum_nil, List.sum_cons, cat_i, cat_l, cat_r, cat_n, Nat.reduceLeDiff, Nat.reduceAdd, Nat.reduceEqDiff, Nat.zero_le, p_ent, p_u_ne, p_u_at, reduceIte, if_true, if_false, P_ce s1]
        exact nx
theorem pl_62 {x d k l c : Nat} {g : tDB} {D : tCd} {I : Nat → Nat → Int32} {r : Except Nat (Nat × Nat × tDB × tCd)} (hN : ∀ k, N ≤ k → tC B T k = 0) (h4 : N ≤ 400) (d8 : d ≤ 8) (hk : k < N) (H : rdB o B T I R) (hS : rdS B T I k l D) (hc : c = D.length) (hT : okTest o B T Ls L R X (k + 1)) (hr : R62 o (tC B T) (tV B T) d k l c g = some r) : ∃ J, (frS I J ∧ ocS B T J D r) ∧ P_m (x + 5 * (8 - d) + 12) 62 [.ref 35, .int (nI d)] (p_mk Ls I L R X) (fun v h' => v = some (.int (nI (ocV r))) ∧ h' = p_mk Ls J L R X) := by
  unfold R62 at hr
  by_cases c8 : 8 ≤ d
  · rw [if_pos c8] at hr
    cases hr
    refine ⟨I, ⟨frS_rf, hS.1⟩, ?_⟩
    show P_m _ _ _ _ (fun v h' => v = some (.int (nI 0)) ∧ _)
    simp -implicitDefEqProofs (disch := first | omega | decide) only [P_m, ↓P_run_eq _ 62 _ (p_bk 62 0), bk_62_0, pb_62_0, pw_iload_n1, pw_bipush, bl_8, pw_clt, pw_iconst, il_0, pw_ret1, kd_35, rf_35_0, rf_35_1, n_0, n_1, n_8, nn_lt, nn_nlt, nn_le, nn_nle, nn_ne, nn_sub, nn_mul, nI_add, nn_neg, nm_eq, mn_eq, mm_eq, mn_lt, nm_lt, mn_le, nm_le, nn_sub0, nn_of, implies_true, nn_c, nn_in, nn_div, nat_rem, Nat.reduceMul, Nat.reduceSub, Nat.reduceDiv, Nat.reduceMod, pf_at, pf_ne, mk_s, mk_1, Classical.not_not, b2i_T, b2i_F, false_imp_iff, true_imp_iff, false_and, and_false, p_sw, Int.reduceAdd, Int.zero_add, Option.some.injEq, Value.int.injEq, Value.long.injEq, Value.ref.injEq, exists_eq_left', mk_I, mk_L, mk_wI, mk_wL, rf_s, rf_n, true_and, and_true, and_self, or_true, true_or, or_false, false_or, not_true_eq_false, not_false_eq_true, Option.toList_some, Option.toList_none, List.cons_append, List.nil_append, List.map_nil, List.map_cons, List.sum_nil, List.sum_cons, cat_i, cat_l, cat_r, cat_n, Nat.reduceLeDiff, Nat.reduceAdd, Nat.reduceEqDiff, Nat.zero_le, p_ent, p_u_ne, p_u_at, reduceIte, if_true, if_false]
  · rw [if_neg c8] at hr
    have s72 := pl_step (d := x + 5 * (8 - d) + 11) (Ls := Ls) (L := L) (X := X) H.2.1 hS.1
    have f1 : frS I (stp B T I (k + 1)) := frS_stp
    have H1 := rdB_fr H f1
    have hS1 := rdS_stp hS
    obtain ⟨q, hq⟩ := RB_t (o := o) (V := tV B T) (md := 1) (d := d + 1) (l := l) (c := c) (p := false) (g := g) (cs := []) hN h4 (show k + 1 ≤ N by omega) (by omega)
    obtain ⟨J2, ⟨f2, o2⟩, s60⟩ := hT (x + 2) (d + 1) l c false g [] D _ q (by omega) H1 hS1 hc hq
    rw [show x + 2 + 5 * (8 - (d + 1)) + 14 = x + 5 * (8 - d) + 11 by omega] at s60
    rw [hq] at hr
    generalize stp B T I (k + 1) = I1 at *
    match q, hq, o2, s60, hr with
    | .error e, hq, o2, s60, hr =>
      cases hr
      refine ⟨J2, ⟨frS_tr f1 f2, o2⟩, ?_⟩
      show P_m _ _ _ _ (fun v h' => v = some (.int (nI 0)) ∧ _)
      replace s60 : P_m (x + 5 * (8 - d) + 11) 60 [.ref 35, .int (nI (d + 1))] (p_mk Ls I1 L R X) (fun v h' => v = some (.int (nI 0)) ∧ h' = p_mk Ls J2 L R X) := s60
      simp -implicitDefEqProofs (disch := first | omega | decide) only [P_m, ↓P_run_eq _ 62 _ (p_bk 62 0), bk_62_0, pb_62_0, ↓P_run_eq _ 62 _ (p_bk 62 1), bk_62_1, pb_62_1, ↓P_run_eq _ 62 _ (p_bk 62 2), bk_62_2, pb_62_2, ↓P_run_eq _ 62 _ (p_bk 62 3), bk_62_3, pb_62_3, pw_iload_n1, pw_bipush, bl_8, pw_clt, pw_iconst, il_0, pw_ret1, pw_aload_n0, pw_aloadN_n0, pw_iv1, il_1, pw_iadd, pw_iv2, pw_zeq, bl_41, pw_goto, pw_nop, kd_35, rf_35_0, rf_35_1, n_0, n_1, n_8, n_41, nn_lt, nn_nlt, nn_le, nn_nle, nn_ne, nn_sub, nn_mul, nI_add, nn_neg, nm_eq, mn_eq, mm_eq, mn_lt, nm_lt, mn_le, nm_le, nn_sub0, nn_of, implies_true, nn_c, nn_in, nn_div, nat_rem, Nat.reduceMul, Nat.reduceSub, Nat.reduceDiv, Nat.reduceMod, pf_at, pf_ne, mk_s, mk_1, Classical.not_not, b2i_T, b2i_F, false_imp_iff, true_imp_iff, false_and, and_false, p_sw, Int.reduceAdd, Int.zero_add, Option.some.injEq, Value.int.injEq, Value.long.injEq, Value.ref.injEq, exists_eq_left', mk_I, mk_L, mk_wI, mk_wL, rf_s, rf_n, true_and, and_true, and_self, or_true, true_or, or_false, false_or, not_true_eq_false, not_false_eq_true, Option.toList_some, Option.toList_none, List.cons_append, List.nil_append, List.map_nil, List.map_cons, List.sum_nil, List.sum_cons, cat_i, cat_l, cat_r, cat_n, Nat.reduceLeDiff, Nat.reduceAdd, Nat.reduceEqDiff, Nat.zero_le, p_ent, p_u_ne, p_u_at, reduceIte, if_true, if_false, P_ce s72, P_ce s60]
    | .ok q, hq, o2, s60, hr =>
      have o2 : rdS B T J2 q.1 q.2.1 (D ++ q.2.2.2) := o2
      replace s60 : P_m (x + 5 * (8 - d) + 11) 60 [.ref 35, .int (nI (d + 1))] (p_mk Ls I1 L R X) (fun v h' => v = some (.int (nI 1)) ∧ h' = p_mk Ls J2 L R X) := s60
      have H2 := rdB_fr H1 f2
      have s69 := pl_69 (d := x + 5 * (8 - d) + 10) (Ls := Ls) (L := L) (X := X) (c := 41) H2.2.1 o2.1 (by omega) sg3.2.2.2.2.1 sg3.2.2.2.2.2
      rw [bnd_ok] at hr
      by_cases c3 : tC B T q.1 = 141
      · rw [if_pos c3] at hr
        rw [decide_eq_true (show tC B T q.1 = 100 + 41 from c3), bN_t, if_pos (show tC B T q.1 = 100 + 41 from c3)] at s69
        cases hr
        refine ⟨stp B T J2 (q.1 + 1), ⟨frS_tr f1 (frS_tr f2 frS_stp), rdS_stp o2⟩, ?_⟩
        show P_m _ _ _ _ (fun v h' => v = some (.int (nI 1)) ∧ _)
        generalize stp B T J2 (q.1 + 1) = J3 at *
        simp -implicitDefEqProofs (disch := first | omega | decide) only [P_m, ↓P_run_eq _ 62 _ (p_bk 62 0), bk_62_0, pb_62_0, ↓P_run_eq _ 62 _ (p_bk 62 1), bk_62_1, pb_62_1, ↓P_run_eq _ 62 _ (p_bk 62 3), bk_62_3, pb_62_3, pw_iload_n1, pw_bipush, bl_8, pw_clt, pw_iconst, il_0, pw_ret1, pw_aload_n0, pw_aloadN_n0, pw_iv1, il_1, pw_iadd, pw_iv2, pw_zeq, bl_41, pw_goto, kd_35, rf_35_0, rf_35_1, n_0, n_1, n_8, n_41, nn_lt, nn_nlt, nn_le, nn_nle, nn_ne, nn_sub, nn_mul, nI_add, nn_neg, nm_eq, mn_eq, mm_eq, mn_lt, nm_lt, mn_le, nm_le, nn_sub0, nn_of, implies_true, nn_c, nn_in, nn_div, nat_rem, Nat.reduceMul, Nat.reduceSub, Nat.reduceDiv, Nat.reduceMod, pf_at, pf_ne, mk_s, mk_1, Classical.not_not, b2i_T, b2i_F, false_imp_iff, true_imp_iff, false_and, and_false, p_sw, Int.reduceAdd, Int.zero_add, Option.some.injEq, Value.int.injEq, Value.long.injEq, Value.ref.injEq, exists_eq_left', mk_I, mk_L, mk_wI, mk_wL, rf_s, rf_n, true_and, and_true, and_self, or_true, true_or, or_false, false_or, not_true_eq_false, not_false_eq_true, Option.toList_some, Option.toList_none, List.cons_append, List.nil_append, List.map_nil, List.map_cons, List.sum_nil, List.sum_cons, cat_i, cat_l, cat_r, cat_n, Nat.reduceLeDiff, Nat.reduceAdd, Nat.reduceEqDiff, Nat.zero_le, p_ent, p_u_ne, p_u_at, reduceIte, if_true, if_false, P_ce s72, P_ce s60, P_ce s69]
      · rw [if_neg c3] at hr
        rw [decide_eq_false (show ¬ tC B T q.1 = 100 + 41 from c3), bN_f, if_neg (show ¬ tC B T q.1 = 100 + 41 from c3)] at s69
        cases hr
        refine ⟨J2, ⟨frS_tr f1 f2, o2.1⟩, ?_⟩
        show P_m _ _ _ _ (fun v h' => v = some (.int (nI 0)) ∧ _)
        simp -implicitDefEqProofs (disch := first | omega | decide) only [P_m, ↓P_run_eq _ 62 _ (p_bk 62 0), bk_62_0, pb_62_0, ↓P_run_eq _ 62 _ (p_bk 62 1), bk_62_1, pb_62_1, ↓P_run_eq _ 62 _ (p_bk 62 2), bk_62_2, pb_62_2, ↓P_run_eq _ 62 _ (p_bk 62 3), bk_62_3, pb_62_3, pw_iload_n1, pw_bipush, bl_8, pw_clt, pw_iconst, il_0, pw_ret1, pw_aload_n0, pw_aloadN_n0, pw_iv1, il_1, pw_iadd, pw_iv2, pw_zeq, bl_41, pw_goto, pw_nop, kd_35, rf_35_0, rf_35_1, n_0, n_1, n_8, n_41, nn_lt, nn_nlt, nn_le, nn_nle, nn_ne, nn_sub, nn_mul, nI_add, nn_neg, nm_eq, mn_eq, mm_eq, mn_lt, nm_lt, mn_le, nm_le, nn_sub0, nn_of, implies_true, nn_c, nn_in, nn_div, nat_rem, Nat.reduceMul, Nat.reduceSub, Nat.reduceDiv, Nat.reduceMod, pf_at, pf_ne, mk_s, mk_1, Classical.not_not, b2i_T, b2i_F, false_imp_iff, true_imp_iff, false_and, and_false, p_sw, Int.reduceAdd, Int.zero_add, Option.some.injEq, Value.int.injEq, Value.long.injEq, Value.ref.injEq, exists_eq_left', mk_I, mk_L, mk_wI, mk_wL, rf_s, rf_n, true_and, and_true, and_self, or_true, true_or, or_false, false_or, not_true_eq_false, not_false_eq_true, Option.toList_some, Option.toList_none, List.cons_append, List.nil_append, List.map_nil, List.map_cons, List.sum_nil, List.sum_cons, cat_i, cat_l, cat_r, cat_n, Nat.reduceLeDiff, Nat.reduceAdd, Nat.reduceEqDiff, Nat.zero_le, p_ent, p_u_ne, p_u_at, reduceIte, if_true, if_false, P_ce s72, P_ce s60, P_ce s69]
end TF
