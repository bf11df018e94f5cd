/-! THE CLASS READS SUMS -/
section SU
variable (o : Bool) (B : Nat → Nat) (T Ls : Nat) (L : Nat → Nat → Int64) (R : Nat → Nat → Option Nat) (X : List pKd)
def okPart (k : Nat) : Prop := ∀ x d l f D I r, d ≤ 8 → rdB o B T I R → rdS B T I k l D → RS o (tC B T) (tV B T) 0 d k l f [] = some r → ∃ J, (frS I J ∧ ocS B T J D r) ∧ P_m (x + 2 * (8 - d) + 10) 65 [.ref 35, .int (nI d)] (p_mk Ls I L R X) (fun v h' => v = some (.int (nI (ocV r))) ∧ h' = p_mk Ls J L R X)
def okSum (k : Nat) : Prop := ∀ x d l f cs D I r, d ≤ 8 → rdB o B T I R → rdS B T I k l D → RS o (tC B T) (tV B T) 1 d k l f cs = some r → ∃ J, (frS I J ∧ ocS B T J D r) ∧ P_m (x + 2 * (8 - d) + 11) 64 [.ref 35, .int (nI d)] (p_mk Ls I L R X) (fun v h' => v = some (.int (nI (ocV r))) ∧ h' = p_mk Ls J L R X)
end SU
section SV
variable {o : Bool} {B : Nat → Nat} {T Ls N : Nat} {L : Nat → Nat → Int64} {R : Nat → Nat → Option Nat} {X : List pKd}
theorem part_s {k : Nat} (hN : ∀ k, N ≤ k → tC B T k = 0) (h4 : N ≤ 400) (hS : k < N → okSum o B T Ls L R X (k + 1)) : okPart o B T Ls L R X k := by
  intro x d l f D I r d8 H hr hR
  rw [RS_0 hN h4] at hR
  by_cases c : tC B T k = 191
  · have kN := kN_of hN (show ¬ tC B T k = 0 by omega)
    rw [if_pos c] at hR
    have s68 := pl_68 (d := x + 2 * (8 - d) + 9) (Ls := Ls) (L := L) (X := X) (c := 91) H.2.1 hr.1 (by omega) sg_ok.1 sg_ok.2.1
    rw [decide_eq_true (show tC B T k = 100 + 91 from c), bN_t] at s68
    by_cases c8 : 8 ≤ d
    · rw [if_pos c8] at hR
      cases hR
      refine ⟨I, ⟨frS_rf, hr.1⟩, ?_⟩
      show P_m _ _ _ _ (fun v h' => v = some (.int (nI 0)) ∧ _)
      simp -implicitDefEqProofs (disch := first | omega | decide) only [P_m, ↓P_run_eq _ 65 _ (p_bk 65 0), bk_65_0, pb_65_0, pw_aload_n0, pw_aloadN_n0, pw_bipush, bl_91, pw_iv2, pw_zeq, pw_iload_n1, bl_8, pw_clt, pw_iconst, il_0, pw_ret1, kd_35, rf_35_0, rf_35_1, n_0, n_1, n_8, n_91, nn_lt, nn_nlt, nn_le, nn_nle, nn_ne, nn_sub, nn_mul, nI_add, nn_neg, nm_eq, mn_eq, mm_eq, mn_lt, nm_lt, mn_le, nm_le, nn_sub0, nn_of, implies_true, nn_c, nn_in, nn_div, nat_rem, Nat.reduceMul, Nat.reduceSub, Nat.reduceDiv, Nat.reduceMod, pf_at, pf_ne, mk_s, mk_1, Classical.not_not, b2i_T, b2i_F, false_imp_iff, true_imp_iff, false_and, and_false, p_sw, Int.reduceAdd, Int.zero_add, Option.some.injEq, Value.int.injEq, Value.long.injEq, Value.ref.injEq, exists_eq_left', mk_I, mk_L, mk_wI, mk_wL, rf_s, rf_n, true_and, and_true, and_self, or_true, true_or, or_false, false_or, not_true_eq_false, not_false_eq_true, Option.toList_some, Option.toList_none, List.cons_append, List.nil_append, List.map_nil, List.map_cons, List.sum_nil, List.sum_cons, cat_i, cat_l, cat_r, cat_n, Nat.reduceLeDiff, Nat.reduceAdd, Nat.reduceEqDiff, Nat.zero_le, p_ent, p_u_ne, p_u_at, reduceIte, if_true, if_false, P_ce s68]
    · rw [if_neg c8] at hR
      have s72 := pl_step (d := x + 2 * (8 - d) + 9) (Ls := Ls) (L := L) (X := X) H.2.1 hr.1
      have hr1 := rdS_stp hr
      have f1 : frS I (stp B T I (k + 1)) := frS_stp
      have H1 := rdB_fr H f1
      generalize stp B T I (k + 1) = I1 at *
      obtain ⟨q, hq⟩ := RS_t (o := o) (V := tV B T) (md := 1) (d := d + 1) (l := l) (f := f) (cs := []) hN h4 (show k + 1 ≤ N by omega) (by omega)
      obtain ⟨J, ⟨f2, o2⟩, s64⟩ := hS kN x (d + 1) l f [] D I1 q (by omega) H1 hr1 hq
      rw [show x + 2 * (8 - (d + 1)) + 11 = x + 2 * (8 - d) + 9 by omega] at s64
      rw [hq] at hR
      match q, hq, o2, s64, hR with
      | .error e, hq, o2, s64, hR =>
        cases hR
        refine ⟨J, ⟨frS_tr f1 f2, o2⟩, ?_⟩
        show P_m _ _ _ _ (fun v h' => v = some (.int (nI 0)) ∧ _)
        replace s64 : P_m (x + 2 * (8 - d) + 9) 64 [.ref 35, .int (nI (d + 1))] (p_mk Ls I1 L R X) (fun v h' => v = some (.int (nI 0)) ∧ h' = p_mk Ls J L R X) := s64
        simp -implicitDefEqProofs (disch := first | omega | decide) only [P_m, ↓P_run_eq _ 65 _ (p_bk 65 0), bk_65_0, pb_65_0, ↓P_run_eq _ 65 _ (p_bk 65 1), bk_65_1, pb_65_1, ↓P_run_eq _ 65 _ (p_bk 65 2), bk_65_2, pb_65_2, ↓P_run_eq _ 65 _ (p_bk 65 3), bk_65_3, pb_65_3, pw_aload_n0, pw_aloadN_n0, pw_bipush, bl_91, pw_iv2, pw_zeq, pw_iload_n1, bl_8, pw_clt, pw_iconst, il_0, pw_ret1, pw_iv1, il_1, pw_iadd, bl_93, pw_goto, pw_nop, kd_35, rf_35_0, rf_35_1, n_0, n_1, n_8, n_91, n_93, nn_lt, nn_nlt, nn_le, nn_nle, nn_ne, nn_sub, nn_mul, nI_add, nn_neg, nm_eq, mn_eq, mm_eq, mn_lt, nm_lt, mn_le, nm_le, nn_sub0, nn_of, implies_true, nn_c, nn_in, nn_div, nat_rem, Nat.reduceMul, Nat.reduceSub, Nat.reduceDiv, Nat.reduceMod, pf_at, pf_ne, mk_s, mk_1, Classical.not_not, b2i_T, b2i_F, false_imp_iff, true_imp_iff, false_and, and_false, p_sw, Int.reduceAdd, Int.zero_add, Option.some.injEq, Value.int.injEq, Value.long.injEq, Value.ref.injEq, exists_eq_left', mk_I, mk_L, mk_wI, mk_wL, rf_s, rf_n, true_and, and_true, and_self, or_true, true_or, or_false, false_or, not_true_eq_false, not_false_eq_true, Option.toList_some, Option.toList_none, List.cons_append, List.nil_append, List.map_nil, List.map_cons, List.sum_nil, List.sum_cons, cat_i, cat_l, cat_r, cat_n, Nat.reduceLeDiff, Nat.reduceAdd, Nat.reduceEqDiff, Nat.zero_le, p_ent, p_u_ne, p_u_at, reduceIte, if_true, if_false, P_ce s68, P_ce s72, P_ce s64]
      | .ok q, hq, o2, s64, hR =>
        have o2 : rdS B T J q.1 q.2.1 (D ++ q.2.2.2) := o2
        have H2 := rdB_fr H1 f2
        have s69 := pl_69 (d := x + 2 * (8 - d) + 8) (Ls := Ls) (L := L) (X := X) (c := 93) H2.2.1 o2.1 (by omega) sg_ok.2.2.1 sg_ok.2.2.2
        replace s64 : P_m (x + 2 * (8 - d) + 9) 64 [.ref 35, .int (nI (d + 1))] (p_mk Ls I1 L R X) (fun v h' => v = some (.int (nI 1)) ∧ h' = p_mk Ls J L R X) := s64
        rw [bnd_ok] at hR
        by_cases c3 : tC B T q.1 = 193
        · rw [if_pos c3] at hR
          rw [decide_eq_true (show tC B T q.1 = 100 + 93 from c3), bN_t, if_pos (show tC B T q.1 = 100 + 93 from c3)] at s69
          cases hR
          refine ⟨stp B T J (q.1 + 1), ⟨frS_tr f1 (frS_tr f2 frS_stp), rdS_stp o2⟩, ?_⟩
          show P_m _ _ _ _ (fun v h' => v = some (.int (nI 1)) ∧ _)
          generalize stp B T J (q.1 + 1) = J3 at *
          simp -implicitDefEqProofs (disch := first | omega | decide) only [P_m, ↓P_run_eq _ 65 _ (p_bk 65 0), bk_65_0, pb_65_0, ↓P_run_eq _ 65 _ (p_bk 65 1), bk_65_1, pb_65_1, ↓P_run_eq _ 65 _ (p_bk 65 3), bk_65_3, pb_65_3, pw_aload_n0, pw_aloadN_n0, pw_bipush, bl_91, pw_iv2, pw_zeq, pw_iload_n1, bl_8, pw_clt, pw_iconst, il_0, pw_ret1, pw_iv1, il_1, pw_iadd, bl_93, pw_goto, kd_35, rf_35_0, rf_35_1, n_0, n_1, n_8, n_91, n_93, nn_lt, nn_nlt, nn_le, nn_nle, nn_ne, nn_sub, nn_mul, nI_add, nn_neg, nm_eq, mn_eq, mm_eq, mn_lt, nm_lt, mn_le, nm_le, nn_sub0, nn_of, implies_true, nn_c, nn_in, nn_div, nat_rem, Nat.reduceMul, Nat.reduceSub, Nat.reduceDiv, Nat.reduceMod, pf_at, pf_ne, mk_s, mk_1, Classical.not_not, b2i_T, b2i_F, false_imp_iff, true_imp_iff, false_and, and_false, p_sw, Int.reduceAdd, Int.zero_add, Option.some.injEq, Value.int.injEq, Value.long.injEq, Value.ref.injEq, exists_eq_left', mk_I, mk_L, mk_wI, mk_wL, rf_s, rf_n, true_and, and_true, and_self, or_true, true_or, or_false, false_or, not_true_eq_false, not_false_eq_true, Option.toList_some, Option.toList_none, List.cons_append, List.nil_append, List.map_nil, List.map_cons, List.sum_nil, List.sum_cons, cat_i, cat_l, cat_r, cat_n, Nat.reduceLeDiff, Nat.reduceAdd, Nat.reduceEqDiff, Nat.zero_le, p_ent, p_u_ne, p_u_at, reduceIte, if_true, if_false, P_ce s68, P_ce s72, P_ce s64, P_ce s69]
        · rw [if_neg c3] at hR
          rw [decide_eq_false (show ¬ tC B T q.1 = 100 + 93 from c3), bN_f, if_neg (show ¬ tC B T q.1 = 100 + 93 from c3)] at s69
          cases hR
          refine ⟨J, ⟨frS_tr f1 f2, o2.1⟩, ?_⟩
          show P_m _ _ _ _ (fun v h' => v = some (.int (nI 0)) ∧ _)
          simp -implicitDefEqProofs (disch := first | omega | decide) only [P_m, ↓P_run_eq _ 65 _ (p_bk 65 0), bk_65_0, pb_65_0, ↓P_run_eq _ 65 _ (p_bk 65 1), bk_65_1, pb_65_1, ↓P_run_eq _ 65 _ (p_bk 65 2), bk_65_2, pb_65_2, ↓P_run_eq _ 65 _ (p_bk 65 3), bk_65_3, pb_65_3, pw_aload_n0, pw_aloadN_n0, pw_bipush, bl_91, pw_iv2, pw_zeq, pw_iload_n1, bl_8, pw_clt, pw_iconst, il_0, pw_ret1, pw_iv1, il_1, pw_iadd, bl_93, pw_goto, pw_nop, kd_35, rf_35_0, rf_35_1, n_0, n_1, n_8, n_91, n_93, nn_lt, nn_nlt, nn_le, nn_nle, nn_ne, nn_sub, nn_mul, nI_add, nn_neg, nm_eq, mn_eq, mm_eq, mn_lt, nm_lt, mn_le, nm_le, nn_sub0, nn_of, implies_true, nn_c, nn_in, nn_div, nat_rem, Nat.reduceMul, Nat.reduceSub, Nat.reduceDiv, Nat.reduceMod, pf_at, pf_ne, mk_s, mk_1, Classical.not_not, b2i_T, b2i_F, false_imp_iff, true_imp_iff, false_and, and_false, p_sw, Int.reduceAdd, Int.zero_add, Option.some.injEq, Value.int.injEq, Value.long.injEq, Value.ref.injEq, exists_eq_left', mk_I, mk_L, mk_wI, mk_wL, rf_s, rf_n, true_and, and_true, and_self, or_true, true_or, or_false, false_or, not_true_eq_false, not_false_eq_true, Option.toList_some, Option.toList_none, List.cons_append, List.nil_append, List.map_nil, List.map_cons, List.sum_nil, List.sum_cons, cat_i, cat_l, cat_r, cat_n, Nat.reduceLeDiff, Nat.reduceAdd, Nat.reduceEqDiff, Nat.zero_le, p_ent, p_u_ne, p_u_at, reduceIte, if_true, if_false, P_ce s68, P_ce s72, P_ce s64, P_ce s69]
  · rw [if_neg c] at hR
    have := pl_leaf (d := x + 2 * (8 - d) + 3) (Ls := Ls) (L := L) (X := X) (dd := d) H hr hN h4 c hR
    exact this
def pz (a : Nat) : Int32 := if a = 0 then mI 1 else nI a
theorem pz_0 : pz 0 = mI 1 := rfl
theorem pz_n {a : Nat} (h : ¬ a = 0) : pz a = nI a := if_neg h
def pa (a : Nat) (cs : tCd) : tCd := if a = 0 then [] else cs
def K2 (o : Bool) (C V : Nat → Nat) (m : Nat) (f2 : tDS) (cs2 : tCd) (d : Nat) (r : Nat × Nat × tDS × tCd) : tRS := if m = 0 then RS o C V 2 d r.1 r.2.1 r.2.2.1 r.2.2.2 else RS o C V 2 d r.1 r.2.1 (opS m f2 r.2.2.1) (cs2 ++ (r.2.2.2 ++ [(m, 0)]))
def K3 (o : Bool) (C V : Nat → Nat) (a : Nat) (f3 : tDS) (cs3 : tCd) (d : Nat) (r : Nat × Nat × tDS × tCd) : tRS := if a = 0 then RS o C V 3 d r.1 r.2.1 r.2.2.1 r.2.2.2 else RS o C V 3 d r.1 r.2.1 (opS a f3 r.2.2.1) (cs3 ++ (r.2.2.2 ++ [(a, 0)]))
def LPr (o : Bool) (C V : Nat → Nat) (a : Nat) (f3 : tDS) (cs3 : tCd) (m : Nat) (f2 : tDS) (cs2 : tCd) (f : tDS) (d k l : Nat) : tRS := bnd (RS o C V 0 d k l f []) fun r => bnd (K2 o C V m f2 cs2 d r) fun r => K3 o C V a f3 cs3 d r
theorem bnd_as {α β γ : Type} {x : Option (Except Nat α)} {g : α → Option (Except Nat β)} {h : β → Option (Except Nat γ)} : bnd (bnd x g) h = bnd x (fun a => bnd (g a) h) := by
  match x with
  | none => rfl
  | some (.error e) => rfl
  | some (.ok a) => rfl
theorem mul_c (c : Nat) (_ : c < 356) : (mulOp c = 0 ∨ mulOp c = 7 ∨ mulOp c = 8 ∨ mulOp c = 9) ∧ (c = 142 → mulOp c = 7) ∧ (c = 147 → mulOp c = 8) ∧ (c = 137 → mulOp c = 9) ∧ (¬ c = 142 → ¬ c = 147 → ¬ c = 137 → mulOp c = 0) ∧ (addOp c = 0 ∨ addOp c = 5 ∨ addOp c = 6) ∧ (c = 143 → addOp c = 5) ∧ (c = 145 → addOp c = 6) ∧ (¬ c = 143 → ¬ c = 145 → addOp c = 0) := by
  refine ⟨?_, fun h => by subst h; rfl, fun h => by subst h; rfl, fun h => by subst h; rfl, fun h1 h2 h3 => ?_, ?_, fun h => by subst h; rfl, fun h => by subst h; rfl, fun h1 h2 => ?_⟩
  · unfold mulOp; (repeat' split) <;> omega
  · unfold mulOp; rw [if_neg h1, if_neg h2, if_neg h3]
  · unfold addOp; (repeat' split) <;> omega
  · unfold addOp; rw [if_neg h1, if_neg h2]
theorem sg2 : (isSm 42 = false ∧ isDg 42 = false) ∧ (isSm 47 = false ∧ isDg 47 = false) ∧ (isSm 37 = false ∧ isDg 37 = false) ∧ (isSm 43 = false ∧ isDg 43 = false) ∧ isSm 45 = false ∧ isDg 45 = false := by decide
/-- the multiplying sign, by the tests in a row -/
theorem bl_mul {D k a d m n : Nat} {I : Nat → Nat → Int32} {Q : Option Value → pHp → Prop} (h0 : cT0 B T I R) (hk : cTk B T I k) (nx : P_run (D + 1) 64 (p_bk 64 7) 0 0 [.ref 35, .int (nI d), .int (pz a), .int (pz m), .int (nI n)] [.int (pz (mulOp (tC B T k)))] (p_mk Ls I L R X) Q) : P_run (D + 1) 64 (p_bk 64 3) 0 0 [.ref 35, .int (nI d), .int (pz a), .int (pz m), .int (nI n)] [] (p_mk Ls I L R X) Q := by
  have cl : tC B T k < 356 := by
    have := tC_le (B := B) (T := T) (i := k) (fun j hj => (h0.2.2.2 j hj).2)
    omega
  obtain ⟨-, m1, m2, m3, m4, -⟩ := mul_c _ cl
  have s1 := pl_68 (d := D) (Ls := Ls) (L := L) (X := X) (c := 42) h0 hk (by omega) sg2.1.1 sg2.1.2
  have s2 := pl_68 (d := D) (Ls := Ls) (L := L) (X := X) (c := 47) h0 hk (by omega) sg2.2.1.1 sg2.2.1.2
  have s3 := pl_68 (d := D) (Ls := Ls) (L := L) (X := X) (c := 37) h0 hk (by omega) sg2.2.2.1.1 sg2.2.2.1.2
  by_cases c1 : tC B T k = 142
  · rw [m1 c1, pz_n (a := 7) (by omega)] at nx
    rw [decide_eq_true (show tC B T k = 100 + 42 from c1), bN_t] at s1
    generalize pz a = A at *
    generalize pz m = M at *
    rw [P_run_eq, bk_64_3, pb_64_3]; simp -implicitDefEqProofs (disch := first | omega | decide) only [P_m, pw_aload_n0, pw_aloadN_n0, pw_bipush, bl_42, pw_iv2, pw_zeq, bl_7, pw_goto, kd_35, rf_35_0, rf_35_1, n_0, n_1, n_7, n_42, nn_lt, nn_nlt, nn_le, nn_nle, nn_ne, nn_sub, nn_mul, nI_add, nn_neg, nm_eq, mn_eq, mm_eq, mn_lt, nm_lt, mn_le, nm_le, nn_sub0, nn_of, implies_true, nn_c, nn_in, nn_div, nat_rem, Nat.reduceMul, Nat.reduceSub, Nat.reduceDiv, Nat.reduceMod, pf_at, pf_ne, mk_s, mk_1, Classical.not_not, b2i_T, b2i_F, false_imp_iff, true_imp_iff, false_and, and_false, p_sw, Int.reduceAdd, Int.zero_add, Option.some.injEq, Value.int.injEq, Value.long.injEq, Value.ref.injEq, exists_eq_left', mk_I, mk_L, mk_wI, mk_wL, rf_s, rf_n, true_and, and_true, and_self, or_true, true_or, or_false, false_or, not_true_eq_false, not_false_eq_true, Option.toList_some, Option.toList_none, List.cons_append, List.nil_append, List.map_nil, List.map_cons, List.sum_nil, List.sum_cons, cat_i, cat_l, cat_r, cat_n, Nat.reduceLeDiff, Nat.reduceAdd, Nat.reduceEqDiff, Nat.zero_le, p_ent, p_u_ne, p_u_at, reduceIte, if_true, if_false, P_ce s1]
    exact nx
  · rw [decide_eq_false (show ¬ tC B T k = 100 + 42 from c1), bN_f] at s1
    by_cases c2 : tC B T k = 147
    · rw [m2 c2, pz_n (a := 8) (by omega)] at nx
      rw [decide_eq_true (show tC B T k = 100 + 47 from c2), bN_t] at s2
      generalize pz a = A at *
      generalize pz m = M at *
      rw [P_run_eq, bk_64_3, pb_64_3]; simp -implicitDefEqProofs (disch := first | omega | decide) only [P_m, ↓P_run_eq _ 64 _ (p_bk 64 4), bk_64_4, pb_64_4, pw_aload_n0, pw_aloadN_n0, pw_bipush, bl_42, pw_iv2, pw_zeq, bl_7, pw_goto, bl_47, bl_8, kd_35, rf_35_0, rf_35_1, n_0, n_1, n_7, n_8, n_42, n_47, nn_lt, nn_nlt, nn_le, nn_nle, nn_ne, nn_sub, nn_mul, nI_add, nn_neg, nm_eq, mn_eq, mm_eq, mn_lt, nm_lt, mn_le, nm_le, nn_sub0, nn_of, implies_true, nn_c, nn_in, nn_div, nat_rem, Nat.reduceMul, Nat.reduceSub, Nat.reduceDiv, Nat.reduceMod, pf_at, pf_ne, mk_s, mk_1, Classical.not_not, b2i_T, b2i_F, false_imp_iff, true_imp_iff, false_and, and_false, p_sw, Int.reduceAdd, Int.zero_add, Option.some.injEq, Value.int.injEq, Value.long.injEq, Value.ref.injEq, exists_eq_left', mk_I, mk_L, mk_wI, mk_wL, rf_s, rf_n, true_and, and_true, and_self, or_true, true_or, or_false, false_or, not_true_eq_false, not_false_eq_true, Option.toList_some, Option.toList_none, List.cons_append, List.nil_append, List.map_nil, List.map_cons, List.sum_nil, List.sum_cons, cat_i, cat_l, cat_r, cat_n, Nat.reduceLeDiff, Nat.reduceAdd, Nat.reduceEqDiff, Nat.zero_le, p_ent, p_u_ne, p_u_at, reduceIte, if_true, if_false, P_ce s1, P_ce s2]
      exact nx
    · rw [decide_eq_false (show ¬ tC B T k = 100 + 47 from c2), bN_f] at s2
      by_cases c3 : tC B T k = 137
      · rw [m3 c3, pz_n (a := 9) (by omega)] at nx
        rw [decide_eq_true (show tC B T k = 100 + 37 from c3), bN_t] at s3
        generalize pz a = A at *
        generalize pz m = M at *
        rw [P_run_eq, bk_64_3, pb_64_3]; simp -implicitDefEqProofs (disch := first | omega | decide) only [P_m, ↓P_run_eq _ 64 _ (p_bk 64 4), bk_64_4, pb_64_4, ↓P_run_eq _ 64 _ (p_bk 64 5), bk_64_5, pb_64_5, pw_aload_n0, pw_aloadN_n0, pw_bipush, bl_42, pw_iv2, pw_zeq, bl_7, pw_goto, bl_47, bl_8, bl_37, bl_9, kd_35, rf_35_0, rf_35_1, n_0, n_1, n_7, n_8, n_9, n_37, n_42, n_47, nn_lt, nn_nlt, nn_le, nn_nle, nn_ne, nn_sub, nn_mul, nI_add, nn_neg, nm_eq, mn_eq, mm_eq, mn_lt, nm_lt, mn_le, nm_le, nn_sub0, nn_of, implies_true, nn_c, nn_in, nn_div, nat_rem, Nat.reduceMul, Nat.reduceSub, Nat.reduceDiv, Nat.reduceMod, pf_at, pf_ne, mk_s, mk_1, Classical.not_not, b2i_T, b2i_F, false_imp_iff, true_imp_iff, false_and, and_false, p_sw, Int.reduceAdd, Int.zero_add, Option.some.injEq, Value.int.injEq, Value.long.injEq, Value.ref.injEq, exists_eq_left', mk_I, mk_L, mk_wI, mk_wL, rf_s, rf_n, true_and, and_true, and_self, or_true, true_or, or_false, false_or, not_true_eq_false, not_false_eq_true, Option.toList_some, Option.toList_none, List.cons_append, List.nil_append, List.map_nil, List.map_cons, List.sum_nil, List.sum_cons, cat_i, cat_l, cat_r, cat_n, Nat.reduceLeDiff, Nat.reduceAdd, Nat.reduceEqDiff, Nat.zero_le, p_ent, p_u_ne, p_u_at, reduceIte, if_true, if_false, P_ce s1, P_ce s2, P_ce s3]
        exact nx
      · rw [m4 c1 c2 c3, pz_0] at nx
        rw [decide_eq_false (show ¬ tC B T k = 100 + 37 from c3), bN_f] at s3
        generalize pz a = A at *
        generalize pz m = M at *
        rw [P_run_eq, bk_64_3, pb_64_3]; simp -implicitDefEqProofs (disch := first | omega | decide) only [P_m, ↓P_run_eq _ 64 _ (p_bk 64 4), bk_64_4, pb_64_4, ↓P_run_eq _ 64 _ (p_bk 64 5), bk_64_5, pb_64_5, ↓P_run_eq _ 64 _ (p_bk 64 6), bk_64_6, pb_64_6, pw_aload_n0, pw_aloadN_n0, pw_bipush, bl_42, pw_iv2, pw_zeq, bl_7, pw_goto, bl_47, bl_8, bl_37, bl_9, pw_iconst, il_m1, pw_nop, kd_35, rf_35_0, rf_35_1, n_0, n_1, n_7, n_8, n_9, n_37, n_42, n_47, nn_lt, nn_nlt, nn_le, nn_nle, nn_ne, nn_sub, nn_mul, nI_add, nn_neg, nm_eq, mn_eq, mm_eq, mn_lt, nm_lt, mn_le, nm_le, nn_sub0, nn_of, implies_true, nn_c, nn_in, nn_div, nat_rem, Nat.reduceMul, Nat.reduceSub, Nat.reduceDiv, Nat.reduceMod, pf_at, pf_ne, mk_s, mk_1, Classical.not_not, b2i_T, b2i_F, false_imp_iff, true_imp_iff, false_and, and_false, p_sw, Int.reduceAdd, Int.zero_add, Option.some.injEq, Value.int.injEq, Value.long.injEq, Value.ref.injEq, exists_eq_left', mk_I, mk_L, mk_wI, mk_wL, rf_s, rf_n, true_and, and_true, and_self, or_true, true_or, or_false, false_or, not_true_eq_false, not_false_eq_true, Option.toList_some, Option.toList_none, List.cons_append, List.nil_append, List.map_nil, List.map_cons, List.sum_nil, List.sum_cons, cat_i, cat_l, cat_r, cat_n, Nat.reduceLeDiff, Nat.reduceAdd, Nat.reduceEqDiff, Nat.zero_le, p_ent, p_u_ne, p_u_at, reduceIte, if_true, if_false, P_ce s1, P_ce s2, P_ce s3]
        exact nx
theorem bl_add {D k a d m n : Nat} {I : Nat → Nat → Int32} {Q : Option Value → pHp → Prop} (h0 : cT0 B T I R) (hk : cTk B T I k) (nx : P_run (D + 1) 64 (p_bk 64 11) 0 0 [.ref 35, .int (nI d), .int (pz a), .int (pz m), .int (nI n)] [.int (pz (addOp (tC B T k)))] (p_mk Ls I L R X) Q) : P_run (D + 1) 64 (p_bk 64 8) 0 0 [.ref 35, .int (nI d), .int (pz a), .int (pz m), .int (nI n)] [] (p_mk Ls I L R X) Q := by
  have cl : tC B T k < 356 := by
    have := tC_le (B := B) (T := T) (i := k) (fun j hj => (h0.2.2.2 j hj).2)
    omega
  obtain ⟨-, -, -, -, -, -, m1, m2, m3⟩ := mul_c _ cl
  have s1 := pl_68 (d := D) (Ls := Ls) (L := L) (X := X) (c := 43) h0 hk (by omega) sg2.2.2.2.1.1 sg2.2.2.2.1.2
  have s2 := pl_68 (d := D) (Ls := Ls) (L := L) (X := X) (c := 45) h0 hk (by omega) sg2.2.2.2.2.1 sg2.2.2.2.2.2
  by_cases c1 : tC B T k = 143
  · rw [m1 c1, pz_n (a := 5) (by omega)] at nx
    rw [decide_eq_true (show tC B T k = 100 + 43 from c1), bN_t] at s1
    generalize pz a = A at *
    generalize pz m = M at *
    rw [P_run_eq, bk_64_8, pb_64_8]; simp -implicitDefEqProofs (disch := first | omega | decide) only [P_m, pw_aload_n0, pw_aloadN_n0, pw_bipush, bl_43, pw_iv2, pw_zeq, pw_iconst, il_5, pw_goto, kd_35, rf_35_0, rf_35_1, n_0, n_1, n_5, n_43, nn_lt, nn_nlt, nn_le, nn_nle, nn_ne, nn_sub, nn_mul, nI_add, nn_neg, nm_eq, mn_eq, mm_eq, mn_lt, nm_lt, mn_le, nm_le, nn_sub0, nn_of, implies_true, nn_c, nn_in, nn_div, nat_rem, Nat.reduceMul, Nat.reduceSub, Nat.reduceDiv, Nat.reduceMod, pf_at, pf_ne, mk_s, mk_1, Classical.not_not, b2i_T, b2i_F, false_imp_iff, true_imp_iff, false_and, and_false, p_sw, Int.reduceAdd, Int.zero_add, Option.some.injEq, Value.int.injEq, Value.long.injEq, Value.ref.injEq, exists_eq_left', mk_I, mk_L, mk_wI, mk_wL, rf_s, rf_n, true_and, and_true, and_self, or_true, true_or, or_false, false_or, not_true_eq_false, not_false_eq_true, Option.toList_some, Option.toList_none, List.cons_append, List.nil_append, List.map_nil, List.map_cons, List.sum_nil, List.sum_cons, cat_i, cat_l, cat_r, cat_n, Nat.reduceLeDiff, Nat.reduceAdd, Nat.reduceEqDiff, Nat.zero_le, p_ent, p_u_ne, p_u_at, reduceIte, if_true, if_false, P_ce s1]
    exact nx
  · rw [decide_eq_false (show ¬ tC B T k = 100 + 43 from c1), bN_f] at s1
    by_cases c2 : tC B T k = 145
    · rw [m2 c2, pz_n (a := 6) (by omega)] at nx
      rw [decide_eq_true (show tC B T k = 100 + 45 from c2), bN_t] at s2
      generalize pz a = A at *
      generalize pz m = M at *
      rw [P_run_eq, bk_64_8, pb_64_8]; simp -implicitDefEqProofs (disch := first | omega | decide) only [P_m, ↓P_run_eq _ 64 _ (p_bk 64 9), bk_64_9, pb_64_9, pw_aload_n0, pw_aloadN_n0, pw_bipush, bl_43, pw_iv2, pw_zeq, pw_iconst, il_5, pw_goto, bl_45, bl_6, kd_35, rf_35_0, rf_35_1, n_0, n_1, n_5, n_6, n_43, n_45, nn_lt, nn_nlt, nn_le, nn_nle, nn_ne, nn_sub, nn_mul, nI_add, nn_neg, nm_eq, mn_eq, mm_eq, mn_lt, nm_lt, mn_le, nm_le, nn_sub0, nn_of, implies_true, nn_c, nn_in, nn_div, nat_rem, Nat.reduceMul, Nat.reduceSub, Nat.reduceDiv, Nat.reduceMod, pf_at, pf_ne, mk_s, mk_1, Classical.not_not, b2i_T, b2i_F, false_imp_iff, true_imp_iff, false_and, and_false, p_sw, Int.reduceAdd, Int.zero_add, Option.some.injEq, Value.int.injEq, Value.long.injEq, Value.ref.injEq, exists_eq_left', mk_I, mk_L, mk_wI, mk_wL, rf_s, rf_n, true_and, and_true, and_self, or_true, true_or, or_false, false_or, not_true_eq_false, not_false_eq_true, Option.toList_some, Option.toList_none, List.cons_append, List.nil_append, List.map_nil, List.map_cons, List.sum_nil, List.sum_cons, cat_i, cat_l, cat_r, cat_n, Nat.reduceLeDiff, Nat.reduceAdd, Nat.reduceEqDiff, Nat.zero_le, p_ent, p_u_ne, p_u_at, reduceIte, if_true, if_false, P_ce s1, P_ce s2]
      exact nx
    · rw [m3 c1 c2, pz_0] at nx
      rw [decide_eq_false (show ¬ tC B T k = 100 + 45 from c2), bN_f] at s2
      generalize pz a = A at *
      generalize pz m = M at *
      rw [P_run_eq, bk_64_8, pb_64_8]; simp -implicitDefEqProofs (disch := first | omega | decide) only [P_m, ↓P_run_eq _ 64 _ (p_bk 64 9), bk_64_9, pb_64_9, ↓P_run_eq _ 64 _ (p_bk 64 10), bk_64_10, pb_64_10, pw_aload_n0, pw_aloadN_n0, pw_bipush, bl_43, pw_iv2, pw_zeq, pw_iconst, il_5, pw_goto, bl_45, bl_6, il_m1, pw_nop, kd_35, rf_35_0, rf_35_1, n_0, n_1, n_5, n_6, n_43, n_45, nn_lt, nn_nlt, nn_le, nn_nle, nn_ne, nn_sub, nn_mul, nI_add, nn_neg, nm_eq, mn_eq, mm_eq, mn_lt, nm_lt, mn_le, nm_le, nn_sub0, nn_of, implies_true, nn_c, nn_in, nn_div, nat_rem, Nat.reduceMul, Nat.reduceSub, Nat.reduceDiv, Nat.reduceMod, pf_at, pf_ne, mk_s, mk_1, Classical.not_not, b2i_T, b2i_F, false_imp_iff, true_imp_iff, false_and, and_false, p_sw, Int.reduceAdd, Int.zero_add, Option.some.injEq, Value.int.injEq, Value.long.injEq, Value.ref.injEq, exists_eq_left', mk_I, mk_L, mk_wI, mk_wL, rf_s, rf_n, true_and, and_true, and_self, or_true, true_or, or_false, false_or, not_true_eq_false, not_false_eq_true, Option.toList_some, Option.toList_none, List.cons_append, List.nil_append, List.map_nil, List.map_cons, List.sum_nil, List.sum_cons, cat_i, cat_l, cat_r, cat_n, Nat.reduceLeDiff, Nat.reduceAdd, Nat.reduceEqDiff, Nat.zero_le, p_ent, p_u_ne, p_u_at, reduceIte, if_true, if_false, P_ce s1, P_ce s2]
      exact nx
end SV
