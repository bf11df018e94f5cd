/-! THE CLASS READS CLAUSES -/
section CL
variable {o : Bool} {B : Nat → Nat} {T Ls N : Nat} {L : Nat → Nat → Int64} {R : Nat → Nat → Option Nat} {X : List pKd}
theorem hd_l : ∀ c, c < 356 → pln 13 c = (if hdK false c = 9 then none else some (hdK false c)) ∧ hdK false c ≤ 9 ∧ (¬ hdK false c = 9 → hdK false c ≤ 2) := by decide +kernel
theorem hd_o : ∀ c, c < 356 → pln 12 c = (if hdK true c = 9 then none else some (hdK true c)) ∧ hdK true c ≤ 9 ∧ (¬ hdK true c = 9 → hdK true c ≤ 3) := by decide +kernel
def acJ (I : Nat → Nat → Int32) (m D : Nat) (c : tCl) : Nat → Nat → Int32 := acW I m (cl_k c) (cl_t c) D (D + (cl_s c).length) (D + (cl_s c).length + (cl_b c).length)
/-- what a clause leaves -/
def ocC (B : Nat → Nat) (T : Nat) (I J : Nat → Nat → Int32) (m : Nat) (D : tCd) : Except Nat (Nat × Nat × tCl) → Prop
  | .ok r => ∃ J1, frS I J1 ∧ rdS B T J1 r.1 r.2.1 (D ++ (cl_s r.2.2 ++ cl_b r.2.2)) ∧ J = acJ J1 m D.length r.2.2
  | .error e => frS I J ∧ cTk B T J e
/-- the test of a clause, and its end -/
theorem cl_if {x k l m kd t fr : Nat} {D : tCd} {sm : tCd} {I J : Nat → Nat → Int32} {f : tDS} {b : Except Nat (Nat × Nat × tDB × tCd)} {v3 : Int32} (hN : ∀ k, N ≤ k → tC B T k = 0) (h4 : N ≤ 400) (hk : k ≤ N) (H : rdB o B T I R) (fJ : frS I J) (hS : rdS B T J k l (D ++ sm)) (hm : m < 12) (e0 : I 36 0 = nI m) (hb : RIf o (tC B T) (tV B T) k l (D.length + sm.length) = some b) (hfr : fr = D.length) : P_run (x + 54 + 1) 59 (p_bk 59 11) 0 0 [.ref 35, .int (nI kd), .int (nI fr), .int v3, .int (nI t)] [] (p_mk Ls J L R X) (fun v h' => v = some (.int (nI (ocV b))) ∧ ∃ J', ocC B T I J' m D (match b with | .ok b => .ok (b.1, b.2.1, kd, t, sm, b.2.2.2, f, b.2.2.1) | .error e => .error e) ∧ h' = p_mk Ls J' L R X) := by
  have HJ := rdB_fr H fJ
  have s70 := pl_70 (d := x + 48) (Ls := Ls) (L := L) (X := X) (s := 5) HJ.1 HJ.2.1 hS.1 (by omega) pln_w.2.2.2.1
  replace s70 : P_m (x + 54) 70 [.ref 35, .ref 17] (p_mk Ls J L R X) (fun v h' => v = some (.int (nI (bN (decide (tC B T k = 4))))) ∧ h' = p_mk Ls (if tC B T k = 4 then stp B T J (k + 1) else J) L R X) := s70
  have e6 := hS.2.2.2.1
  have ll : (D ++ sm).length = D.length + sm.length := List.length_append
  unfold RIf at hb
  by_cases c4 : tC B T k = 4
  · have kN := kN_of hN (show ¬ tC B T k = 0 by omega)
    rw [if_pos c4] at hb
    rw [decide_eq_true c4, bN_t, if_pos c4] at s70
    have f1 : frS I (stp B T J (k + 1)) := frS_tr fJ frS_stp
    obtain ⟨J2, ⟨f2, o2⟩, s60⟩ := tests_c (o := o) (Ls := Ls) (L := L) (R := R) (X := X) hN h4 (k + 1) (by omega) x 0 l _ false _ [] (D ++ sm) _ b (by omega) (rdB_fr H f1) (rdS_stp hS) ll.symm hb
    replace s60 : P_m (x + 54) 60 [.ref 35, .int (nI 0)] (p_mk Ls (stp B T J (k + 1)) L R X) (fun v h' => v = some (.int (nI (ocV b))) ∧ h' = p_mk Ls J2 L R X) := s60
    match b, hb, o2, s60 with
    | .error e, hb, o2, s60 =>
      show P_run _ _ _ _ _ _ _ _ (fun v h' => v = some (.int (nI 0)) ∧ _)
      replace s60 : P_m (x + 54) 60 [.ref 35, .int (nI 0)] (p_mk Ls (stp B T J (k + 1)) L R X) (fun v h' => v = some (.int (nI 0)) ∧ h' = p_mk Ls J2 L R X) := s60
      have fin : ocC B T I J2 m D (.error e) := ⟨frS_tr f1 f2, o2⟩
      clear hS
      generalize stp B T J (k + 1) = J1 at *
      generalize (D ++ sm).length = dl at *
      rw [P_run_eq, bk_59_11, pb_59_11]; simp -implicitDefEqProofs (disch := first | omega | decide) only [P_m, pw_aload_n0, pw_aloadN_n0, pw_getR, pw_getI, pw_istore, ps_5, pe_5, po_i5, po_r5, po_n5, po_u5, pw_ldcS, pw_iv2, pw_zeq, pw_iconst, il_0, pw_zne, pw_ret1, kd_35, rf_35_0, rf_35_1, kd_36, rf_36_1, rf_36_2, rf_36_3, rf_36_4, rf_36_5, rf_36_7, rf_36_8, n_0, n_1, nn_lt, nn_nlt, nn_le, nn_nle, nn_ne, nn_sub, nn_mul, nI_add, nn_neg, nm_eq, mn_eq, mm_eq, mn_lt, nm_lt, mn_le, nm_le, nn_sub0, nn_of, implies_true, nn_c, nn_in, nn_div, nat_rem, Nat.reduceMul, Nat.reduceSub, Nat.reduceDiv, Nat.reduceMod, pf_at, pf_ne, mk_s, mk_1, Classical.not_not, b2i_T, b2i_F, false_imp_iff, true_imp_iff, false_and, and_false, p_sw, Int.reduceAdd, Int.zero_add, Option.some.injEq, Value.int.injEq, Value.long.injEq, Value.ref.injEq, exists_eq_left', mk_I, mk_L, mk_wI, mk_wL, rf_s, rf_n, true_and, and_true, and_self, or_true, true_or, or_false, false_or, not_true_eq_false, not_false_eq_true, Option.toList_some, Option.toList_none, List.cons_append, List.nil_append, List.map_nil, List.map_cons, List.sum_nil, List.sum_cons, cat_i, cat_l, cat_r, cat_n, Nat.reduceLeDiff, Nat.reduceAdd, Nat.reduceEqDiff, Nat.zero_le, p_ent, p_u_ne, p_u_at, reduceIte, if_true, if_false, e6, P_ce s70, P_ce s60]
      exact ⟨J2, fin, rfl⟩
    | .ok b, hb, o2, s60 =>
      have o2 : rdS B T J2 b.1 b.2.1 (D ++ sm ++ b.2.2.2) := o2
      replace s60 : P_m (x + 54) 60 [.ref 35, .int (nI 0)] (p_mk Ls (stp B T J (k + 1)) L R X) (fun v h' => v = some (.int (nI 1)) ∧ h' = p_mk Ls J2 L R X) := s60
      have fI : frS I J2 := frS_tr f1 f2
      have l2 : (D ++ sm ++ b.2.2.2).length = D.length + sm.length + b.2.2.2.length := by rw [List.length_append, ll]
      have e62 := o2.2.2.2.1
      have s79 := pl_79 (d := x + 54) (Ls := Ls) (I := J2) (L := L) (R := R) (X := X) (kd := kd) (t := t) (fr := D.length) (mi := (D ++ sm).length) hm (by rw [fI.2.2 0 (by omega)]; exact e0) e62
      have fin : ocC B T I (acW J2 m kd t D.length (D ++ sm).length (D ++ sm ++ b.2.2.2).length) m D (.ok (b.1, b.2.1, kd, t, sm, b.2.2.2, f, b.2.2.1)) := by
        refine ⟨J2, fI, ?_, ?_⟩
        · show rdS B T J2 b.1 b.2.1 (D ++ (sm ++ b.2.2.2))
          rw [← List.append_assoc]; exact o2
        · unfold acJ
          rw [ll, l2]
      show P_run _ _ _ _ _ _ _ _ (fun v h' => v = some (.int (nI 1)) ∧ _)
      show P_run _ _ _ _ _ _ _ _ (fun v h' => _ ∧ ∃ J', ocC B T I J' m D (.ok (b.1, b.2.1, kd, t, sm, b.2.2.2, f, b.2.2.1)) ∧ _)
      subst hfr
      clear hS o2 hb
      generalize acW J2 m kd t D.length (D ++ sm).length (D ++ sm ++ b.2.2.2).length = J3 at *
      generalize (D ++ sm ++ b.2.2.2).length = dl2 at *
      generalize (D ++ sm).length = dl at *
      generalize stp B T J (k + 1) = J1 at *
      generalize (Except.ok (b.1, b.2.1, kd, t, sm, b.2.2.2, f, b.2.2.1) : Except Nat (Nat × Nat × tCl)) = RR at *
      rw [P_run_eq, bk_59_11, pb_59_11]; simp -implicitDefEqProofs (disch := first | omega | decide) only [P_m, ↓P_run_eq _ 59 _ (p_bk 59 12), bk_59_12, pb_59_12, pw_aload_n0, pw_aloadN_n0, pw_getR, pw_getI, pw_istore, ps_5, pe_5, po_i5, po_r5, po_n5, po_u5, pw_ldcS, pw_iv2, pw_zeq, pw_iconst, il_0, pw_zne, pw_ret1, pw_iload_n1, pw_iload_4, pw_iload_n2, pw_iload_5, pw_iv5, il_1, kd_35, rf_35_0, rf_35_1, kd_36, rf_36_1, rf_36_2, rf_36_3, rf_36_4, rf_36_5, rf_36_7, rf_36_8, n_0, n_1, nn_lt, nn_nlt, nn_le, nn_nle, nn_ne, nn_sub, nn_mul, nI_add, nn_neg, nm_eq, mn_eq, mm_eq, mn_lt, nm_lt, mn_le, nm_le, nn_sub0, nn_of, implies_true, nn_c, nn_in, nn_div, nat_rem, Nat.reduceMul, Nat.reduceSub, Nat.reduceDiv, Nat.reduceMod, pf_at, pf_ne, mk_s, mk_1, Classical.not_not, b2i_T, b2i_F, false_imp_iff, true_imp_iff, false_and, and_false, p_sw, Int.reduceAdd, Int.zero_add, Option.some.injEq, Value.int.injEq, Value.long.injEq, Value.ref.injEq, exists_eq_left', mk_I, mk_L, mk_wI, mk_wL, rf_s, rf_n, true_and, and_true, and_self, or_true, true_or, or_false, false_or, not_true_eq_false, not_false_eq_true, Option.toList_some, Option.toList_none, List.cons_append, List.nil_append, List.map_nil, List.map_cons, List.sum_nil, List.sum_cons, cat_i, cat_l, cat_r, cat_n, Nat.reduceLeDiff, Nat.reduceAdd, Nat.reduceEqDiff, Nat.zero_le, p_ent, p_u_ne, p_u_at, reduceIte, if_true, if_false, e6, P_ce s70, P_ce s60, P_ce s79]
      exact ⟨J3, fin, rfl⟩
  · rw [if_neg c4] at hb
    rw [decide_eq_false c4, bN_f, if_neg c4] at s70
    cases hb
    have s79 := pl_79 (d := x + 54) (Ls := Ls) (I := J) (L := L) (R := R) (X := X) (kd := kd) (t := t) (fr := D.length) (mi := (D ++ sm).length) hm (by rw [fJ.2.2 0 (by omega)]; exact e0) e6
    have fin : ocC B T I (acW J m kd t D.length (D ++ sm).length (D ++ sm).length) m D (.ok (k, l, kd, t, sm, [], f, fun _ => some true)) := by
      refine ⟨J, fJ, ?_, ?_⟩
      · show rdS B T J k l (D ++ (sm ++ []))
        rw [List.append_nil]; exact hS
      · unfold acJ
        show acW J m kd t D.length _ _ = acW J m kd t D.length (D.length + sm.length) (D.length + sm.length + 0)
        rw [ll]; rfl
    show P_run _ _ _ _ _ _ _ _ (fun v h' => v = some (.int (nI 1)) ∧ _)
    show P_run _ _ _ _ _ _ _ _ (fun v h' => _ ∧ ∃ J', ocC B T I J' m D (.ok (k, l, kd, t, sm, [], f, fun _ => some true)) ∧ _)
    subst hfr
    clear hS
    generalize acW J m kd t D.length (D ++ sm).length (D ++ sm).length = J3 at *
    generalize (D ++ sm).length = dl at *
    generalize (Except.ok (k, l, kd, t, sm, [], f, fun _ => some true) : Except Nat (Nat × Nat × tCl)) = RR at *
    rw [P_run_eq, bk_59_11, pb_59_11]; simp -implicitDefEqProofs (disch := first | omega | decide) only [P_m, ↓P_run_eq _ 59 _ (p_bk 59 12), bk_59_12, pb_59_12, pw_aload_n0, pw_aloadN_n0, pw_getR, pw_getI, pw_istore, ps_5, pe_5, po_i5, po_r5, po_n5, po_u5, pw_ldcS, pw_iv2, pw_zeq, pw_iconst, il_0, pw_zne, pw_ret1, pw_iload_n1, pw_iload_4, pw_iload_n2, pw_iload_5, pw_iv5, il_1, kd_35, rf_35_0, rf_35_1, kd_36, rf_36_1, rf_36_2, rf_36_3, rf_36_4, rf_36_5, rf_36_7, rf_36_8, n_0, n_1, nn_lt, nn_nlt, nn_le, nn_nle, nn_ne, nn_sub, nn_mul, nI_add, nn_neg, nm_eq, mn_eq, mm_eq, mn_lt, nm_lt, mn_le, nm_le, nn_sub0, nn_of, implies_true, nn_c, nn_in, nn_div, nat_rem, Nat.reduceMul, Nat.reduceSub, Nat.reduceDiv, Nat.reduceMod, pf_at, pf_ne, mk_s, mk_1, Classical.not_not, b2i_T, b2i_F, false_imp_iff, true_imp_iff, false_and, and_false, p_sw, Int.reduceAdd, Int.zero_add, Option.some.injEq, Value.int.injEq, Value.long.injEq, Value.ref.injEq, exists_eq_left', mk_I, mk_L, mk_wI, mk_wL, rf_s, rf_n, true_and, and_true, and_self, or_true, true_or, or_false, false_or, not_true_eq_false, not_false_eq_true, Option.toList_some, Option.toList_none, List.cons_append, List.nil_append, List.map_nil, List.map_cons, List.sum_nil, List.sum_cons, cat_i, cat_l, cat_r, cat_n, Nat.reduceLeDiff, Nat.reduceAdd, Nat.reduceEqDiff, Nat.zero_le, p_ent, p_u_ne, p_u_at, reduceIte, if_true, if_false, e6, P_ce s70, P_ce s79]
    exact ⟨J3, fin, rfl⟩
end CL
