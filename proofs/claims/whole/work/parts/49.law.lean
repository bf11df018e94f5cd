/-! LAWS ON THE CLASS'S SIDE -/
def txF (Ls : Nat) (R : Nat → Nat → Option Nat) (X : List pKd) (t a1 a2 a3 a4 a5 a7 a8 m1 m2 : Nat) : Prop := ∀ I L, p_kd (p_mk Ls I L R X) t = (0, 7) ∧ p_R (p_mk Ls I L R X) t 1 = some a1 ∧ p_R (p_mk Ls I L R X) t 2 = some a2 ∧ p_R (p_mk Ls I L R X) t 3 = some a3 ∧ p_R (p_mk Ls I L R X) t 4 = some a4 ∧ p_R (p_mk Ls I L R X) t 5 = some a5 ∧ p_R (p_mk Ls I L R X) t 7 = some a7 ∧ p_R (p_mk Ls I L R X) t 8 = some a8 ∧ p_kd (p_mk Ls I L R X) a1 = (1, m1) ∧ p_kd (p_mk Ls I L R X) a2 = (1, m1) ∧ p_kd (p_mk Ls I L R X) a3 = (1, m1) ∧ p_kd (p_mk Ls I L R X) a4 = (1, m1) ∧ p_kd (p_mk Ls I L R X) a5 = (1, m1) ∧ p_kd (p_mk Ls I L R X) a7 = (1, m2) ∧ p_kd (p_mk Ls I L R X) a8 = (1, m2)
def lx (Ls t a1 a2 a3 a4 a5 a7 a8 m1 m2 : Nat) (I : Nat → Nat → Int32) (R : Nat → Nat → Option Nat) (X : List pKd) (CL : List tCl) (o : Bool) : Prop :=
  txF Ls R X t a1 a2 a3 a4 a5 a7 a8 m1 m2 ∧ (¬ a1 = 47 ∧ ¬ a2 = 47 ∧ ¬ a3 = 47 ∧ ¬ a4 = 47 ∧ ¬ a5 = 47 ∧ ¬ a7 = 47 ∧ ¬ a8 = 47) ∧ CL.length ≤ m1 ∧ m1 ≤ 12 ∧ (clCode CL).length ≤ m2 ∧ m2 ≤ 400 ∧ ¬ t = 47 ∧ bW (nw o) (I 46) ∧ txA I a1 a2 a3 a4 a5 a7 a8 CL ∧ (∀ j cl, CL[j]? = some cl → clOk o (clB CL j) cl) ∧ (∀ j cl, CL[j]? = some cl → clB CL j + (cl_s cl).length + (cl_b cl).length ≤ m2) ∧ I t 0 = nI CL.length
def lxp (Ls t a1 a2 a3 a4 a5 a7 a8 m1 m2 : Nat) (I : Nat → Nat → Int32) (R : Nat → Nat → Option Nat) (X : List pKd) (CL : List tCl) (o : Bool) : Prop :=
  txF Ls R X t a1 a2 a3 a4 a5 a7 a8 m1 m2 ∧ (¬ a1 = 51 ∧ ¬ a2 = 51 ∧ ¬ a3 = 51 ∧ ¬ a4 = 51 ∧ ¬ a5 = 51 ∧ ¬ a7 = 51 ∧ ¬ a8 = 51) ∧ CL.length ≤ m1 ∧ m1 ≤ 12 ∧ (clCode CL).length ≤ m2 ∧ m2 ≤ 400 ∧ ¬ t = 51 ∧ bW (nw o) (I 50) ∧ txA I a1 a2 a3 a4 a5 a7 a8 CL ∧ (∀ j cl, CL[j]? = some cl → clOk o (clB CL j) cl) ∧ (∀ j cl, CL[j]? = some cl → clB CL j + (cl_s cl).length + (cl_b cl).length ≤ m2) ∧ I t 0 = nI CL.length
theorem clCode_at : ∀ (CL : List tCl) (j : Nat) (cl : tCl), CL[j]? = some cl → ∃ a b, clCode CL = a ++ (cl_s cl ++ (cl_b cl ++ b)) ∧ a.length = clB CL j
  | [], j, cl, h => by cases h
  | c :: r, 0, cl, h => by cases h; exact ⟨[], clCode r, rfl, rfl⟩
  | c :: r, j + 1, cl, h => by
    obtain ⟨a, b, e1, e2⟩ := clCode_at r j cl h
    refine ⟨cl_s c ++ (cl_b c ++ a), b, ?_, ?_⟩
    · show cl_s c ++ (cl_b c ++ clCode r) = _
      rw [e1, List.append_assoc, List.append_assoc]
    · rw [List.length_append, List.length_append, e2]
      show (cl_s c).length + ((cl_b c).length + clB r j) = (cl_s c).length + (cl_b c).length + clB r j
      omega
theorem cl_hold {I : Nat → Nat → Int32} {a1 a2 a3 a4 a5 a7 a8 : Nat} {CL : List tCl} {j : Nat} {cl : tCl} (h : txA I a1 a2 a3 a4 a5 a7 a8 CL) (hc : CL[j]? = some cl) : clB CL j + (cl_s cl).length + (cl_b cl).length ≤ (clCode CL).length ∧ hold (I a7) (I a8) (clB CL j) (cl_s cl) ∧ hold (I a7) (I a8) (clB CL j + (cl_s cl).length) (cl_b cl) := by
  obtain ⟨a, b, e1, e2⟩ := clCode_at CL j cl hc
  have h2 : hold (I a7) (I a8) 0 (clCode CL) := fun i q hq => by rw [Nat.zero_add]; exact h.2 i q hq
  rw [e1] at h2
  obtain ⟨-, h3⟩ := hold_app.mp h2
  obtain ⟨h4, h5⟩ := hold_app.mp h3
  obtain ⟨h6, -⟩ := hold_app.mp h5
  rw [Nat.zero_add, e2] at h4 h6
  refine ⟨?_, h4, h6⟩
  rw [e1, List.length_append, List.length_append, List.length_append, e2]
  omega
section LW
variable {d Ls t a1 a2 a3 a4 a5 a7 a8 m1 m2 : Nat} {I : Nat → Nat → Int32} {L : Nat → Nat → Int64} {R : Nat → Nat → Option Nat} {X : List pKd} {CL : List tCl} {o : Bool}
theorem sp_31s {N c to nd : Nat} {cs : tCd} {f : tDS} {S : Nat → Int32} (hx : cx N Ls t a7 a8 m2 to I R X) (hg : CS N cs f nd) (hnd : nd ≤ 64) (hc : hold (I a7) (I a8) c cs) (ht : c + cs.length = to) : P_m (d + 1) 31 [.ref 45, .ref t, .int (nI c), .int (nI to)] (p_mk Ls (p_fn I 47 S) L R X) (fun v h' => v = some (.int (oI (f (I 46)))) ∧ ∃ S', h' = p_mk Ls (p_fn I 47 S') L R X) := by
  simp -implicitDefEqProofs (disch := first | omega | decide) only [P_m, ↓P_run_eq _ 31 _ (p_bk 31 0), bk_31_0, pb_31_0, pw_iconst, il_0, pw_istore, ps_4, pe_4, po_i4, po_r4, po_n4, po_u4, pw_iload_n2, ps_5, pe_5, po_i5, po_r5, po_n5, po_u5, pw_nop, kd_45, rf_45_0, rf_45_1, n_0, n_1, nn_lt, nn_nlt, nn_le, nn_nle, nn_ne, nn_sub, nn_mul, nI_add, nn_neg, nm_eq, mn_eq, mm_eq, mn_lt, nm_lt, mn_le, nm_le, nn_sub0, nn_of, implies_true, nn_c, nn_in, nn_div, nat_rem, Nat.reduceMul, Nat.reduceSub, Nat.reduceDiv, Nat.reduceMod, pf_at, pf_ne, mk_s, mk_1, Classical.not_not, b2i_T, b2i_F, false_imp_iff, true_imp_iff, false_and, and_false, p_sw, Int.reduceAdd, Int.zero_add, Option.some.injEq, Value.int.injEq, Value.long.injEq, Value.ref.injEq, exists_eq_left', mk_I, mk_L, mk_wI, mk_wL, rf_s, rf_n, true_and, and_true, and_self, or_true, true_or, or_false, false_or, not_true_eq_false, not_false_eq_true, Option.toList_some, Option.toList_none, List.cons_append, List.nil_append, List.map_nil, List.map_cons, List.sum_nil, List.sum_cons, cat_i, cat_l, cat_r, cat_n, Nat.reduceLeDiff, Nat.reduceAdd, Nat.reduceEqDiff, Nat.zero_le, p_ent, p_u_ne, p_u_at, reduceIte, if_true, if_false]
  have hb : to ≤ 400 := Nat.le_trans hx.2.2.2.1 hx.2.2.2.2.1
  refine hg Ls d t a7 a8 m2 c to I L R X _ c 0 S hx hc (by omega) (by omega) (fun v S' e1 _ e2 => ?_) (fun e1 S' => ?_)
  · refine vs_end (by omega) (by omega) (by omega) ?_
    rw [if_neg (by omega), e1, e2]
    exact ⟨rfl, S', rfl⟩
  · rw [e1]; exact ⟨rfl, S', rfl⟩
/-- what a test tells -/
theorem sp_31b {c to b : Nat} {cl : tCl} {S : Nat → Int32} (hx : cx (nw o) Ls t a7 a8 m2 to I R X) (hg : clOk o b cl) (hb : c = b + (cl_s cl).length) (hc : hold (I a7) (I a8) c (cl_b cl)) (ht : c + (cl_b cl).length = to) : P_m (d + 1) 31 [.ref 45, .ref t, .int (nI c), .int (nI to)] (p_mk Ls (p_fn I 47 S) L R X) (fun v h' => (∃ w, v = some (.int w) ∧ (w = 1 ↔ cl_g cl (I 46) = some true)) ∧ ∃ S', h' = p_mk Ls (p_fn I 47 S') L R X) := by
  simp -implicitDefEqProofs (disch := first | omega | decide) only [P_m, ↓P_run_eq _ 31 _ (p_bk 31 0), bk_31_0, pb_31_0, pw_iconst, il_0, pw_istore, ps_4, pe_4, po_i4, po_r4, po_n4, po_u4, pw_iload_n2, ps_5, pe_5, po_i5, po_r5, po_n5, po_u5, pw_nop, kd_45, rf_45_0, rf_45_1, n_0, n_1, nn_lt, nn_nlt, nn_le, nn_nle, nn_ne, nn_sub, nn_mul, nI_add, nn_neg, nm_eq, mn_eq, mm_eq, mn_lt, nm_lt, mn_le, nm_le, nn_sub0, nn_of, implies_true, nn_c, nn_in, nn_div, nat_rem, Nat.reduceMul, Nat.reduceSub, Nat.reduceDiv, Nat.reduceMod, pf_at, pf_ne, mk_s, mk_1, Classical.not_not, b2i_T, b2i_F, false_imp_iff, true_imp_iff, false_and, and_false, p_sw, Int.reduceAdd, Int.zero_add, Option.some.injEq, Value.int.injEq, Value.long.injEq, Value.ref.injEq, exists_eq_left', mk_I, mk_L, mk_wI, mk_wL, rf_s, rf_n, true_and, and_true, and_self, or_true, true_or, or_false, false_or, not_true_eq_false, not_false_eq_true, Option.toList_some, Option.toList_none, List.cons_append, List.nil_append, List.map_nil, List.map_cons, List.sum_nil, List.sum_cons, cat_i, cat_l, cat_r, cat_n, Nat.reduceLeDiff, Nat.reduceAdd, Nat.reduceEqDiff, Nat.zero_le, p_ent, p_u_ne, p_u_at, reduceIte, if_true, if_false]
  have hb9 : to ≤ 400 := Nat.le_trans hx.2.2.2.1 hx.2.2.2.2.1
  rcases hg.2.1 with ⟨g1, g2⟩ | ⟨nd, hnd, -, g1, g2⟩
  · rw [g1, List.length_nil] at ht
    refine vs_end (by omega) (by omega) (by omega) ⟨⟨_, rfl, ?_⟩, S, rfl⟩
    rw [g2]
    exact ⟨fun _ => rfl, fun _ => rfl⟩
  · subst hb
    refine g1 Ls d t a7 a8 m2 (b + (cl_s cl).length) to I L R X _ 0 S hx hc (by omega) (by omega) (fun v S' e1 _ e2 => ?_) (fun e1 S' => ?_)
    · refine vs_end (by omega) (by omega) (by omega) ⟨⟨_, rfl, ?_⟩, S', rfl⟩
      rw [if_neg (by omega), e1, e2]
      cases v with
      | true => exact ⟨fun _ => rfl, fun _ => rfl⟩
      | false => exact ⟨fun h => absurd h (by decide), fun h => by cases h⟩
    · refine ⟨⟨_, rfl, ?_⟩, S', rfl⟩
      rw [e1]
      exact ⟨fun h => absurd h (by decide), fun h => by cases h⟩
theorem sp_27 {S : Nat → Int32} (hx : lx Ls t a1 a2 a3 a4 a5 a7 a8 m1 m2 I R X CL false) (hy : 0 ≤ (I 46 1).toInt ∧ (I 46 1).toInt ≤ 99) : P_m (d + 2) 27 [.ref 45, .ref t] (p_mk Ls (p_fn I 47 S) L R X) (fun v h' => v = some (.int (zI (lawA CL (I 46) (I 46 1).toInt))) ∧ ∃ S', h' = p_mk Ls (p_fn I 47 S') L R X) := by
  obtain ⟨hF, ⟨n1, n2, n3, n4, n5, n7, n8⟩, q1, q2, q3, q4, q5, hW, htx, hok, hend, h0⟩ := hx
  have f0 := fun I L => (hF I L).1
  have f1 := fun I L => (hF I L).2.1
  have f3 := fun I L => (hF I L).2.2.2.1
  have f4 := fun I L => (hF I L).2.2.2.2.1
  have f5 := fun I L => (hF I L).2.2.2.2.2.1
  have g1 := fun I L => (hF I L).2.2.2.2.2.2.2.2.1
  have g3 := fun I L => (hF I L).2.2.2.2.2.2.2.2.2.2.1
  have g4 := fun I L => (hF I L).2.2.2.2.2.2.2.2.2.2.2.1
  have g5 := fun I L => (hF I L).2.2.2.2.2.2.2.2.2.2.2.2.1
  have hV : txV Ls R X t a7 a8 m2 := fun I L => ⟨(hF I L).1, (hF I L).2.2.2.2.2.2.1, (hF I L).2.2.2.2.2.2.2.1, (hF I L).2.2.2.2.2.2.2.2.2.2.2.2.2.1, (hF I L).2.2.2.2.2.2.2.2.2.2.2.2.2.2⟩
  have loop : ∀ j, j ≤ CL.length → ∀ S, P_run (d + 2) 27 (p_bk 27 3) 0 0 [.ref 45, .ref t, .int (nI CL.length), .int (if j = 0 then mI 1 else nI (j - 1))] [] (p_mk Ls (p_fn I 47 S) L R X) (fun v h' => v = some (.int (zI (lawA (CL.take j) (I 46) (I 46 1).toInt))) ∧ ∃ S', h' = p_mk Ls (p_fn I 47 S') L R X) := by
    intro j
    induction j with
    | zero =>
      intro _ S
      have e9 : zI (lawA (CL.take 0) (I 46) (I 46 1).toInt) = I 46 1 := zI_of _
      rw [e9]
      rw [P_run_eq, bk_27_3, pb_27_3]; simp -implicitDefEqProofs (disch := first | omega | decide) only [P_m, ↓P_run_eq _ 27 _ (p_bk 27 8), bk_27_8, pb_27_8, pw_iload_n3, pw_zlt, pw_aload_n1, pw_aloadN_n1, pw_getR, pw_iald, pw_zne, pw_aload_n0, pw_aloadN_n0, pw_iv4, pw_iconst, il_1, pw_cne, pw_istore, ps_4, pe_4, po_i4, po_r4, po_n4, po_u4, pw_iload_4, pw_ldc, cn_2, pw_ceq, pw_zge, il_0, pw_goto, pw_ret0, kd_45, rf_45_0, rf_45_1, kd_46, n_0, n_1, nn_lt, nn_nlt, nn_le, nn_nle, nn_ne, nn_sub, nn_mul, nI_add, nn_neg, nm_eq, mn_eq, mm_eq, mn_lt, nm_lt, mn_le, nm_le, nn_sub0, nn_of, implies_true, nn_c, nn_in, nn_div, nat_rem, Nat.reduceMul, Nat.reduceSub, Nat.reduceDiv, Nat.reduceMod, pf_at, pf_ne, mk_s, mk_1, Classical.not_not, b2i_T, b2i_F, false_imp_iff, true_imp_iff, false_and, and_false, p_sw, Int.reduceAdd, Int.zero_add, Option.some.injEq, Value.int.injEq, Value.long.injEq, Value.ref.injEq, exists_eq_left', mk_I, mk_L, mk_wI, mk_wL, rf_s, rf_n, true_and, and_true, and_self, or_true, true_or, or_false, false_or, not_true_eq_false, not_false_eq_true, Option.toList_some, Option.toList_none, List.cons_append, List.nil_append, List.map_nil, List.map_cons, List.sum_nil, List.sum_cons, cat_i, cat_l, cat_r, cat_n, Nat.reduceLeDiff, Nat.reduceAdd, Nat.reduceEqDiff, Nat.zero_le, p_ent, p_u_ne, p_u_at, reduceIte, if_true, if_false, if_pos]
      exact ⟨S, rfl⟩
    | succ j ih =>
      intro hj S
      have hj2 : j < CL.length := by omega
      obtain ⟨cl, hcl⟩ : ∃ cl, CL[j]? = some cl := ⟨CL[j], List.getElem?_eq_getElem hj2⟩
      obtain ⟨r1, r2, r3, r4, r5⟩ := htx.1 j hj2 cl hcl
      have hcl2 := hok j cl hcl
      obtain ⟨s1, s2, s3⟩ := cl_hold htx hcl
      have ee := hend j cl hcl
      have et : CL.take (j + 1) = CL.take j ++ [cl] := by rw [List.take_succ, hcl]; rfl
      have el : lawA (CL.take (j + 1)) (I 46) (I 46 1).toInt = clA (I 46) cl (lawA (CL.take j) (I 46) (I 46 1).toInt) := by
        rw [et]; unfold lawA; rw [List.foldl_append]; rfl
      rw [el]
      rw [if_neg (by omega), Nat.add_sub_cancel]
      have ihn := ih (by omega)
      have back : ∀ S, P_run (d + 2) 27 (p_bk 27 7) 0 0 [.ref 45, .ref t, .int (nI CL.length), .int (nI j)] [] (p_mk Ls (p_fn I 47 S) L R X) (fun v h' => v = some (.int (zI (lawA (CL.take j) (I 46) (I 46 1).toInt))) ∧ ∃ S', h' = p_mk Ls (p_fn I 47 S') L R X) := by
        intro S
        rcases Nat.eq_zero_or_pos j with rfl | hj0
        · have i0 := ihn S
          simp -implicitDefEqProofs (disch := first | omega | decide) only [P_m, ↓P_run_eq _ 27 _ (p_bk 27 7), bk_27_7, pb_27_7, pw_iinc_3, il_m1, po_i3, po_r3, po_n3, po_u3, pw_goto, n_0, n_1, nn_lt, nn_nlt, nn_le, nn_nle, nn_ne, nn_sub, nn_mul, nI_add, nn_neg, nm_eq, mn_eq, mm_eq, mn_lt, nm_lt, mn_le, nm_le, nn_sub0, nn_of, implies_true, nn_c, nn_in, nn_div, nat_rem, Nat.reduceMul, Nat.reduceSub, Nat.reduceDiv, Nat.reduceMod, pf_at, pf_ne, mk_s, mk_1, Classical.not_not, b2i_T, b2i_F, false_imp_iff, true_imp_iff, false_and, and_false, p_sw, Int.reduceAdd, Int.zero_add, Option.some.injEq, Value.int.injEq, Value.long.injEq, Value.ref.injEq, exists_eq_left', mk_I, mk_L, mk_wI, mk_wL, rf_s, rf_n, true_and, and_true, and_self, or_true, true_or, or_false, false_or, not_true_eq_false, not_false_eq_true, Option.toList_some, Option.toList_none, List.cons_append, List.nil_append, List.map_nil, List.map_cons, List.sum_nil, List.sum_cons, cat_i, cat_l, cat_r, cat_n, Nat.reduceLeDiff, Nat.reduceAdd, Nat.reduceEqDiff, Nat.zero_le, p_ent, p_u_ne, p_u_at, reduceIte, if_true, if_false, n_1, nn_neg, nn_addm0]
          exact i0
        · have i0 := ihn S
          rw [if_neg (by omega)] at i0
          simp -implicitDefEqProofs (disch := first | omega | decide) only [P_m, ↓P_run_eq _ 27 _ (p_bk 27 7), bk_27_7, pb_27_7, pw_iinc_3, il_m1, po_i3, po_r3, po_n3, po_u3, pw_goto, n_0, n_1, nn_lt, nn_nlt, nn_le, nn_nle, nn_ne, nn_sub, nn_mul, nI_add, nn_neg, nm_eq, mn_eq, mm_eq, mn_lt, nm_lt, mn_le, nm_le, nn_sub0, nn_of, implies_true, nn_c, nn_in, nn_div, nat_rem, Nat.reduceMul, Nat.reduceSub, Nat.reduceDiv, Nat.reduceMod, pf_at, pf_ne, mk_s, mk_1, Classical.not_not, b2i_T, b2i_F, false_imp_iff, true_imp_iff, false_and, and_false, p_sw, Int.reduceAdd, Int.zero_add, Option.some.injEq, Value.int.injEq, Value.long.injEq, Value.ref.injEq, exists_eq_left', mk_I, mk_L, mk_wI, mk_wL, rf_s, rf_n, true_and, and_true, and_self, or_true, true_or, or_false, false_or, not_true_eq_false, not_false_eq_true, Option.toList_some, Option.toList_none, List.cons_append, List.nil_append, List.map_nil, List.map_cons, List.sum_nil, List.sum_cons, cat_i, cat_l, cat_r, cat_n, Nat.reduceLeDiff, Nat.reduceAdd, Nat.reduceEqDiff, Nat.zero_le, p_ent, p_u_ne, p_u_at, reduceIte, if_true, if_false, n_1, nn_neg, nn_addm]
          exact i0
      by_cases ck : cl_k cl = 0
      · rw [ck] at r1
        rw [P_run_eq, bk_27_3, pb_27_3]; simp -implicitDefEqProofs (disch := first | omega | decide) only [P_m, pw_iload_n3, pw_zlt, pw_aload_n1, pw_aloadN_n1, pw_getR, pw_iald, pw_zne, pw_aload_n0, pw_aloadN_n0, pw_iv4, pw_iconst, il_1, pw_cne, pw_istore, ps_4, pe_4, po_i4, po_r4, po_n4, po_u4, pw_iload_4, pw_ldc, cn_2, pw_ceq, pw_zge, il_0, pw_goto, kd_45, rf_45_0, rf_45_1, n_0, n_1, nn_lt, nn_nlt, nn_le, nn_nle, nn_ne, nn_sub, nn_mul, nI_add, nn_neg, nm_eq, mn_eq, mm_eq, mn_lt, nm_lt, mn_le, nm_le, nn_sub0, nn_of, implies_true, nn_c, nn_in, nn_div, nat_rem, Nat.reduceMul, Nat.reduceSub, Nat.reduceDiv, Nat.reduceMod, pf_at, pf_ne, mk_s, mk_1, Classical.not_not, b2i_T, b2i_F, false_imp_iff, true_imp_iff, false_and, and_false, p_sw, Int.reduceAdd, Int.zero_add, Option.some.injEq, Value.int.injEq, Value.long.injEq, Value.ref.injEq, exists_eq_left', mk_I, mk_L, mk_wI, mk_wL, rf_s, rf_n, true_and, and_true, and_self, or_true, true_or, or_false, false_or, not_true_eq_false, not_false_eq_true, Option.toList_some, Option.toList_none, List.cons_append, List.nil_append, List.map_nil, List.map_cons, List.sum_nil, List.sum_cons, cat_i, cat_l, cat_r, cat_n, Nat.reduceLeDiff, Nat.reduceAdd, Nat.reduceEqDiff, Nat.zero_le, p_ent, p_u_ne, p_u_at, reduceIte, if_true, if_false, f0, f1, f3, f4, f5, g1, g3, g4, g5, r1, r3, r4, r5]
        refine P_c (sp_31b (I := I) (b := clB CL j) (cl := cl) (o := false) ⟨hV, n7, n8, by omega, q4, hW⟩ hcl2 rfl s3 rfl) ?_
        rintro _ _ ⟨⟨w, rfl, hw⟩, S1, rfl⟩
        by_cases cg : cl_g cl (I 46) = some true
        · have w1 : w = nI 1 := hw.mpr cg
          subst w1
          rcases hcl2.1 with ⟨-, nd, hnd, gs⟩ | ⟨hs, -, -⟩
          · simp -implicitDefEqProofs (disch := first | omega | decide) only [P_m, ↓P_run_eq _ 27 _ (p_bk 27 7), bk_27_7, pb_27_7, pw_iload_n3, pw_zlt, pw_aload_n1, pw_aloadN_n1, pw_getR, pw_iald, pw_zne, pw_aload_n0, pw_aloadN_n0, pw_iv4, pw_iconst, il_1, pw_cne, pw_istore, ps_4, pe_4, po_i4, po_r4, po_n4, po_u4, pw_iload_4, pw_ldc, cn_2, pw_ceq, pw_zge, il_0, pw_goto, pw_iinc_3, il_m1, po_i3, po_r3, po_n3, po_u3, kd_45, rf_45_0, rf_45_1, n_0, n_1, nn_lt, nn_nlt, nn_le, nn_nle, nn_ne, nn_sub, nn_mul, nI_add, nn_neg, nm_eq, mn_eq, mm_eq, mn_lt, nm_lt, mn_le, nm_le, nn_sub0, nn_of, implies_true, nn_c, nn_in, nn_div, nat_rem, Nat.reduceMul, Nat.reduceSub, Nat.reduceDiv, Nat.reduceMod, pf_at, pf_ne, mk_s, mk_1, Classical.not_not, b2i_T, b2i_F, false_imp_iff, true_imp_iff, false_and, and_false, p_sw, Int.reduceAdd, Int.zero_add, Option.some.injEq, Value.int.injEq, Value.long.injEq, Value.ref.injEq, exists_eq_left', mk_I, mk_L, mk_wI, mk_wL, rf_s, rf_n, true_and, and_true, and_self, or_true, true_or, or_false, false_or, not_true_eq_false, not_false_eq_true, Option.toList_some, Option.toList_none, List.cons_append, List.nil_append, List.map_nil, List.map_cons, List.sum_nil, List.sum_cons, cat_i, cat_l, cat_r, cat_n, Nat.reduceLeDiff, Nat.reduceAdd, Nat.reduceEqDiff, Nat.zero_le, p_ent, p_u_ne, p_u_at, reduceIte, if_true, if_false, f0, f1, f3, f4, f5, g1, g3, g4, g5, r1, r3, r4, r5]
            refine P_c (sp_31s (I := I) (f := cl_f cl) (cs := cl_s cl) ⟨hV, n7, n8, by omega, q4, hW⟩ ((fun (g : gS _ _ _ _) => g.2.2.1) gs) (by omega) s2 rfl) ?_
            rintro _ _ ⟨rfl, S2, rfl⟩
            have hf := gs.2.1 _ hW
            cases hv : cl_f cl (I 46) with
            | none =>
              have e1 : clA (I 46) cl (lawA (CL.take j) (I 46) (I 46 1).toInt) = lawA (CL.take j) (I 46) (I 46 1).toInt := by
                unfold clA; rw [if_pos ⟨ck, cg⟩, hv]
              rw [e1]
              simp -implicitDefEqProofs (disch := first | omega | decide) only [P_m, pw_iload_n3, pw_zlt, pw_aload_n1, pw_aloadN_n1, pw_getR, pw_iald, pw_zne, pw_aload_n0, pw_aloadN_n0, pw_iv4, pw_iconst, il_1, pw_cne, pw_istore, ps_4, pe_4, po_i4, po_r4, po_n4, po_u4, pw_iload_4, pw_ldc, cn_2, pw_ceq, pw_zge, il_0, pw_goto, n_0, n_1, nn_lt, nn_nlt, nn_le, nn_nle, nn_ne, nn_sub, nn_mul, nI_add, nn_neg, nm_eq, mn_eq, mm_eq, mn_lt, nm_lt, mn_le, nm_le, nn_sub0, nn_of, implies_true, nn_c, nn_in, nn_div, nat_rem, Nat.reduceMul, Nat.reduceSub, Nat.reduceDiv, Nat.reduceMod, pf_at, pf_ne, mk_s, mk_1, Classical.not_not, b2i_T, b2i_F, false_imp_iff, true_imp_iff, false_and, and_false, p_sw, Int.reduceAdd, Int.zero_add, Option.some.injEq, Value.int.injEq, Value.long.injEq, Value.ref.injEq, exists_eq_left', mk_I, mk_L, mk_wI, mk_wL, rf_s, rf_n, true_and, and_true, and_self, or_true, true_or, or_false, false_or, not_true_eq_false, not_false_eq_true, Option.toList_some, Option.toList_none, List.cons_append, List.nil_append, List.map_nil, List.map_cons, List.sum_nil, List.sum_cons, cat_i, cat_l, cat_r, cat_n, Nat.reduceLeDiff, Nat.reduceAdd, Nat.reduceEqDiff, Nat.zero_le, p_ent, p_u_ne, p_u_at, reduceIte, if_true, if_false, oI]
              exact P_ls (back S2) (lsLe_ap _ [_] (by simp only [List.mem_cons, List.not_mem_nil, or_false]; rintro _ rfl; rfl))
            | some v =>
              have hv9 := hf v hv
              unfold inB at hv9
              have nb : ¬ zI v = brk := fun e => by have := (oI_brk (x := some v) (fun w hw => by cases hw; exact hf v hv)).mp e; cases this
              have e1 : clA (I 46) cl (lawA (CL.take j) (I 46) (I 46 1).toInt) = if v < 0 then 0 else if 99 < v then 99 else v := by
                unfold clA; rw [if_pos ⟨ck, cg⟩, hv]
              rw [e1]
              have c0 : (nI 0 ≤ zI v) = (0 ≤ v) := by
                rw [Int32.le_iff_toInt_le, zI_toInt (by omega) (by omega)]; rfl
              have c99 : (zI v ≤ nI 99) = (v ≤ 99) := by
                rw [Int32.le_iff_toInt_le, zI_toInt (by omega) (by omega)]; rfl
              simp -implicitDefEqProofs (disch := first | omega | decide) only [P_m, ↓P_run_eq _ 27 _ (p_bk 27 4), bk_27_4, pb_27_4, ↓P_run_eq _ 27 _ (p_bk 27 5), bk_27_5, pb_27_5, ↓P_run_eq _ 27 _ (p_bk 27 6), bk_27_6, pb_27_6, pw_iload_n3, pw_zlt, pw_aload_n1, pw_aloadN_n1, pw_getR, pw_iald, pw_zne, pw_aload_n0, pw_aloadN_n0, pw_iv4, pw_iconst, il_1, pw_cne, pw_istore, ps_4, pe_4, po_i4, po_r4, po_n4, po_u4, pw_iload_4, pw_ldc, cn_2, pw_ceq, pw_zge, il_0, pw_goto, pw_bipush, bl_99, pw_cle, pw_nop, pw_ret0, n_0, n_1, n_99, nn_lt, nn_nlt, nn_le, nn_nle, nn_ne, nn_sub, nn_mul, nI_add, nn_neg, nm_eq, mn_eq, mm_eq, mn_lt, nm_lt, mn_le, nm_le, nn_sub0, nn_of, implies_true, nn_c, nn_in, nn_div, nat_rem, Nat.reduceMul, Nat.reduceSub, Nat.reduceDiv, Nat.reduceMod, pf_at, pf_ne, mk_s, mk_1, Classical.not_not, b2i_T, b2i_F, false_imp_iff, true_imp_iff, false_and, and_false, p_sw, Int.reduceAdd, Int.zero_add, Option.some.injEq, Value.int.injEq, Value.long.injEq, Value.ref.injEq, exists_eq_left', mk_I, mk_L, mk_wI, mk_wL, rf_s, rf_n, true_and, and_true, and_self, or_true, true_or, or_false, false_or, not_true_eq_false, not_false_eq_true, Option.toList_some, Option.toList_none, List.cons_append, List.nil_append, List.map_nil, List.map_cons, List.sum_nil, List.sum_cons, cat_i, cat_l, cat_r, cat_n, Nat.reduceLeDiff, Nat.reduceAdd, Nat.reduceEqDiff, Nat.zero_le, p_ent, p_u_ne, p_u_at, reduceIte, if_true, if_false, oI, nb, c0, c99]
              refine ⟨fun z => ⟨fun z2 => ?_, fun z2 => ?_⟩, fun z => ?_⟩
              · rw [if_neg (by omega), if_neg (by omega)]; exact ⟨rfl, S2, rfl⟩
              · rw [if_neg (by omega), if_pos (by omega)]; exact ⟨rfl, S2, rfl⟩
              · rw [if_pos (by omega)]; exact ⟨rfl, S2, rfl⟩
          · unfold hasS at hs; rw [ck] at hs; cases hs
        · have w1 : ¬ w = nI 1 := fun e => cg (hw.mp e)
          have e1 : clA (I 46) cl (lawA (CL.take j) (I 46) (I 46 1).toInt) = lawA (CL.take j) (I 46) (I 46 1).toInt := by
            unfold clA; rw [if_neg (fun e => cg e.2)]
          rw [e1]
          simp -implicitDefEqProofs (disch := first | omega | decide) only [P_m, pw_iload_n3, pw_zlt, pw_aload_n1, pw_aloadN_n1, pw_getR, pw_iald, pw_zne, pw_aload_n0, pw_aloadN_n0, pw_iv4, pw_iconst, il_1, pw_cne, pw_istore, ps_4, pe_4, po_i4, po_r4, po_n4, po_u4, pw_iload_4, pw_ldc, cn_2, pw_ceq, pw_zge, il_0, pw_goto, n_0, n_1, nn_lt, nn_nlt, nn_le, nn_nle, nn_ne, nn_sub, nn_mul, nI_add, nn_neg, nm_eq, mn_eq, mm_eq, mn_lt, nm_lt, mn_le, nm_le, nn_sub0, nn_of, implies_true, nn_c, nn_in, nn_div, nat_rem, Nat.reduceMul, Nat.reduceSub, Nat.reduceDiv, Nat.reduceMod, pf_at, pf_ne, mk_s, mk_1, Classical.not_not, b2i_T, b2i_F, false_imp_iff, true_imp_iff, false_and, and_false, p_sw, Int.reduceAdd, Int.zero_add, Option.some.injEq, Value.int.injEq, Value.long.injEq, Value.ref.injEq, exists_eq_left', mk_I, mk_L, mk_wI, mk_wL, rf_s, rf_n, true_and, and_true, and_self, or_true, true_or, or_false, false_or, not_true_eq_false, not_false_eq_true, Option.toList_some, Option.toList_none, List.cons_append, List.nil_append, List.map_nil, List.map_cons, List.sum_nil, List.sum_cons, cat_i, cat_l, cat_r, cat_n, Nat.reduceLeDiff, Nat.reduceAdd, Nat.reduceEqDiff, Nat.zero_le, p_ent, p_u_ne, p_u_at, reduceIte, if_true, if_false, w1]
          exact back S1
      · have hk3 := hcl2.2.2.1
        have e1 : clA (I 46) cl (lawA (CL.take j) (I 46) (I 46 1).toInt) = lawA (CL.take j) (I 46) (I 46 1).toInt := by
          unfold clA; rw [if_neg (fun e => ck e.1)]
        rw [e1]
        rw [P_run_eq, bk_27_3, pb_27_3]; simp -implicitDefEqProofs (disch := first | omega | decide) only [P_m, pw_iload_n3, pw_zlt, pw_aload_n1, pw_aloadN_n1, pw_getR, pw_iald, pw_zne, pw_aload_n0, pw_aloadN_n0, pw_iv4, pw_iconst, il_1, pw_cne, pw_istore, ps_4, pe_4, po_i4, po_r4, po_n4, po_u4, pw_iload_4, pw_ldc, cn_2, pw_ceq, pw_zge, il_0, pw_goto, kd_45, rf_45_0, rf_45_1, n_0, n_1, nn_lt, nn_nlt, nn_le, nn_nle, nn_ne, nn_sub, nn_mul, nI_add, nn_neg, nm_eq, mn_eq, mm_eq, mn_lt, nm_lt, mn_le, nm_le, nn_sub0, nn_of, implies_true, nn_c, nn_in, nn_div, nat_rem, Nat.reduceMul, Nat.reduceSub, Nat.reduceDiv, Nat.reduceMod, pf_at, pf_ne, mk_s, mk_1, Classical.not_not, b2i_T, b2i_F, false_imp_iff, true_imp_iff, false_and, and_false, p_sw, Int.reduceAdd, Int.zero_add, Option.some.injEq, Value.int.injEq, Value.long.injEq, Value.ref.injEq, exists_eq_left', mk_I, mk_L, mk_wI, mk_wL, rf_s, rf_n, true_and, and_true, and_self, or_true, true_or, or_false, false_or, not_true_eq_false, not_false_eq_true, Option.toList_some, Option.toList_none, List.cons_append, List.nil_append, List.map_nil, List.map_cons, List.sum_nil, List.sum_cons, cat_i, cat_l, cat_r, cat_n, Nat.reduceLeDiff, Nat.reduceAdd, Nat.reduceEqDiff, Nat.zero_le, p_ent, p_u_ne, p_u_at, reduceIte, if_true, if_false, f0, f1, g1, r1]
        exact back S
  have := loop CL.length (Nat.le_refl _) S
  rw [List.take_length] at this
  rcases Nat.eq_zero_or_pos CL.length with e9 | e9
  · rw [e9, if_pos rfl] at this
    rw [e9] at h0
    simp -implicitDefEqProofs (disch := first | omega | decide) only [P_m, ↓P_run_eq _ 27 _ (p_bk 27 0), bk_27_0, pb_27_0, ↓P_run_eq _ 27 _ (p_bk 27 1), bk_27_1, pb_27_1, ↓P_run_eq _ 27 _ (p_bk 27 2), bk_27_2, pb_27_2, pw_aload_n1, pw_aloadN_n1, pw_nn, pw_nnN, pw_iconst, il_0, pw_goto, pw_getI, pw_nop, pw_istore_n2, ps_2, pe_2, po_i2, po_r2, po_n2, po_u2, pw_iload_n2, il_1, pw_isub, pw_istore_n3, ps_3, pe_3, po_i3, po_r3, po_n3, po_u3, n_0, n_1, nn_lt, nn_nlt, nn_le, nn_nle, nn_ne, nn_sub, nn_mul, nI_add, nn_neg, nm_eq, mn_eq, mm_eq, mn_lt, nm_lt, mn_le, nm_le, nn_sub0, nn_of, implies_true, nn_c, nn_in, nn_div, nat_rem, Nat.reduceMul, Nat.reduceSub, Nat.reduceDiv, Nat.reduceMod, pf_at, pf_ne, mk_s, mk_1, Classical.not_not, b2i_T, b2i_F, false_imp_iff, true_imp_iff, false_and, and_false, p_sw, Int.reduceAdd, Int.zero_add, Option.some.injEq, Value.int.injEq, Value.long.injEq, Value.ref.injEq, exists_eq_left', mk_I, mk_L, mk_wI, mk_wL, rf_s, rf_n, true_and, and_true, and_self, or_true, true_or, or_false, false_or, not_true_eq_false, not_false_eq_true, Option.toList_some, Option.toList_none, List.cons_append, List.nil_append, List.map_nil, List.map_cons, List.sum_nil, List.sum_cons, cat_i, cat_l, cat_r, cat_n, Nat.reduceLeDiff, Nat.reduceAdd, Nat.reduceEqDiff, Nat.zero_le, p_ent, p_u_ne, p_u_at, reduceIte, if_true, if_false, f0, h0, nn_sub0]
    exact this
  · rw [if_neg (by omega)] at this
    simp -implicitDefEqProofs (disch := first | omega | decide) only [P_m, ↓P_run_eq _ 27 _ (p_bk 27 0), bk_27_0, pb_27_0, ↓P_run_eq _ 27 _ (p_bk 27 1), bk_27_1, pb_27_1, ↓P_run_eq _ 27 _ (p_bk 27 2), bk_27_2, pb_27_2, pw_aload_n1, pw_aloadN_n1, pw_nn, pw_nnN, pw_iconst, il_0, pw_goto, pw_getI, pw_nop, pw_istore_n2, ps_2, pe_2, po_i2, po_r2, po_n2, po_u2, pw_iload_n2, il_1, pw_isub, pw_istore_n3, ps_3, pe_3, po_i3, po_r3, po_n3, po_u3, n_0, n_1, nn_lt, nn_nlt, nn_le, nn_nle, nn_ne, nn_sub, nn_mul, nI_add, nn_neg, nm_eq, mn_eq, mm_eq, mn_lt, nm_lt, mn_le, nm_le, nn_sub0, nn_of, implies_true, nn_c, nn_in, nn_div, nat_rem, Nat.reduceMul, Nat.reduceSub, Nat.reduceDiv, Nat.reduceMod, pf_at, pf_ne, mk_s, mk_1, Classical.not_not, b2i_T, b2i_F, false_imp_iff, true_imp_iff, false_and, and_false, p_sw, Int.reduceAdd, Int.zero_add, Option.some.injEq, Value.int.injEq, Value.long.injEq, Value.ref.injEq, exists_eq_left', mk_I, mk_L, mk_wI, mk_wL, rf_s, rf_n, true_and, and_true, and_self, or_true, true_or, or_false, false_or, not_true_eq_false, not_false_eq_true, Option.toList_some, Option.toList_none, List.cons_append, List.nil_append, List.map_nil, List.map_cons, List.sum_nil, List.sum_cons, cat_i, cat_l, cat_r, cat_n, Nat.reduceLeDiff, Nat.reduceAdd, Nat.reduceEqDiff, Nat.zero_le, p_ent, p_u_ne, p_u_at, reduceIte, if_true, if_false, f0, h0]
    exact this
theorem sp_28 {kd : Nat} {S : Nat → Int32} (hx : lx Ls t a1 a2 a3 a4 a5 a7 a8 m1 m2 I R X CL false) (hkd : kd ≤ 3) : P_m (d + 2) 28 [.ref 45, .ref t, .int (nI kd)] (p_mk Ls (p_fn I 47 S) L R X) (fun v h' => v = some (.int (bI (lawH CL (I 46) kd))) ∧ ∃ S', h' = p_mk Ls (p_fn I 47 S') L R X) := by
  obtain ⟨hF, ⟨n1, n2, n3, n4, n5, n7, n8⟩, q1, q2, q3, q4, q5, hW, htx, hok, hend, h0⟩ := hx
  have f0 := fun I L => (hF I L).1
  have f1 := fun I L => (hF I L).2.1
  have f4 := fun I L => (hF I L).2.2.2.2.1
  have f5 := fun I L => (hF I L).2.2.2.2.2.1
  have g1 := fun I L => (hF I L).2.2.2.2.2.2.2.2.1
  have g4 := fun I L => (hF I L).2.2.2.2.2.2.2.2.2.2.2.1
  have g5 := fun I L => (hF I L).2.2.2.2.2.2.2.2.2.2.2.2.1
  have hV : txV Ls R X t a7 a8 m2 := fun I L => ⟨(hF I L).1, (hF I L).2.2.2.2.2.2.1, (hF I L).2.2.2.2.2.2.2.1, (hF I L).2.2.2.2.2.2.2.2.2.2.2.2.2.1, (hF I L).2.2.2.2.2.2.2.2.2.2.2.2.2.2⟩
  have loop : ∀ j, j ≤ CL.length → ∀ S, P_run (d + 2) 28 (p_bk 28 3) 0 0 [.ref 45, .ref t, .int (nI kd), .int (nI CL.length), .int (nI j)] [] (p_mk Ls (p_fn I 47 S) L R X) (fun v h' => v = some (.int (bI (lawH (CL.drop j) (I 46) kd))) ∧ ∃ S', h' = p_mk Ls (p_fn I 47 S') L R X) := by
    refine down_ind ?_ ?_
    · intro S
      rw [List.drop_length]
      rw [P_run_eq, bk_28_3, pb_28_3]; simp -implicitDefEqProofs (disch := first | omega | decide) only [P_m, ↓P_run_eq _ 28 _ (p_bk 28 5), bk_28_5, pb_28_5, pw_iload_4, pw_iload_n3, pw_cge, pw_aload_n1, pw_aloadN_n1, pw_getR, pw_iald, pw_iload_n2, pw_cne, pw_aload_n0, pw_aloadN_n0, pw_iv4, pw_iconst, il_1, pw_ret1, il_0, kd_45, rf_45_0, rf_45_1, n_0, n_1, nn_lt, nn_nlt, nn_le, nn_nle, nn_ne, nn_sub, nn_mul, nI_add, nn_neg, nm_eq, mn_eq, mm_eq, mn_lt, nm_lt, mn_le, nm_le, nn_sub0, nn_of, implies_true, nn_c, nn_in, nn_div, nat_rem, Nat.reduceMul, Nat.reduceSub, Nat.reduceDiv, Nat.reduceMod, pf_at, pf_ne, mk_s, mk_1, Classical.not_not, b2i_T, b2i_F, false_imp_iff, true_imp_iff, false_and, and_false, p_sw, Int.reduceAdd, Int.zero_add, Option.some.injEq, Value.int.injEq, Value.long.injEq, Value.ref.injEq, exists_eq_left', mk_I, mk_L, mk_wI, mk_wL, rf_s, rf_n, true_and, and_true, and_self, or_true, true_or, or_false, false_or, not_true_eq_false, not_false_eq_true, Option.toList_some, Option.toList_none, List.cons_append, List.nil_append, List.map_nil, List.map_cons, List.sum_nil, List.sum_cons, cat_i, cat_l, cat_r, cat_n, Nat.reduceLeDiff, Nat.reduceAdd, Nat.reduceEqDiff, Nat.zero_le, p_ent, p_u_ne, p_u_at, reduceIte, if_true, if_false]
      exact ⟨rfl, S, rfl⟩
    · intro j hj2 ih S
      obtain ⟨cl, hcl⟩ : ∃ cl, CL[j]? = some cl := ⟨CL[j], List.getElem?_eq_getElem hj2⟩
      obtain ⟨r1, r2, r3, r4, r5⟩ := htx.1 j hj2 cl hcl
      have hcl2 := hok j cl hcl
      have hk3 := hcl2.2.2.1
      obtain ⟨s1, s2, s3⟩ := cl_hold htx hcl
      have ee := hend j cl hcl
      have ed : CL.drop j = cl :: CL.drop (j + 1) := by
        rw [List.drop_eq_getElem_cons hj2]
        rw [List.getElem?_eq_getElem hj2] at hcl
        cases hcl; rfl
      have eh : lawH (CL.drop j) (I 46) kd = (clH (I 46) kd cl || lawH (CL.drop (j + 1)) (I 46) kd) := by
        rw [ed]; rfl
      rw [eh]
      by_cases ck : cl_k cl = kd
      · rw [ck] at r1
        rw [P_run_eq, bk_28_3, pb_28_3]; simp -implicitDefEqProofs (disch := first | omega | decide) only [P_m, pw_iload_4, pw_iload_n3, pw_cge, pw_aload_n1, pw_aloadN_n1, pw_getR, pw_iald, pw_iload_n2, pw_cne, pw_aload_n0, pw_aloadN_n0, pw_iv4, pw_iconst, il_1, pw_ret1, kd_45, rf_45_0, rf_45_1, n_0, n_1, nn_lt, nn_nlt, nn_le, nn_nle, nn_ne, nn_sub, nn_mul, nI_add, nn_neg, nm_eq, mn_eq, mm_eq, mn_lt, nm_lt, mn_le, nm_le, nn_sub0, nn_of, implies_true, nn_c, nn_in, nn_div, nat_rem, Nat.reduceMul, Nat.reduceSub, Nat.reduceDiv, Nat.reduceMod, pf_at, pf_ne, mk_s, mk_1, Classical.not_not, b2i_T, b2i_F, false_imp_iff, true_imp_iff, false_and, and_false, p_sw, Int.reduceAdd, Int.zero_add, Option.some.injEq, Value.int.injEq, Value.long.injEq, Value.ref.injEq, exists_eq_left', mk_I, mk_L, mk_wI, mk_wL, rf_s, rf_n, true_and, and_true, and_self, or_true, true_or, or_false, false_or, not_true_eq_false, not_false_eq_true, Option.toList_some, Option.toList_none, List.cons_append, List.nil_append, List.map_nil, List.map_cons, List.sum_nil, List.sum_cons, cat_i, cat_l, cat_r, cat_n, Nat.reduceLeDiff, Nat.reduceAdd, Nat.reduceEqDiff, Nat.zero_le, p_ent, p_u_ne, p_u_at, reduceIte, if_true, if_false, f0, f1, f4, f5, g1, g4, g5, r1, r4, r5]
        refine P_c (sp_31b (I := I) (b := clB CL j) (cl := cl) (o := false) ⟨hV, n7, n8, by omega, q4, hW⟩ hcl2 rfl s3 rfl) ?_
        rintro _ _ ⟨⟨w, rfl, hw⟩, S1, rfl⟩
        by_cases cg : cl_g cl (I 46) = some true
        · have w1 : w = nI 1 := hw.mpr cg
          subst w1
          have e1 : clH (I 46) kd cl = true := by unfold clH; rw [decide_eq_true ck, decide_eq_true cg]; rfl
          rw [e1]
          simp -implicitDefEqProofs (disch := first | omega | decide) only [P_m, ↓P_run_eq _ 28 _ (p_bk 28 4), bk_28_4, pb_28_4, pw_iload_4, pw_iload_n3, pw_cge, pw_aload_n1, pw_aloadN_n1, pw_getR, pw_iald, pw_iload_n2, pw_cne, pw_aload_n0, pw_aloadN_n0, pw_iv4, pw_iconst, il_1, pw_ret1, pw_iinc_4, po_i4, po_r4, po_n4, po_u4, pw_goto, kd_45, rf_45_0, rf_45_1, n_0, n_1, nn_lt, nn_nlt, nn_le, nn_nle, nn_ne, nn_sub, nn_mul, nI_add, nn_neg, nm_eq, mn_eq, mm_eq, mn_lt, nm_lt, mn_le, nm_le, nn_sub0, nn_of, implies_true, nn_c, nn_in, nn_div, nat_rem, Nat.reduceMul, Nat.reduceSub, Nat.reduceDiv, Nat.reduceMod, pf_at, pf_ne, mk_s, mk_1, Classical.not_not, b2i_T, b2i_F, false_imp_iff, true_imp_iff, false_and, and_false, p_sw, Int.reduceAdd, Int.zero_add, Option.some.injEq, Value.int.injEq, Value.long.injEq, Value.ref.injEq, exists_eq_left', mk_I, mk_L, mk_wI, mk_wL, rf_s, rf_n, true_and, and_true, and_self, or_true, true_or, or_false, false_or, not_true_eq_false, not_false_eq_true, Option.toList_some, Option.toList_none, List.cons_append, List.nil_append, List.map_nil, List.map_cons, List.sum_nil, List.sum_cons, cat_i, cat_l, cat_r, cat_n, Nat.reduceLeDiff, Nat.reduceAdd, Nat.reduceEqDiff, Nat.zero_le, p_ent, p_u_ne, p_u_at, reduceIte, if_true, if_false]
          exact ⟨rfl, S1, rfl⟩
        · have w1 : ¬ w = nI 1 := fun e => cg (hw.mp e)
          have e1 : clH (I 46) kd cl = false := by unfold clH; rw [decide_eq_false cg, Bool.and_false]
          rw [e1, Bool.false_or]
          have i0 := ih S1
          simp -implicitDefEqProofs (disch := first | omega | decide) only [P_m, ↓P_run_eq _ 28 _ (p_bk 28 4), bk_28_4, pb_28_4, pw_iload_4, pw_iload_n3, pw_cge, pw_aload_n1, pw_aloadN_n1, pw_getR, pw_iald, pw_iload_n2, pw_cne, pw_aload_n0, pw_aloadN_n0, pw_iv4, pw_iconst, il_1, pw_ret1, pw_iinc_4, po_i4, po_r4, po_n4, po_u4, pw_goto, n_0, n_1, nn_lt, nn_nlt, nn_le, nn_nle, nn_ne, nn_sub, nn_mul, nI_add, nn_neg, nm_eq, mn_eq, mm_eq, mn_lt, nm_lt, mn_le, nm_le, nn_sub0, nn_of, implies_true, nn_c, nn_in, nn_div, nat_rem, Nat.reduceMul, Nat.reduceSub, Nat.reduceDiv, Nat.reduceMod, pf_at, pf_ne, mk_s, mk_1, Classical.not_not, b2i_T, b2i_F, false_imp_iff, true_imp_iff, false_and, and_false, p_sw, Int.reduceAdd, Int.zero_add, Option.some.injEq, Value.int.injEq, Value.long.injEq, Value.ref.injEq, exists_eq_left', mk_I, mk_L, mk_wI, mk_wL, rf_s, rf_n, true_and, and_true, and_self, or_true, true_or, or_false, false_or, not_true_eq_false, not_false_eq_true, Option.toList_some, Option.toList_none, List.cons_append, List.nil_append, List.map_nil, List.map_cons, List.sum_nil, List.sum_cons, cat_i, cat_l, cat_r, cat_n, Nat.reduceLeDiff, Nat.reduceAdd, Nat.reduceEqDiff, Nat.zero_le, p_ent, p_u_ne, p_u_at, reduceIte, if_true, if_false, w1]
          exact i0
      · have e1 : clH (I 46) kd cl = false := by unfold clH; rw [decide_eq_false ck, Bool.false_and]
        rw [e1, Bool.false_or]
        have i0 := ih S
        rw [P_run_eq, bk_28_3, pb_28_3]; simp -implicitDefEqProofs (disch := first | omega | decide) only [P_m, ↓P_run_eq _ 28 _ (p_bk 28 4), bk_28_4, pb_28_4, pw_iload_4, pw_iload_n3, pw_cge, pw_aload_n1, pw_aloadN_n1, pw_getR, pw_iald, pw_iload_n2, pw_cne, pw_aload_n0, pw_aloadN_n0, pw_iv4, pw_iconst, il_1, pw_ret1, pw_iinc_4, po_i4, po_r4, po_n4, po_u4, pw_goto, kd_45, rf_45_0, rf_45_1, n_0, n_1, nn_lt, nn_nlt, nn_le, nn_nle, nn_ne, nn_sub, nn_mul, nI_add, nn_neg, nm_eq, mn_eq, mm_eq, mn_lt, nm_lt, mn_le, nm_le, nn_sub0, nn_of, implies_true, nn_c, nn_in, nn_div, nat_rem, Nat.reduceMul, Nat.reduceSub, Nat.reduceDiv, Nat.reduceMod, pf_at, pf_ne, mk_s, mk_1, Classical.not_not, b2i_T, b2i_F, false_imp_iff, true_imp_iff, false_and, and_false, p_sw, Int.reduceAdd, Int.zero_add, Option.some.injEq, Value.int.injEq, Value.long.injEq, Value.ref.injEq, exists_eq_left', mk_I, mk_L, mk_wI, mk_wL, rf_s, rf_n, true_and, and_true, and_self, or_true, true_or, or_false, false_or, not_true_eq_false, not_false_eq_true, Option.toList_some, Option.toList_none, List.cons_append, List.nil_append, List.map_nil, List.map_cons, List.sum_nil, List.sum_cons, cat_i, cat_l, cat_r, cat_n, Nat.reduceLeDiff, Nat.reduceAdd, Nat.reduceEqDiff, Nat.zero_le, p_ent, p_u_ne, p_u_at, reduceIte, if_true, if_false, f0, f1, g1, r1]
        exact i0
  have := loop 0 (Nat.zero_le _) S
  rw [List.drop_zero] at this
  simp -implicitDefEqProofs (disch := first | omega | decide) only [P_m, ↓P_run_eq _ 28 _ (p_bk 28 0), bk_28_0, pb_28_0, ↓P_run_eq _ 28 _ (p_bk 28 1), bk_28_1, pb_28_1, ↓P_run_eq _ 28 _ (p_bk 28 2), bk_28_2, pb_28_2, pw_aload_n1, pw_aloadN_n1, pw_nn, pw_nnN, pw_iconst, il_0, pw_goto, pw_getI, pw_nop, pw_istore_n3, ps_3, pe_3, po_i3, po_r3, po_n3, po_u3, pw_istore, ps_4, pe_4, po_i4, po_r4, po_n4, po_u4, n_0, n_1, nn_lt, nn_nlt, nn_le, nn_nle, nn_ne, nn_sub, nn_mul, nI_add, nn_neg, nm_eq, mn_eq, mm_eq, mn_lt, nm_lt, mn_le, nm_le, nn_sub0, nn_of, implies_true, nn_c, nn_in, nn_div, nat_rem, Nat.reduceMul, Nat.reduceSub, Nat.reduceDiv, Nat.reduceMod, pf_at, pf_ne, mk_s, mk_1, Classical.not_not, b2i_T, b2i_F, false_imp_iff, true_imp_iff, false_and, and_false, p_sw, Int.reduceAdd, Int.zero_add, Option.some.injEq, Value.int.injEq, Value.long.injEq, Value.ref.injEq, exists_eq_left', mk_I, mk_L, mk_wI, mk_wL, rf_s, rf_n, true_and, and_true, and_self, or_true, true_or, or_false, false_or, not_true_eq_false, not_false_eq_true, Option.toList_some, Option.toList_none, List.cons_append, List.nil_append, List.map_nil, List.map_cons, List.sum_nil, List.sum_cons, cat_i, cat_l, cat_r, cat_n, Nat.reduceLeDiff, Nat.reduceAdd, Nat.reduceEqDiff, Nat.zero_le, p_ent, p_u_ne, p_u_at, reduceIte, if_true, if_false, f0, h0]
  exact this
theorem sp_27n : P_m d 27 [.ref 45, .null] (p_mk Ls I L R X) (fun v h' => v = some (.int (I 46 1)) ∧ h' = p_mk Ls I L R X) := by
  simp -implicitDefEqProofs (disch := first | omega | decide) only [P_m, ↓P_run_eq _ 27 _ (p_bk 27 0), bk_27_0, pb_27_0, ↓P_run_eq _ 27 _ (p_bk 27 2), bk_27_2, pb_27_2, ↓P_run_eq _ 27 _ (p_bk 27 3), bk_27_3, pb_27_3, ↓P_run_eq _ 27 _ (p_bk 27 8), bk_27_8, pb_27_8, pw_aload_n1, pw_aloadN_n1, pw_nn, pw_nnN, pw_iconst, il_0, pw_goto, pw_istore_n2, ps_2, pe_2, po_i2, po_r2, po_n2, po_u2, pw_iload_n2, il_1, pw_isub, pw_istore_n3, ps_3, pe_3, po_i3, po_r3, po_n3, po_u3, pw_nop, pw_iload_n3, pw_zlt, pw_getR, pw_iald, pw_zne, pw_aload_n0, pw_aloadN_n0, pw_iv4, pw_cne, pw_istore, ps_4, pe_4, po_i4, po_r4, po_n4, po_u4, pw_iload_4, pw_ldc, cn_2, pw_ceq, pw_zge, pw_ret0, kd_45, rf_45_0, rf_45_1, kd_46, n_0, n_1, nn_lt, nn_nlt, nn_le, nn_nle, nn_ne, nn_sub, nn_mul, nI_add, nn_neg, nm_eq, mn_eq, mm_eq, mn_lt, nm_lt, mn_le, nm_le, nn_sub0, nn_of, implies_true, nn_c, nn_in, nn_div, nat_rem, Nat.reduceMul, Nat.reduceSub, Nat.reduceDiv, Nat.reduceMod, pf_at, pf_ne, mk_s, mk_1, Classical.not_not, b2i_T, b2i_F, false_imp_iff, true_imp_iff, false_and, and_false, p_sw, Int.reduceAdd, Int.zero_add, Option.some.injEq, Value.int.injEq, Value.long.injEq, Value.ref.injEq, exists_eq_left', mk_I, mk_L, mk_wI, mk_wL, rf_s, rf_n, true_and, and_true, and_self, or_true, true_or, or_false, false_or, not_true_eq_false, not_false_eq_true, Option.toList_some, Option.toList_none, List.cons_append, List.nil_append, List.map_nil, List.map_cons, List.sum_nil, List.sum_cons, cat_i, cat_l, cat_r, cat_n, Nat.reduceLeDiff, Nat.reduceAdd, Nat.reduceEqDiff, Nat.zero_le, p_ent, p_u_ne, p_u_at, reduceIte, if_true, if_false, nn_sub0]
theorem sp_28n {kd : Int32} : P_m d 28 [.ref 45, .null, .int kd] (p_mk Ls I L R X) (fun v h' => v = some (.int 0) ∧ h' = p_mk Ls I L R X) := by
  simp -implicitDefEqProofs (disch := first | omega | decide) only [P_m, ↓P_run_eq _ 28 _ (p_bk 28 0), bk_28_0, pb_28_0, ↓P_run_eq _ 28 _ (p_bk 28 2), bk_28_2, pb_28_2, ↓P_run_eq _ 28 _ (p_bk 28 3), bk_28_3, pb_28_3, ↓P_run_eq _ 28 _ (p_bk 28 5), bk_28_5, pb_28_5, pw_aload_n1, pw_aloadN_n1, pw_nn, pw_nnN, pw_iconst, il_0, pw_goto, pw_istore_n3, ps_3, pe_3, po_i3, po_r3, po_n3, po_u3, pw_istore, ps_4, pe_4, po_i4, po_r4, po_n4, po_u4, pw_nop, pw_iload_4, pw_iload_n3, pw_cge, pw_getR, pw_iald, pw_iload_n2, pw_cne, pw_aload_n0, pw_aloadN_n0, pw_iv4, il_1, pw_ret1, kd_45, rf_45_0, rf_45_1, n_0, n_1, nn_lt, nn_nlt, nn_le, nn_nle, nn_ne, nn_sub, nn_mul, nI_add, nn_neg, nm_eq, mn_eq, mm_eq, mn_lt, nm_lt, mn_le, nm_le, nn_sub0, nn_of, implies_true, nn_c, nn_in, nn_div, nat_rem, Nat.reduceMul, Nat.reduceSub, Nat.reduceDiv, Nat.reduceMod, pf_at, pf_ne, mk_s, mk_1, Classical.not_not, b2i_T, b2i_F, false_imp_iff, true_imp_iff, false_and, and_false, p_sw, Int.reduceAdd, Int.zero_add, Option.some.injEq, Value.int.injEq, Value.long.injEq, Value.ref.injEq, exists_eq_left', mk_I, mk_L, mk_wI, mk_wL, rf_s, rf_n, true_and, and_true, and_self, or_true, true_or, or_false, false_or, not_true_eq_false, not_false_eq_true, Option.toList_some, Option.toList_none, List.cons_append, List.nil_append, List.map_nil, List.map_cons, List.sum_nil, List.sum_cons, cat_i, cat_l, cat_r, cat_n, Nat.reduceLeDiff, Nat.reduceAdd, Nat.reduceEqDiff, Nat.zero_le, p_ent, p_u_ne, p_u_at, reduceIte, if_true, if_false]
end LW
section LWp
variable {d Ls t a1 a2 a3 a4 a5 a7 a8 m1 m2 : Nat} {I : Nat → Nat → Int32} {L : Nat → Nat → Int64} {R : Nat → Nat → Option Nat} {X : List pKd} {CL : List tCl} {o : Bool}
theorem sp_31sp {N c to nd : Nat} {cs : tCd} {f : tDS} {S : Nat → Int32} (hx : cxp N Ls t a7 a8 m2 to I R X) (hg : CSp N cs f nd) (hnd : nd ≤ 64) (hc : hold (I a7) (I a8) c cs) (ht : c + cs.length = to) : P_m (d + 1) 31 [.ref 49, .ref t, .int (nI c), .int (nI to)] (p_mk Ls (p_fn I 51 S) L R X) (fun v h' => v = some (.int (oI (f (I 50)))) ∧ ∃ S', h' = p_mk Ls (p_fn I 51 S') L R X) := by
  simp -implicitDefEqProofs (disch := first | omega | decide) only [P_m, ↓P_run_eq _ 31 _ (p_bk 31 0), bk_31_0, pb_31_0, pw_iconst, il_0, pw_istore, ps_4, pe_4, po_i4, po_r4, po_n4, po_u4, pw_iload_n2, ps_5, pe_5, po_i5, po_r5, po_n5, po_u5, pw_nop, kd_49, rf_49_0, rf_49_1, n_0, n_1, nn_lt, nn_nlt, nn_le, nn_nle, nn_ne, nn_sub, nn_mul, nI_add, nn_neg, nm_eq, mn_eq, mm_eq, mn_lt, nm_lt, mn_le, nm_le, nn_sub0, nn_of, implies_true, nn_c, nn_in, nn_div, nat_rem, Nat.reduceMul, Nat.reduceSub, Nat.reduceDiv, Nat.reduceMod, pf_at, pf_ne, mk_s, mk_1, Classical.not_not, b2i_T, b2i_F, false_imp_iff, true_imp_iff, false_and, and_false, p_sw, Int.reduceAdd, Int.zero_add, Option.some.injEq, Value.int.injEq, Value.long.injEq, Value.ref.injEq, exists_eq_left', mk_I, mk_L, mk_wI, mk_wL, rf_s, rf_n, true_and, and_true, and_self, or_true, true_or, or_false, false_or, not_true_eq_false, not_false_eq_true, Option.toList_some, Option.toList_none, List.cons_append, List.nil_append, List.map_nil, List.map_cons, List.sum_nil, List.sum_cons, cat_i, cat_l, cat_r, cat_n, Nat.reduceLeDiff, Nat.reduceAdd, Nat.reduceEqDiff, Nat.zero_le, p_ent, p_u_ne, p_u_at, reduceIte, if_true, if_false]
  have hb : to ≤ 400 := Nat.le_trans hx.2.2.2.1 hx.2.2.2.2.1
  refine hg Ls d t a7 a8 m2 c to I L R X _ c 0 S hx hc (by omega) (by omega) (fun v S' e1 _ e2 => ?_) (fun e1 S' => ?_)
  · refine vs_endp (by omega) (by omega) (by omega) ?_
    rw [if_neg (by omega), e1, e2]
    exact ⟨rfl, S', rfl⟩
  · rw [e1]; exact ⟨rfl, S', rfl⟩
/-- what a test tells -/
theorem sp_31bp {c to b : Nat} {cl : tCl} {S : Nat → Int32} (hx : cxp (nw o) Ls t a7 a8 m2 to I R X) (hg : clOk o b cl) (hb : c = b + (cl_s cl).length) (hc : hold (I a7) (I a8) c (cl_b cl)) (ht : c + (cl_b cl).length = to) : P_m (d + 1) 31 [.ref 49, .ref t, .int (nI c), .int (nI to)] (p_mk Ls (p_fn I 51 S) L R X) (fun v h' => (∃ w, v = some (.int w) ∧ (w = 1 ↔ cl_g cl (I 50) = some true)) ∧ ∃ S', h' = p_mk Ls (p_fn I 51 S') L R X) := by
  simp -implicitDefEqProofs (disch := first | omega | decide) only [P_m, ↓P_run_eq _ 31 _ (p_bk 31 0), bk_31_0, pb_31_0, pw_iconst, il_0, pw_istore, ps_4, pe_4, po_i4, po_r4, po_n4, po_u4, pw_iload_n2, ps_5, pe_5, po_i5, po_r5, po_n5, po_u5, pw_nop, kd_49, rf_49_0, rf_49_1, n_0, n_1, nn_lt, nn_nlt, nn_le, nn_nle, nn_ne, nn_sub, nn_mul, nI_add, nn_neg, nm_eq, mn_eq, mm_eq, mn_lt, nm_lt, mn_le, nm_le, nn_sub0, nn_of, implies_true, nn_c, nn_in, nn_div, nat_rem, Nat.reduceMul, Nat.reduceSub, Nat.reduceDiv, Nat.reduceMod, pf_at, pf_ne, mk_s, mk_1, Classical.not_not, b2i_T, b2i_F, false_imp_iff, true_imp_iff, false_and, and_false, p_sw, Int.reduceAdd, Int.zero_add, Option.some.injEq, Value.int.injEq, Value.long.injEq, Value.ref.injEq, exists_eq_left', mk_I, mk_L, mk_wI, mk_wL, rf_s, rf_n, true_and, and_true, and_self, or_true, true_or, or_false, false_or, not_true_eq_false, not_false_eq_true, Option.toList_some, Option.toList_none, List.cons_append, List.nil_append, List.map_nil, List.map_cons, List.sum_nil, List.sum_cons, cat_i, cat_l, cat_r, cat_n, Nat.reduceLeDiff, Nat.reduceAdd, Nat.reduceEqDiff, Nat.zero_le, p_ent, p_u_ne, p_u_at, reduceIte, if_true, if_false]
  have hb9 : to ≤ 400 := Nat.le_trans hx.2.2.2.1 hx.2.2.2.2.1
  rcases hg.2.1 with ⟨g1, g2⟩ | ⟨nd, hnd, -, g1, g2⟩
  · rw [g1, List.length_nil] at ht
    refine vs_endp (by omega) (by omega) (by omega) ⟨⟨_, rfl, ?_⟩, S, rfl⟩
    rw [g2]
    exact ⟨fun _ => rfl, fun _ => rfl⟩
  · subst hb
    refine g2 Ls d t a7 a8 m2 (b + (cl_s cl).length) to I L R X _ 0 S hx hc (by omega) (by omega) (fun v S' e1 _ e2 => ?_) (fun e1 S' => ?_)
    · refine vs_endp (by omega) (by omega) (by omega) ⟨⟨_, rfl, ?_⟩, S', rfl⟩
      rw [if_neg (by omega), e1, e2]
      cases v with
      | true => exact ⟨fun _ => rfl, fun _ => rfl⟩
      | false => exact ⟨fun h => absurd h (by decide), fun h => by cases h⟩
    · refine ⟨⟨_, rfl, ?_⟩, S', rfl⟩
      rw [e1]
      exact ⟨fun h => absurd h (by decide), fun h => by cases h⟩
theorem sp_27p {S : Nat → Int32} (hx : lxp Ls t a1 a2 a3 a4 a5 a7 a8 m1 m2 I R X CL false) (hy : 0 ≤ (I 50 1).toInt ∧ (I 50 1).toInt ≤ 99) : P_m (d + 2) 27 [.ref 49, .ref t] (p_mk Ls (p_fn I 51 S) L R X) (fun v h' => v = some (.int (zI (lawA CL (I 50) (I 50 1).toInt))) ∧ ∃ S', h' = p_mk Ls (p_fn I 51 S') L R X) := by
  obtain ⟨hF, ⟨n1, n2, n3, n4, n5, n7, n8⟩, q1, q2, q3, q4, q5, hW, htx, hok, hend, h0⟩ := hx
  have f0 := fun I L => (hF I L).1
  have f1 := fun I L => (hF I L).2.1
  have f3 := fun I L => (hF I L).2.2.2.1
  have f4 := fun I L => (hF I L).2.2.2.2.1
  have f5 := fun I L => (hF I L).2.2.2.2.2.1
  have g1 := fun I L => (hF I L).2.2.2.2.2.2.2.2.1
  have g3 := fun I L => (hF I L).2.2.2.2.2.2.2.2.2.2.1
  have g4 := fun I L => (hF I L).2.2.2.2.2.2.2.2.2.2.2.1
  have g5 := fun I L => (hF I L).2.2.2.2.2.2.2.2.2.2.2.2.1
  have hV : txV Ls R X t a7 a8 m2 := fun I L => ⟨(hF I L).1, (hF I L).2.2.2.2.2.2.1, (hF I L).2.2.2.2.2.2.2.1, (hF I L).2.2.2.2.2.2.2.2.2.2.2.2.2.1, (hF I L).2.2.2.2.2.2.2.2.2.2.2.2.2.2⟩
  have loop : ∀ j, j ≤ CL.length → ∀ S, P_run (d + 2) 27 (p_bk 27 3) 0 0 [.ref 49, .ref t, .int (nI CL.length), .int (if j = 0 then mI 1 else nI (j - 1))] [] (p_mk Ls (p_fn I 51 S) L R X) (fun v h' => v = some (.int (zI (lawA (CL.take j) (I 50) (I 50 1).toInt))) ∧ ∃ S', h' = p_mk Ls (p_fn I 51 S') L R X) := by
    intro j
    induction j with
    | zero =>
      intro _ S
      have e9 : zI (lawA (CL.take 0) (I 50) (I 50 1).toInt) = I 50 1 := zI_of _
      rw [e9]
      rw [P_run_eq, bk_27_3, pb_27_3]; simp -implicitDefEqProofs (disch := first | omega | decide) only [P_m, ↓P_run_eq _ 27 _ (p_bk 27 8), bk_27_8, pb_27_8, pw_iload_n3, pw_zlt, pw_aload_n1, pw_aloadN_n1, pw_getR, pw_iald, pw_zne, pw_aload_n0, pw_aloadN_n0, pw_iv4, pw_iconst, il_1, pw_cne, pw_istore, ps_4, pe_4, po_i4, po_r4, po_n4, po_u4, pw_iload_4, pw_ldc, cn_2, pw_ceq, pw_zge, il_0, pw_goto, pw_ret0, kd_49, rf_49_0, rf_49_1, kd_50, n_0, n_1, nn_lt, nn_nlt, nn_le, nn_nle, nn_ne, nn_sub, nn_mul, nI_add, nn_neg, nm_eq, mn_eq, mm_eq, mn_lt, nm_lt, mn_le, nm_le, nn_sub0, nn_of, implies_true, nn_c, nn_in, nn_div, nat_rem, Nat.reduceMul, Nat.reduceSub, Nat.reduceDiv, Nat.reduceMod, pf_at, pf_ne, mk_s, mk_1, Classical.not_not, b2i_T, b2i_F, false_imp_iff, true_imp_iff, false_and, and_false, p_sw, Int.reduceAdd, Int.zero_add, Option.some.injEq, Value.int.injEq, Value.long.injEq, Value.ref.injEq, exists_eq_left', mk_I, mk_L, mk_wI, mk_wL, rf_s, rf_n, true_and, and_true, and_self, or_true, true_or, or_false, false_or, not_true_eq_false, not_false_eq_true, Option.toList_some, Option.toList_none, List.cons_append, List.nil_append, List.map_nil, List.map_cons, List.sum_nil, List.sum_cons, cat_i, cat_l, cat_r, cat_n, Nat.reduceLeDiff, Nat.reduceAdd, Nat.reduceEqDiff, Nat.zero_le, p_ent, p_u_ne, p_u_at, reduceIte, if_true, if_false, if_pos]
      exact ⟨S, rfl⟩
    | succ j ih =>
      intro hj S
      have hj2 : j < CL.length := by omega
      obtain ⟨cl, hcl⟩ : ∃ cl, CL[j]? = some cl := ⟨CL[j], List.getElem?_eq_getElem hj2⟩
      obtain ⟨r1, r2, r3, r4, r5⟩ := htx.1 j hj2 cl hcl
      have hcl2 := hok j cl hcl
      obtain ⟨s1, s2, s3⟩ := cl_hold htx hcl
      have ee := hend j cl hcl
      have et : CL.take (j + 1) = CL.take j ++ [cl] := by rw [List.take_succ, hcl]; rfl
      have el : lawA (CL.take (j + 1)) (I 50) (I 50 1).toInt = clA (I 50) cl (lawA (CL.take j) (I 50) (I 50 1).toInt) := by
        rw [et]; unfold lawA; rw [List.foldl_append]; rfl
      rw [el]
      rw [if_neg (by omega), Nat.add_sub_cancel]
      have ihn := ih (by omega)
      have back : ∀ S, P_run (d + 2) 27 (p_bk 27 7) 0 0 [.ref 49, .ref t, .int (nI CL.length), .int (nI j)] [] (p_mk Ls (p_fn I 51 S) L R X) (fun v h' => v = some (.int (zI (lawA (CL.take j) (I 50) (I 50 1).toInt))) ∧ ∃ S', h' = p_mk Ls (p_fn I 51 S') L R X) := by
        intro S
        rcases Nat.eq_zero_or_pos j with rfl | hj0
        · have i0 := ihn S
          simp -implicitDefEqProofs (disch := first | omega | decide) only [P_m, ↓P_run_eq _ 27 _ (p_bk 27 7), bk_27_7, pb_27_7, pw_iinc_3, il_m1, po_i3, po_r3, po_n3, po_u3, pw_goto, n_0, n_1, nn_lt, nn_nlt, nn_le, nn_nle, nn_ne, nn_sub, nn_mul, nI_add, nn_neg, nm_eq, mn_eq, mm_eq, mn_lt, nm_lt, mn_le, nm_le, nn_sub0, nn_of, implies_true, nn_c, nn_in, nn_div, nat_rem, Nat.reduceMul, Nat.reduceSub, Nat.reduceDiv, Nat.reduceMod, pf_at, pf_ne, mk_s, mk_1, Classical.not_not, b2i_T, b2i_F, false_imp_iff, true_imp_iff, false_and, and_false, p_sw, Int.reduceAdd, Int.zero_add, Option.some.injEq, Value.int.injEq, Value.long.injEq, Value.ref.injEq, exists_eq_left', mk_I, mk_L, mk_wI, mk_wL, rf_s, rf_n, true_and, and_true, and_self, or_true, true_or, or_false, false_or, not_true_eq_false, not_false_eq_true, Option.toList_some, Option.toList_none, List.cons_append, List.nil_append, List.map_nil, List.map_cons, List.sum_nil, List.sum_cons, cat_i, cat_l, cat_r, cat_n, Nat.reduceLeDiff, Nat.reduceAdd, Nat.reduceEqDiff, Nat.zero_le, p_ent, p_u_ne, p_u_at, reduceIte, if_true, if_false, n_1, nn_neg, nn_addm0]
          exact i0
        · have i0 := ihn S
          rw [if_neg (by omega)] at i0
          simp -implicitDefEqProofs (disch := first | omega | decide) only [P_m, ↓P_run_eq _ 27 _ (p_bk 27 7), bk_27_7, pb_27_7, pw_iinc_3, il_m1, po_i3, po_r3, po_n3, po_u3, pw_goto, n_0, n_1, nn_lt, nn_nlt, nn_le, nn_nle, nn_ne, nn_sub, nn_mul, nI_add, nn_neg, nm_eq, mn_eq, mm_eq, mn_lt, nm_lt, mn_le, nm_le, nn_sub0, nn_of, implies_true, nn_c, nn_in, nn_div, nat_rem, Nat.reduceMul, Nat.reduceSub, Nat.reduceDiv, Nat.reduceMod, pf_at, pf_ne, mk_s, mk_1, Classical.not_not, b2i_T, b2i_F, false_imp_iff, true_imp_iff, false_and, and_false, p_sw, Int.reduceAdd, Int.zero_add, Option.some.injEq, Value.int.injEq, Value.long.injEq, Value.ref.injEq, exists_eq_left', mk_I, mk_L, mk_wI, mk_wL, rf_s, rf_n, true_and, and_true, and_self, or_true, true_or, or_false, false_or, not_true_eq_false, not_false_eq_true, Option.toList_some, Option.toList_none, List.cons_append, List.nil_append, List.map_nil, List.map_cons, List.sum_nil, List.sum_cons, cat_i, cat_l, cat_r, cat_n, Nat.reduceLeDiff, Nat.reduceAdd, Nat.reduceEqDiff, Nat.zero_le, p_ent, p_u_ne, p_u_at, reduceIte, if_true, if_false, n_1, nn_neg, nn_addm]
          exact i0
      by_cases ck : cl_k cl = 0
      · rw [ck] at r1
        rw [P_run_eq, bk_27_3, pb_27_3]; simp -implicitDefEqProofs (disch := first | omega | decide) only [P_m, pw_iload_n3, pw_zlt, pw_aload_n1, pw_aloadN_n1, pw_getR, pw_iald, pw_zne, pw_aload_n0, pw_aloadN_n0, pw_iv4, pw_iconst, il_1, pw_cne, pw_istore, ps_4, pe_4, po_i4, po_r4, po_n4, po_u4, pw_iload_4, pw_ldc, cn_2, pw_ceq, pw_zge, il_0, pw_goto, kd_49, rf_49_0, rf_49_1, n_0, n_1, nn_lt, nn_nlt, nn_le, nn_nle, nn_ne, nn_sub, nn_mul, nI_add, nn_neg, nm_eq, mn_eq, mm_eq, mn_lt, nm_lt, mn_le, nm_le, nn_sub0, nn_of, implies_true, nn_c, nn_in, nn_div, nat_rem, Nat.reduceMul, Nat.reduceSub, Nat.reduceDiv, Nat.reduceMod, pf_at, pf_ne, mk_s, mk_1, Classical.not_not, b2i_T, b2i_F, false_imp_iff, true_imp_iff, false_and, and_false, p_sw, Int.reduceAdd, Int.zero_add, Option.some.injEq, Value.int.injEq, Value.long.injEq, Value.ref.injEq, exists_eq_left', mk_I, mk_L, mk_wI, mk_wL, rf_s, rf_n, true_and, and_true, and_self, or_true, true_or, or_false, false_or, not_true_eq_false, not_false_eq_true, Option.toList_some, Option.toList_none, List.cons_append, List.nil_append, List.map_nil, List.map_cons, List.sum_nil, List.sum_cons, cat_i, cat_l, cat_r, cat_n, Nat.reduceLeDiff, Nat.reduceAdd, Nat.reduceEqDiff, Nat.zero_le, p_ent, p_u_ne, p_u_at, reduceIte, if_true, if_false, f0, f1, f3, f4, f5, g1, g3, g4, g5, r1, r3, r4, r5]
        refine P_c (sp_31bp (I := I) (b := clB CL j) (cl := cl) (o := false) ⟨hV, n7, n8, by omega, q4, hW⟩ hcl2 rfl s3 rfl) ?_
        rintro _ _ ⟨⟨w, rfl, hw⟩, S1, rfl⟩
        by_cases cg : cl_g cl (I 50) = some true
        · have w1 : w = nI 1 := hw.mpr cg
          subst w1
          rcases hcl2.1 with ⟨-, nd, hnd, gs⟩ | ⟨hs, -, -⟩
          · simp -implicitDefEqProofs (disch := first | omega | decide) only [P_m, ↓P_run_eq _ 27 _ (p_bk 27 7), bk_27_7, pb_27_7, pw_iload_n3, pw_zlt, pw_aload_n1, pw_aloadN_n1, pw_getR, pw_iald, pw_zne, pw_aload_n0, pw_aloadN_n0, pw_iv4, pw_iconst, il_1, pw_cne, pw_istore, ps_4, pe_4, po_i4, po_r4, po_n4, po_u4, pw_iload_4, pw_ldc, cn_2, pw_ceq, pw_zge, il_0, pw_goto, pw_iinc_3, il_m1, po_i3, po_r3, po_n3, po_u3, kd_49, rf_49_0, rf_49_1, n_0, n_1, nn_lt, nn_nlt, nn_le, nn_nle, nn_ne, nn_sub, nn_mul, nI_add, nn_neg, nm_eq, mn_eq, mm_eq, mn_lt, nm_lt, mn_le, nm_le, nn_sub0, nn_of, implies_true, nn_c, nn_in, nn_div, nat_rem, Nat.reduceMul, Nat.reduceSub, Nat.reduceDiv, Nat.reduceMod, pf_at, pf_ne, mk_s, mk_1, Classical.not_not, b2i_T, b2i_F, false_imp_iff, true_imp_iff, false_and, and_false, p_sw, Int.reduceAdd, Int.zero_add, Option.some.injEq, Value.int.injEq, Value.long.injEq, Value.ref.injEq, exists_eq_left', mk_I, mk_L, mk_wI, mk_wL, rf_s, rf_n, true_and, and_true, and_self, or_true, true_or, or_false, false_or, not_true_eq_false, not_false_eq_true, Option.toList_some, Option.toList_none, List.cons_append, List.nil_append, List.map_nil, List.map_cons, List.sum_nil, List.sum_cons, cat_i, cat_l, cat_r, cat_n, Nat.reduceLeDiff, Nat.reduceAdd, Nat.reduceEqDiff, Nat.zero_le, p_ent, p_u_ne, p_u_at, reduceIte, if_true, if_false, f0, f1, f3, f4, f5, g1, g3, g4, g5, r1, r3, r4, r5]
            refine P_c (sp_31sp (I := I) (f := cl_f cl) (cs := cl_s cl) ⟨hV, n7, n8, by omega, q4, hW⟩ ((fun (g : gS _ _ _ _) => g.2.2.2) gs) (by omega) s2 rfl) ?_
            rintro _ _ ⟨rfl, S2, rfl⟩
            have hf := gs.2.1 _ hW
            cases hv : cl_f cl (I 50) with
            | none =>
              have e1 : clA (I 50) cl (lawA (CL.take j) (I 50) (I 50 1).toInt) = lawA (CL.take j) (I 50) (I 50 1).toInt := by
                unfold clA; rw [if_pos ⟨ck, cg⟩, hv]
              rw [e1]
              simp -implicitDefEqProofs (disch := first | omega | decide) only [P_m, pw_iload_n3, pw_zlt, pw_aload_n1, pw_aloadN_n1, pw_getR, pw_iald, pw_zne, pw_aload_n0, pw_aloadN_n0, pw_iv4, pw_iconst, il_1, pw_cne, pw_istore, ps_4, pe_4, po_i4, po_r4, po_n4, po_u4, pw_iload_4, pw_ldc, cn_2, pw_ceq, pw_zge, il_0, pw_goto, n_0, n_1, nn_lt, nn_nlt, nn_le, nn_nle, nn_ne, nn_sub, nn_mul, nI_add, nn_neg, nm_eq, mn_eq, mm_eq, mn_lt, nm_lt, mn_le, nm_le, nn_sub0, nn_of, implies_true, nn_c, nn_in, nn_div, nat_rem, Nat.reduceMul, Nat.reduceSub, Nat.reduceDiv, Nat.reduceMod, pf_at, pf_ne, mk_s, mk_1, Classical.not_not, b2i_T, b2i_F, false_imp_iff, true_imp_iff, false_and, and_false, p_sw, Int.reduceAdd, Int.zero_add, Option.some.injEq, Value.int.injEq, Value.long.injEq, Value.ref.injEq, exists_eq_left', mk_I, mk_L, mk_wI, mk_wL, rf_s, rf_n, true_and, and_true, and_self, or_true, true_or, or_false, false_or, not_true_eq_false, not_false_eq_true, Option.toList_some, Option.toList_none, List.cons_append, List.nil_append, List.map_nil, List.map_cons, List.sum_nil, List.sum_cons, cat_i, cat_l, cat_r, cat_n, Nat.reduceLeDiff, Nat.reduceAdd, Nat.reduceEqDiff, Nat.zero_le, p_ent, p_u_ne, p_u_at, reduceIte, if_true, if_false, oI]
              exact P_ls (back S2) (lsLe_ap _ [_] (by simp only [List.mem_cons, List.not_mem_nil, or_false]; rintro _ rfl; rfl))
            | some v =>
              have hv9 := hf v hv
              unfold inB at hv9
              have nb : ¬ zI v = brk := fun e => by have := (oI_brk (x := some v) (fun w hw => by cases hw; exact hf v hv)).mp e; cases this
              have e1 : clA (I 50) cl (lawA (CL.take j) (I 50) (I 50 1).toInt) = if v < 0 then 0 else if 99 < v then 99 else v := by
                unfold clA; rw [if_pos ⟨ck, cg⟩, hv]
              rw [e1]
              have c0 : (nI 0 ≤ zI v) = (0 ≤ v) := by
                rw [Int32.le_iff_toInt_le, zI_toInt (by omega) (by omega)]; rfl
              have c99 : (zI v ≤ nI 99) = (v ≤ 99) := by
                rw [Int32.le_iff_toInt_le, zI_toInt (by omega) (by omega)]; rfl
              simp -implicitDefEqProofs (disch := first | omega | decide) only [P_m, ↓P_run_eq _ 27 _ (p_bk 27 4), bk_27_4, pb_27_4, ↓P_run_eq _ 27 _ (p_bk 27 5), bk_27_5, pb_27_5, ↓P_run_eq _ 27 _ (p_bk 27 6), bk_27_6, pb_27_6, pw_iload_n3, pw_zlt, pw_aload_n1, pw_aloadN_n1, pw_getR, pw_iald, pw_zne, pw_aload_n0, pw_aloadN_n0, pw_iv4, pw_iconst, il_1, pw_cne, pw_istore, ps_4, pe_4, po_i4, po_r4, po_n4, po_u4, pw_iload_4, pw_ldc, cn_2, pw_ceq, pw_zge, il_0, pw_goto, pw_bipush, bl_99, pw_cle, pw_nop, pw_ret0, n_0, n_1, n_99, nn_lt, nn_nlt, nn_le, nn_nle, nn_ne, nn_sub, nn_mul, nI_add, nn_neg, nm_eq, mn_eq, mm_eq, mn_lt, nm_lt, mn_le, nm_le, nn_sub0, nn_of, implies_true, nn_c, nn_in, nn_div, nat_rem, Nat.reduceMul, Nat.reduceSub, Nat.reduceDiv, Nat.reduceMod, pf_at, pf_ne, mk_s, mk_1, Classical.not_not, b2i_T, b2i_F, false_imp_iff, true_imp_iff, false_and, and_false, p_sw, Int.reduceAdd, Int.zero_add, Option.some.injEq, Value.int.injEq, Value.long.injEq, Value.ref.injEq, exists_eq_left', mk_I, mk_L, mk_wI, mk_wL, rf_s, rf_n, true_and, and_true, and_self, or_true, true_or, or_false, false_or, not_true_eq_false, not_false_eq_true, Option.toList_some, Option.toList_none, List.cons_append, List.nil_append, List.map_nil, List.map_cons, List.sum_nil, List.sum_cons, cat_i, cat_l, cat_r, cat_n, Nat.reduceLeDiff, Nat.reduceAdd, Nat.reduceEqDiff, Nat.zero_le, p_ent, p_u_ne, p_u_at, reduceIte, if_true, if_false, oI, nb, c0, c99]
              refine ⟨fun z => ⟨fun z2 => ?_, fun z2 => ?_⟩, fun z => ?_⟩
              · rw [if_neg (by omega), if_neg (by omega)]; exact ⟨rfl, S2, rfl⟩
              · rw [if_neg (by omega), if_pos (by omega)]; exact ⟨rfl, S2, rfl⟩
              · rw [if_pos (by omega)]; exact ⟨rfl, S2, rfl⟩
          · unfold hasS at hs; rw [ck] at hs; cases hs
        · have w1 : ¬ w = nI 1 := fun e => cg (hw.mp e)
          have e1 : clA (I 50) cl (lawA (CL.take j) (I 50) (I 50 1).toInt) = lawA (CL.take j) (I 50) (I 50 1).toInt := by
            unfold clA; rw [if_neg (fun e => cg e.2)]
          rw [e1]
          simp -implicitDefEqProofs (disch := first | omega | decide) only [P_m, pw_iload_n3, pw_zlt, pw_aload_n1, pw_aloadN_n1, pw_getR, pw_iald, pw_zne, pw_aload_n0, pw_aloadN_n0, pw_iv4, pw_iconst, il_1, pw_cne, pw_istore, ps_4, pe_4, po_i4, po_r4, po_n4, po_u4, pw_iload_4, pw_ldc, cn_2, pw_ceq, pw_zge, il_0, pw_goto, n_0, n_1, nn_lt, nn_nlt, nn_le, nn_nle, nn_ne, nn_sub, nn_mul, nI_add, nn_neg, nm_eq, mn_eq, mm_eq, mn_lt, nm_lt, mn_le, nm_le, nn_sub0, nn_of, implies_true, nn_c, nn_in, nn_div, nat_rem, Nat.reduceMul, Nat.reduceSub, Nat.reduceDiv, Nat.reduceMod, pf_at, pf_ne, mk_s, mk_1, Classical.not_not, b2i_T, b2i_F, false_imp_iff, true_imp_iff, false_and, and_false, p_sw, Int.reduceAdd, Int.zero_add, Option.some.injEq, Value.int.injEq, Value.long.injEq, Value.ref.injEq, exists_eq_left', mk_I, mk_L, mk_wI, mk_wL, rf_s, rf_n, true_and, and_true, and_self, or_true, true_or, or_false, false_or, not_true_eq_false, not_false_eq_true, Option.toList_some, Option.toList_none, List.cons_append, List.nil_append, List.map_nil, List.map_cons, List.sum_nil, List.sum_cons, cat_i, cat_l, cat_r, cat_n, Nat.reduceLeDiff, Nat.reduceAdd, Nat.reduceEqDiff, Nat.zero_le, p_ent, p_u_ne, p_u_at, reduceIte, if_true, if_false, w1]
          exact back S1
      · have hk3 := hcl2.2.2.1
        have e1 : clA (I 50) cl (lawA (CL.take j) (I 50) (I 50 1).toInt) = lawA (CL.take j) (I 50) (I 50 1).toInt := by
          unfold clA; rw [if_neg (fun e => ck e.1)]
        rw [e1]
        rw [P_run_eq, bk_27_3, pb_27_3]; simp -implicitDefEqProofs (disch := first | omega | decide) only [P_m, pw_iload_n3, pw_zlt, pw_aload_n1, pw_aloadN_n1, pw_getR, pw_iald, pw_zne, pw_aload_n0, pw_aloadN_n0, pw_iv4, pw_iconst, il_1, pw_cne, pw_istore, ps_4, pe_4, po_i4, po_r4, po_n4, po_u4, pw_iload_4, pw_ldc, cn_2, pw_ceq, pw_zge, il_0, pw_goto, kd_49, rf_49_0, rf_49_1, n_0, n_1, nn_lt, nn_nlt, nn_le, nn_nle, nn_ne, nn_sub, nn_mul, nI_add, nn_neg, nm_eq, mn_eq, mm_eq, mn_lt, nm_lt, mn_le, nm_le, nn_sub0, nn_of, implies_true, nn_c, nn_in, nn_div, nat_rem, Nat.reduceMul, Nat.reduceSub, Nat.reduceDiv, Nat.reduceMod, pf_at, pf_ne, mk_s, mk_1, Classical.not_not, b2i_T, b2i_F, false_imp_iff, true_imp_iff, false_and, and_false, p_sw, Int.reduceAdd, Int.zero_add, Option.some.injEq, Value.int.injEq, Value.long.injEq, Value.ref.injEq, exists_eq_left', mk_I, mk_L, mk_wI, mk_wL, rf_s, rf_n, true_and, and_true, and_self, or_true, true_or, or_false, false_or, not_true_eq_false, not_false_eq_true, Option.toList_some, Option.toList_none, List.cons_append, List.nil_append, List.map_nil, List.map_cons, List.sum_nil, List.sum_cons, cat_i, cat_l, cat_r, cat_n, Nat.reduceLeDiff, Nat.reduceAdd, Nat.reduceEqDiff, Nat.zero_le, p_ent, p_u_ne, p_u_at, reduceIte, if_true, if_false, f0, f1, g1, r1]
        exact back S
  have := loop CL.length (Nat.le_refl _) S
  rw [List.take_length] at this
  rcases Nat.eq_zero_or_pos CL.length with e9 | e9
  · rw [e9, if_pos rfl] at this
    rw [e9] at h0
    simp -implicitDefEqProofs (disch := first | omega | decide) only [P_m, ↓P_run_eq _ 27 _ (p_bk 27 0), bk_27_0, pb_27_0, ↓P_run_eq _ 27 _ (p_bk 27 1), bk_27_1, pb_27_1, ↓P_run_eq _ 27 _ (p_bk 27 2), bk_27_2, pb_27_2, pw_aload_n1, pw_aloadN_n1, pw_nn, pw_nnN, pw_iconst, il_0, pw_goto, pw_getI, pw_nop, pw_istore_n2, ps_2, pe_2, po_i2, po_r2, po_n2, po_u2, pw_iload_n2, il_1, pw_isub, pw_istore_n3, ps_3, pe_3, po_i3, po_r3, po_n3, po_u3, n_0, n_1, nn_lt, nn_nlt, nn_le, nn_nle, nn_ne, nn_sub, nn_mul, nI_add, nn_neg, nm_eq, mn_eq, mm_eq, mn_lt, nm_lt, mn_le, nm_le, nn_sub0, nn_of, implies_true, nn_c, nn_in, nn_div, nat_rem, Nat.reduceMul, Nat.reduceSub, Nat.reduceDiv, Nat.reduceMod, pf_at, pf_ne, mk_s, mk_1, Classical.not_not, b2i_T, b2i_F, false_imp_iff, true_imp_iff, false_and, and_false, p_sw, Int.reduceAdd, Int.zero_add, Option.some.injEq, Value.int.injEq, Value.long.injEq, Value.ref.injEq, exists_eq_left', mk_I, mk_L, mk_wI, mk_wL, rf_s, rf_n, true_and, and_true, and_self, or_true, true_or, or_false, false_or, not_true_eq_false, not_false_eq_true, Option.toList_some, Option.toList_none, List.cons_append, List.nil_append, List.map_nil, List.map_cons, List.sum_nil, List.sum_cons, cat_i, cat_l, cat_r, cat_n, Nat.reduceLeDiff, Nat.reduceAdd, Nat.reduceEqDiff, Nat.zero_le, p_ent, p_u_ne, p_u_at, reduceIte, if_true, if_false, f0, h0, nn_sub0]
    exact this
  · rw [if_neg (by omega)] at this
    simp -implicitDefEqProofs (disch := first | omega | decide) only [P_m, ↓P_run_eq _ 27 _ (p_bk 27 0), bk_27_0, pb_27_0, ↓P_run_eq _ 27 _ (p_bk 27 1), bk_27_1, pb_27_1, ↓P_run_eq _ 27 _ (p_bk 27 2), bk_27_2, pb_27_2, pw_aload_n1, pw_aloadN_n1, pw_nn, pw_nnN, pw_iconst, il_0, pw_goto, pw_getI, pw_nop, pw_istore_n2, ps_2, pe_2, po_i2, po_r2, po_n2, po_u2, pw_iload_n2, il_1, pw_isub, pw_istore_n3, ps_3, pe_3, po_i3, po_r3, po_n3, po_u3, n_0, n_1, nn_lt, nn_nlt, nn_le, nn_nle, nn_ne, nn_sub, nn_mul, nI_add, nn_neg, nm_eq, mn_eq, mm_eq, mn_lt, nm_lt, mn_le, nm_le, nn_sub0, nn_of, implies_true, nn_c, nn_in, nn_div, nat_rem, Nat.reduceMul, Nat.reduceSub, Nat.reduceDiv, Nat.reduceMod, pf_at, pf_ne, mk_s, mk_1, Classical.not_not, b2i_T, b2i_F, false_imp_iff, true_imp_iff, false_and, and_false, p_sw, Int.reduceAdd, Int.zero_add, Option.some.injEq, Value.int.injEq, Value.long.injEq, Value.ref.injEq, exists_eq_left', mk_I, mk_L, mk_wI, mk_wL, rf_s, rf_n, true_and, and_true, and_self, or_true, true_or, or_false, false_or, not_true_eq_false, not_false_eq_true, Option.toList_some, Option.toList_none, List.cons_append, List.nil_append, List.map_nil, List.map_cons, List.sum_nil, List.sum_cons, cat_i, cat_l, cat_r, cat_n, Nat.reduceLeDiff, Nat.reduceAdd, Nat.reduceEqDiff, Nat.zero_le, p_ent, p_u_ne, p_u_at, reduceIte, if_true, if_false, f0, h0]
    exact this
theorem sp_28p {kd : Nat} {S : Nat → Int32} (hx : lxp Ls t a1 a2 a3 a4 a5 a7 a8 m1 m2 I R X CL false) (hkd : kd ≤ 3) : P_m (d + 2) 28 [.ref 49, .ref t, .int (nI kd)] (p_mk Ls (p_fn I 51 S) L R X) (fun v h' => v = some (.int (bI (lawH CL (I 50) kd))) ∧ ∃ S', h' = p_mk Ls (p_fn I 51 S') L R X) := by
  obtain ⟨hF, ⟨n1, n2, n3, n4, n5, n7, n8⟩, q1, q2, q3, q4, q5, hW, htx, hok, hend, h0⟩ := hx
  have f0 := fun I L => (hF I L).1
  have f1 := fun I L => (hF I L).2.1
  have f4 := fun I L => (hF I L).2.2.2.2.1
  have f5 := fun I L => (hF I L).2.2.2.2.2.1
  have g1 := fun I L => (hF I L).2.2.2.2.2.2.2.2.1
  have g4 := fun I L => (hF I L).2.2.2.2.2.2.2.2.2.2.2.1
  have g5 := fun I L => (hF I L).2.2.2.2.2.2.2.2.2.2.2.2.1
  have hV : txV Ls R X t a7 a8 m2 := fun I L => ⟨(hF I L).1, (hF I L).2.2.2.2.2.2.1, (hF I L).2.2.2.2.2.2.2.1, (hF I L).2.2.2.2.2.2.2.2.2.2.2.2.2.1, (hF I L).2.2.2.2.2.2.2.2.2.2.2.2.2.2⟩
  have loop : ∀ j, j ≤ CL.length → ∀ S, P_run (d + 2) 28 (p_bk 28 3) 0 0 [.ref 49, .ref t, .int (nI kd), .int (nI CL.length), .int (nI j)] [] (p_mk Ls (p_fn I 51 S) L R X) (fun v h' => v = some (.int (bI (lawH (CL.drop j) (I 50) kd))) ∧ ∃ S', h' = p_mk Ls (p_fn I 51 S') L R X) := by
    refine down_ind ?_ ?_
    · intro S
      rw [List.drop_length]
      rw [P_run_eq, bk_28_3, pb_28_3]; simp -implicitDefEqProofs (disch := first | omega | decide) only [P_m, ↓P_run_eq _ 28 _ (p_bk 28 5), bk_28_5, pb_28_5, pw_iload_4, pw_iload_n3, pw_cge, pw_aload_n1, pw_aloadN_n1, pw_getR, pw_iald, pw_iload_n2, pw_cne, pw_aload_n0, pw_aloadN_n0, pw_iv4, pw_iconst, il_1, pw_ret1, il_0, kd_49, rf_49_0, rf_49_1, n_0, n_1, nn_lt, nn_nlt, nn_le, nn_nle, nn_ne, nn_sub, nn_mul, nI_add, nn_neg, nm_eq, mn_eq, mm_eq, mn_lt, nm_lt, mn_le, nm_le, nn_sub0, nn_of, implies_true, nn_c, nn_in, nn_div, nat_rem, Nat.reduceMul, Nat.reduceSub, Nat.reduceDiv, Nat.reduceMod, pf_at, pf_ne, mk_s, mk_1, Classical.not_not, b2i_T, b2i_F, false_imp_iff, true_imp_iff, false_and, and_false, p_sw, Int.reduceAdd, Int.zero_add, Option.some.injEq, Value.int.injEq, Value.long.injEq, Value.ref.injEq, exists_eq_left', mk_I, mk_L, mk_wI, mk_wL, rf_s, rf_n, true_and, and_true, and_self, or_true, true_or, or_false, false_or, not_true_eq_false, not_false_eq_true, Option.toList_some, Option.toList_none, List.cons_append, List.nil_append, List.map_nil, List.map_cons, List.sum_nil, List.sum_cons, cat_i, cat_l, cat_r, cat_n, Nat.reduceLeDiff, Nat.reduceAdd, Nat.reduceEqDiff, Nat.zero_le, p_ent, p_u_ne, p_u_at, reduceIte, if_true, if_false]
      exact ⟨rfl, S, rfl⟩
    · intro j hj2 ih S
      obtain ⟨cl, hcl⟩ : ∃ cl, CL[j]? = some cl := ⟨CL[j], List.getElem?_eq_getElem hj2⟩
      obtain ⟨r1, r2, r3, r4, r5⟩ := htx.1 j hj2 cl hcl
      have hcl2 := hok j cl hcl
      have hk3 := hcl2.2.2.1
      obtain ⟨s1, s2, s3⟩ := cl_hold htx hcl
      have ee := hend j cl hcl
      have ed : CL.drop j = cl :: CL.drop (j + 1) := by
        rw [List.drop_eq_getElem_cons hj2]
        rw [List.getElem?_eq_getElem hj2] at hcl
        cases hcl; rfl
      have eh : lawH (CL.drop j) (I 50) kd = (clH (I 50) kd cl || lawH (CL.drop (j + 1)) (I 50) kd) := by
        rw [ed]; rfl
      rw [eh]
      by_cases ck : cl_k cl = kd
      · rw [ck] at r1
        rw [P_run_eq, bk_28_3, pb_28_3]; simp -implicitDefEqProofs (disch := first | omega | decide) only [P_m, pw_iload_4, pw_iload_n3, pw_cge, pw_aload_n1, pw_aloadN_n1, pw_getR, pw_iald, pw_iload_n2, pw_cne, pw_aload_n0, pw_aloadN_n0, pw_iv4, pw_iconst, il_1, pw_ret1, kd_49, rf_49_0, rf_49_1, n_0, n_1, nn_lt, nn_nlt, nn_le, nn_nle, nn_ne, nn_sub, nn_mul, nI_add, nn_neg, nm_eq, mn_eq, mm_eq, mn_lt, nm_lt, mn_le, nm_le, nn_sub0, nn_of, implies_true, nn_c, nn_in, nn_div, nat_rem, Nat.reduceMul, Nat.reduceSub, Nat.reduceDiv, Nat.reduceMod, pf_at, pf_ne, mk_s, mk_1, Classical.not_not, b2i_T, b2i_F, false_imp_iff, true_imp_iff, false_and, and_false, p_sw, Int.reduceAdd, Int.zero_add, Option.some.injEq, Value.int.injEq, Value.long.injEq, Value.ref.injEq, exists_eq_left', mk_I, mk_L, mk_wI, mk_wL, rf_s, rf_n, true_and, and_true, and_self, or_true, true_or, or_false, false_or, not_true_eq_false, not_false_eq_true, Option.toList_some, Option.toList_none, List.cons_append, List.nil_append, List.map_nil, List.map_cons, List.sum_nil, List.sum_cons, cat_i, cat_l, cat_r, cat_n, Nat.reduceLeDiff, Nat.reduceAdd, Nat.reduceEqDiff, Nat.zero_le, p_ent, p_u_ne, p_u_at, reduceIte, if_true, if_false, f0, f1, f4, f5, g1, g4, g5, r1, r4, r5]
        refine P_c (sp_31bp (I := I) (b := clB CL j) (cl := cl) (o := false) ⟨hV, n7, n8, by omega, q4, hW⟩ hcl2 rfl s3 rfl) ?_
        rintro _ _ ⟨⟨w, rfl, hw⟩, S1, rfl⟩
        by_cases cg : cl_g cl (I 50) = some true
        · have w1 : w = nI 1 := hw.mpr cg
          subst w1
          have e1 : clH (I 50) kd cl = true := by unfold clH; rw [decide_eq_true ck, decide_eq_true cg]; rfl
          rw [e1]
          simp -implicitDefEqProofs (disch := first | omega | decide) only [P_m, ↓P_run_eq _ 28 _ (p_bk 28 4), bk_28_4, pb_28_4, pw_iload_4, pw_iload_n3, pw_cge, pw_aload_n1, pw_aloadN_n1, pw_getR, pw_iald, pw_iload_n2, pw_cne, pw_aload_n0, pw_aloadN_n0, pw_iv4, pw_iconst, il_1, pw_ret1, pw_iinc_4, po_i4, po_r4, po_n4, po_u4, pw_goto, kd_49, rf_49_0, rf_49_1, n_0, n_1, nn_lt, nn_nlt, nn_le, nn_nle, nn_ne, nn_sub, nn_mul, nI_add, nn_neg, nm_eq, mn_eq, mm_eq, mn_lt, nm_lt, mn_le, nm_le, nn_sub0, nn_of, implies_true, nn_c, nn_in, nn_div, nat_rem, Nat.reduceMul, Nat.reduceSub, Nat.reduceDiv, Nat.reduceMod, pf_at, pf_ne, mk_s, mk_1, Classical.not_not, b2i_T, b2i_F, false_imp_iff, true_imp_iff, false_and, and_false, p_sw, Int.reduceAdd, Int.zero_add, Option.some.injEq, Value.int.injEq, Value.long.injEq, Value.ref.injEq, exists_eq_left', mk_I, mk_L, mk_wI, mk_wL, rf_s, rf_n, true_and, and_true, and_self, or_true, true_or, or_false, false_or, not_true_eq_false, not_false_eq_true, Option.toList_some, Option.toList_none, List.cons_append, List.nil_append, List.map_nil, List.map_cons, List.sum_nil, List.sum_cons, cat_i, cat_l, cat_r, cat_n, Nat.reduceLeDiff, Nat.reduceAdd, Nat.reduceEqDiff, Nat.zero_le, p_ent, p_u_ne, p_u_at, reduceIte, if_true, if_false]
          exact ⟨rfl, S1, rfl⟩
        · have w1 : ¬ w = nI 1 := fun e => cg (hw.mp e)
          have e1 : clH (I 50) kd cl = false := by unfold clH; rw [decide_eq_false cg, Bool.and_false]
          rw [e1, Bool.false_or]
          have i0 := ih S1
          simp -implicitDefEqProofs (disch := first | omega | decide) only [P_m, ↓P_run_eq _ 28 _ (p_bk 28 4), bk_28_4, pb_28_4, pw_iload_4, pw_iload_n3, pw_cge, pw_aload_n1, pw_aloadN_n1, pw_getR, pw_iald, pw_iload_n2, pw_cne, pw_aload_n0, pw_aloadN_n0, pw_iv4, pw_iconst, il_1, pw_ret1, pw_iinc_4, po_i4, po_r4, po_n4, po_u4, pw_goto, n_0, n_1, nn_lt, nn_nlt, nn_le, nn_nle, nn_ne, nn_sub, nn_mul, nI_add, nn_neg, nm_eq, mn_eq, mm_eq, mn_lt, nm_lt, mn_le, nm_le, nn_sub0, nn_of, implies_true, nn_c, nn_in, nn_div, nat_rem, Nat.reduceMul, Nat.reduceSub, Nat.reduceDiv, Nat.reduceMod, pf_at, pf_ne, mk_s, mk_1, Classical.not_not, b2i_T, b2i_F, false_imp_iff, true_imp_iff, false_and, and_false, p_sw, Int.reduceAdd, Int.zero_add, Option.some.injEq, Value.int.injEq, Value.long.injEq, Value.ref.injEq, exists_eq_left', mk_I, mk_L, mk_wI, mk_wL, rf_s, rf_n, true_and, and_true, and_self, or_true, true_or, or_false, false_or, not_true_eq_false, not_false_eq_true, Option.toList_some, Option.toList_none, List.cons_append, List.nil_append, List.map_nil, List.map_cons, List.sum_nil, List.sum_cons, cat_i, cat_l, cat_r, cat_n, Nat.reduceLeDiff, Nat.reduceAdd, Nat.reduceEqDiff, Nat.zero_le, p_ent, p_u_ne, p_u_at, reduceIte, if_true, if_false, w1]
          exact i0
      · have e1 : clH (I 50) kd cl = false := by unfold clH; rw [decide_eq_false ck, Bool.false_and]
        rw [e1, Bool.false_or]
        have i0 := ih S
        rw [P_run_eq, bk_28_3, pb_28_3]; simp -implicitDefEqProofs (disch := first | omega | decide) only [P_m, ↓P_run_eq _ 28 _ (p_bk 28 4), bk_28_4, pb_28_4, pw_iload_4, pw_iload_n3, pw_cge, pw_aload_n1, pw_aloadN_n1, pw_getR, pw_iald, pw_iload_n2, pw_cne, pw_aload_n0, pw_aloadN_n0, pw_iv4, pw_iconst, il_1, pw_ret1, pw_iinc_4, po_i4, po_r4, po_n4, po_u4, pw_goto, kd_49, rf_49_0, rf_49_1, n_0, n_1, nn_lt, nn_nlt, nn_le, nn_nle, nn_ne, nn_sub, nn_mul, nI_add, nn_neg, nm_eq, mn_eq, mm_eq, mn_lt, nm_lt, mn_le, nm_le, nn_sub0, nn_of, implies_true, nn_c, nn_in, nn_div, nat_rem, Nat.reduceMul, Nat.reduceSub, Nat.reduceDiv, Nat.reduceMod, pf_at, pf_ne, mk_s, mk_1, Classical.not_not, b2i_T, b2i_F, false_imp_iff, true_imp_iff, false_and, and_false, p_sw, Int.reduceAdd, Int.zero_add, Option.some.injEq, Value.int.injEq, Value.long.injEq, Value.ref.injEq, exists_eq_left', mk_I, mk_L, mk_wI, mk_wL, rf_s, rf_n, true_and, and_true, and_self, or_true, true_or, or_false, false_or, not_true_eq_false, not_false_eq_true, Option.toList_some, Option.toList_none, List.cons_append, List.nil_append, List.map_nil, List.map_cons, List.sum_nil, List.sum_cons, cat_i, cat_l, cat_r, cat_n, Nat.reduceLeDiff, Nat.reduceAdd, Nat.reduceEqDiff, Nat.zero_le, p_ent, p_u_ne, p_u_at, reduceIte, if_true, if_false, f0, f1, g1, r1]
        exact i0
  have := loop 0 (Nat.zero_le _) S
  rw [List.drop_zero] at this
  simp -implicitDefEqProofs (disch := first | omega | decide) only [P_m, ↓P_run_eq _ 28 _ (p_bk 28 0), bk_28_0, pb_28_0, ↓P_run_eq _ 28 _ (p_bk 28 1), bk_28_1, pb_28_1, ↓P_run_eq _ 28 _ (p_bk 28 2), bk_28_2, pb_28_2, pw_aload_n1, pw_aloadN_n1, pw_nn, pw_nnN, pw_iconst, il_0, pw_goto, pw_getI, pw_nop, pw_istore_n3, ps_3, pe_3, po_i3, po_r3, po_n3, po_u3, pw_istore, ps_4, pe_4, po_i4, po_r4, po_n4, po_u4, n_0, n_1, nn_lt, nn_nlt, nn_le, nn_nle, nn_ne, nn_sub, nn_mul, nI_add, nn_neg, nm_eq, mn_eq, mm_eq, mn_lt, nm_lt, mn_le, nm_le, nn_sub0, nn_of, implies_true, nn_c, nn_in, nn_div, nat_rem, Nat.reduceMul, Nat.reduceSub, Nat.reduceDiv, Nat.reduceMod, pf_at, pf_ne, mk_s, mk_1, Classical.not_not, b2i_T, b2i_F, false_imp_iff, true_imp_iff, false_and, and_false, p_sw, Int.reduceAdd, Int.zero_add, Option.some.injEq, Value.int.injEq, Value.long.injEq, Value.ref.injEq, exists_eq_left', mk_I, mk_L, mk_wI, mk_wL, rf_s, rf_n, true_and, and_true, and_self, or_true, true_or, or_false, false_or, not_true_eq_false, not_false_eq_true, Option.toList_some, Option.toList_none, List.cons_append, List.nil_append, List.map_nil, List.map_cons, List.sum_nil, List.sum_cons, cat_i, cat_l, cat_r, cat_n, Nat.reduceLeDiff, Nat.reduceAdd, Nat.reduceEqDiff, Nat.zero_le, p_ent, p_u_ne, p_u_at, reduceIte, if_true, if_false, f0, h0]
  exact this
theorem sp_27np : P_m d 27 [.ref 49, .null] (p_mk Ls I L R X) (fun v h' => v = some (.int (I 50 1)) ∧ h' = p_mk Ls I L R X) := by
  simp -implicitDefEqProofs (disch := first | omega | decide) only [P_m, ↓P_run_eq _ 27 _ (p_bk 27 0), bk_27_0, pb_27_0, ↓P_run_eq _ 27 _ (p_bk 27 2), bk_27_2, pb_27_2, ↓P_run_eq _ 27 _ (p_bk 27 3), bk_27_3, pb_27_3, ↓P_run_eq _ 27 _ (p_bk 27 8), bk_27_8, pb_27_8, pw_aload_n1, pw_aloadN_n1, pw_nn, pw_nnN, pw_iconst, il_0, pw_goto, pw_istore_n2, ps_2, pe_2, po_i2, po_r2, po_n2, po_u2, pw_iload_n2, il_1, pw_isub, pw_istore_n3, ps_3, pe_3, po_i3, po_r3, po_n3, po_u3, pw_nop, pw_iload_n3, pw_zlt, pw_getR, pw_iald, pw_zne, pw_aload_n0, pw_aloadN_n0, pw_iv4, pw_cne, pw_istore, ps_4, pe_4, po_i4, po_r4, po_n4, po_u4, pw_iload_4, pw_ldc, cn_2, pw_ceq, pw_zge, pw_ret0, kd_49, rf_49_0, rf_49_1, kd_50, n_0, n_1, nn_lt, nn_nlt, nn_le, nn_nle, nn_ne, nn_sub, nn_mul, nI_add, nn_neg, nm_eq, mn_eq, mm_eq, mn_lt, nm_lt, mn_le, nm_le, nn_sub0, nn_of, implies_true, nn_c, nn_in, nn_div, nat_rem, Nat.reduceMul, Nat.reduceSub, Nat.reduceDiv, Nat.reduceMod, pf_at, pf_ne, mk_s, mk_1, Classical.not_not, b2i_T, b2i_F, false_imp_iff, true_imp_iff, false_and, and_false, p_sw, Int.reduceAdd, Int.zero_add, Option.some.injEq, Value.int.injEq, Value.long.injEq, Value.ref.injEq, exists_eq_left', mk_I, mk_L, mk_wI, mk_wL, rf_s, rf_n, true_and, and_true, and_self, or_true, true_or, or_false, false_or, not_true_eq_false, not_false_eq_true, Option.toList_some, Option.toList_none, List.cons_append, List.nil_append, List.map_nil, List.map_cons, List.sum_nil, List.sum_cons, cat_i, cat_l, cat_r, cat_n, Nat.reduceLeDiff, Nat.reduceAdd, Nat.reduceEqDiff, Nat.zero_le, p_ent, p_u_ne, p_u_at, reduceIte, if_true, if_false, nn_sub0]
theorem sp_28np {kd : Int32} : P_m d 28 [.ref 49, .null, .int kd] (p_mk Ls I L R X) (fun v h' => v = some (.int 0) ∧ h' = p_mk Ls I L R X) := by
  simp -implicitDefEqProofs (disch := first | omega | decide) only [P_m, ↓P_run_eq _ 28 _ (p_bk 28 0), bk_28_0, pb_28_0, ↓P_run_eq _ 28 _ (p_bk 28 2), bk_28_2, pb_28_2, ↓P_run_eq _ 28 _ (p_bk 28 3), bk_28_3, pb_28_3, ↓P_run_eq _ 28 _ (p_bk 28 5), bk_28_5, pb_28_5, pw_aload_n1, pw_aloadN_n1, pw_nn, pw_nnN, pw_iconst, il_0, pw_goto, pw_istore_n3, ps_3, pe_3, po_i3, po_r3, po_n3, po_u3, pw_istore, ps_4, pe_4, po_i4, po_r4, po_n4, po_u4, pw_nop, pw_iload_4, pw_iload_n3, pw_cge, pw_getR, pw_iald, pw_iload_n2, pw_cne, pw_aload_n0, pw_aloadN_n0, pw_iv4, il_1, pw_ret1, kd_49, rf_49_0, rf_49_1, n_0, n_1, nn_lt, nn_nlt, nn_le, nn_nle, nn_ne, nn_sub, nn_mul, nI_add, nn_neg, nm_eq, mn_eq, mm_eq, mn_lt, nm_lt, mn_le, nm_le, nn_sub0, nn_of, implies_true, nn_c, nn_in, nn_div, nat_rem, Nat.reduceMul, Nat.reduceSub, Nat.reduceDiv, Nat.reduceMod, pf_at, pf_ne, mk_s, mk_1, Classical.not_not, b2i_T, b2i_F, false_imp_iff, true_imp_iff, false_and, and_false, p_sw, Int.reduceAdd, Int.zero_add, Option.some.injEq, Value.int.injEq, Value.long.injEq, Value.ref.injEq, exists_eq_left', mk_I, mk_L, mk_wI, mk_wL, rf_s, rf_n, true_and, and_true, and_self, or_true, true_or, or_false, false_or, not_true_eq_false, not_false_eq_true, Option.toList_some, Option.toList_none, List.cons_append, List.nil_append, List.map_nil, List.map_cons, List.sum_nil, List.sum_cons, cat_i, cat_l, cat_r, cat_n, Nat.reduceLeDiff, Nat.reduceAdd, Nat.reduceEqDiff, Nat.zero_le, p_ent, p_u_ne, p_u_at, reduceIte, if_true, if_false]
end LWp
