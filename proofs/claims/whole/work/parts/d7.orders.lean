section OZ
variable {d Ls : Nat} {I : Nat → Nat → Int32} {L : Nat → Nat → Int64} {R : Nat → Nat → Option Nat} {X : List pKd} {CL : List tCl} {cl : tCl} {c : Option (List tCl)} {K0 : Nat → Int32} {Q : Option Value → pHp → Prop}
/-- one order, as often as it is to be run -/
theorem ti_c {j : Nat} (hX : oX Ls I R X CL c K0) (hcl : CL[j]? = some cl) : ∀ (m t : Nat) (s : oS) (J : Nat → Nat → Int32), t + m = cl_t cl → frN I J → clO J s → oOk c K0 s → s.2.2.2.1 + m ≤ 300 →
    (∀ s' J', oT c cl m s = some s' → oOk c K0 s' → s'.2.2.2.1 ≤ s.2.2.2.1 + m → frN I J' → clO J' s' → P_run (d + 9) 120 (p_bk 120 1) 0 0 [.ref 32, .ref 36, .int (nI s'.2.2.2.1), .int s'.2.2.2.2, .int (nI (j + 1))] [] (p_mk Ls J' L R X) Q) →
    (oT c cl m s = none → ∀ r J', frN I J' → Q (some (.int r)) (p_mk Ls (p_u J' 32 16 (nI j)) L R X)) →
    P_run (d + 9) 120 (p_bk 120 2) 0 0 [.ref 32, .ref 36, .int (nI s.2.2.2.1), .int s.2.2.2.2, .int (nI j), .int (nI t)] [] (p_mk Ls J L R X) Q
  | 0, t, s, J, ht, f, hs, ho, hn, H, HN => by
    obtain ⟨x1, x2, -, x4, -⟩ := hX
    have hj := at_lt hcl
    have ht20 : cl_t cl ≤ 20 := (x4 j cl hcl).1.2.2.2.2
    have r2 : J 38 j = nI (cl_t cl) := by rw [f 38 (by omega) (by omega) (by omega)]; exact (x1.2.2.1 j hj cl hcl).2.1
    have hH := H s J rfl ho (by omega) f hs
    rw [Nat.add_zero] at ht
    rw [← ht] at r2
    clear H HN
    generalize s.2.2.2.1 = nn at *
    generalize s.2.2.2.2 = aa at *
    rw [P_run_eq, bk_120_2, pb_120_2]; simp -implicitDefEqProofs (disch := first | omega | decide) only [P_m, ↓P_run_eq _ 120 _ (p_bk 120 8), bk_120_8, pb_120_8, pw_iload_5, pw_aload_n1, pw_aloadN_n1, pw_getR, pw_iload_4, pw_iald, pw_cge, pw_aload_n0, pw_aloadN_n0, pw_iload_n2, pw_iload_n3, pw_iv4, pw_iv3, pw_zne, pw_goto, pw_iinc_4, il_1, po_i4, po_r4, po_n4, po_u4, kd_32, rf_32_0, rf_32_1, rf_32_2, rf_32_3, rf_32_4, rf_32_5, rf_32_6, rf_32_7, rf_32_8, rf_32_9, rf_32_11, rf_32_12, rf_32_13, kd_36, rf_36_1, rf_36_2, rf_36_3, rf_36_4, rf_36_5, rf_36_7, rf_36_8, kd_38, n_0, n_1, nn_lt, nn_nlt, nn_le, nn_nle, nn_ne, nn_sub, nn_mul, nI_add, nn_neg, nm_eq, mn_eq, mm_eq, mn_lt, nm_lt, mn_le, nm_le, nn_sub0, nn_of, implies_true, nn_c, nn_in, nn_div, nat_rem, Nat.reduceMul, Nat.reduceSub, Nat.reduceDiv, Nat.reduceMod, pf_at, pf_ne, mk_s, mk_1, Classical.not_not, b2i_T, b2i_F, false_imp_iff, true_imp_iff, false_and, and_false, p_sw, Int.reduceAdd, Int.zero_add, Option.some.injEq, Value.int.injEq, Value.long.injEq, Value.ref.injEq, exists_eq_left', mk_I, mk_L, mk_wI, mk_wL, rf_s, rf_n, true_and, and_true, and_self, or_true, true_or, or_false, false_or, not_true_eq_false, not_false_eq_true, Option.toList_some, Option.toList_none, List.cons_append, List.nil_append, List.map_nil, List.map_cons, List.sum_nil, List.sum_cons, cat_i, cat_l, cat_r, cat_n, Nat.reduceLeDiff, Nat.reduceAdd, Nat.reduceEqDiff, Nat.zero_le, p_ent, p_u_ne, p_u_at, reduceIte, if_true, if_false, r2]
    exact P_ls hH one_l
  | m + 1, t, s, J, ht, f, hs, ho, hn, H, HN => by
    refine or_c hX hcl (by omega) f hs ho (by omega) (fun s' J' e f' hs' => ?_) (fun e r J' f' => HN (by show (oR c cl s).bind (oT c cl m) = none; rw [e]; rfl) r J' f')
    obtain ⟨o1, o2⟩ := oR_ok ho e
    have et : oT c cl (m + 1) s = oT c cl m s' := by show (oR c cl s).bind (oT c cl m) = _; rw [e]; rfl
    rw [et] at H HN
    exact ti_c hX hcl m (t + 1) s' J' (by omega) f' hs' o1 (by omega) (fun s2 J2 e2 k1 k2 k3 k4 => H s2 J2 e2 k1 (by omega) k3 k4) HN
/-- all orders from the j-th on -/
theorem cl_c (hX : oX Ls I R X CL c K0) : ∀ (m j : Nat) (s : oS) (J : Nat → Nat → Int32), j + m = CL.length → frN I J → clO J s → oOk c K0 s → s.2.2.2.1 + 20 * m ≤ 300 →
    (∀ s' J', oC c j (CL.drop j) s = .ok s' → oOk c K0 s' → s'.2.2.2.1 ≤ 300 → frN I J' → clO J' s' → Q (some (.int (nI s'.2.2.2.1))) (p_mk Ls J' L R X)) →
    (∀ e r J', oC c j (CL.drop j) s = .error e → frN I J' → Q (some (.int r)) (p_mk Ls (p_u J' 32 16 (nI e)) L R X)) →
    P_run (d + 9) 120 (p_bk 120 1) 0 0 [.ref 32, .ref 36, .int (nI s.2.2.2.1), .int s.2.2.2.2, .int (nI j)] [] (p_mk Ls J L R X) Q
  | 0, j, s, J, hj, f, hs, ho, hn, H, HN => by
    obtain ⟨x1, x2, -⟩ := hX
    have e0 : J 36 0 = nI CL.length := by rw [f 36 (by omega) (by omega) (by omega)]; exact x1.1
    rw [Nat.add_zero] at hj
    have ed : CL.drop j = [] := by rw [hj, List.drop_length]
    have hH := H s J (by rw [ed]; rfl) ho (by omega) f hs
    rw [← hj] at e0 x2
    clear H HN
    generalize s.2.2.2.1 = nn at *
    generalize s.2.2.2.2 = aa at *
    rw [P_run_eq, bk_120_1, pb_120_1]; simp -implicitDefEqProofs (disch := first | omega | decide) only [P_m, ↓P_run_eq _ 120 _ (p_bk 120 9), bk_120_9, pb_120_9, pw_iload_4, pw_aload_n1, pw_aloadN_n1, pw_getI, pw_cge, pw_iconst, il_0, pw_istore, ps_5, pe_5, po_i5, po_r5, po_n5, po_u5, pw_nop, pw_iload_n2, pw_ret0, kd_32, rf_32_0, rf_32_1, rf_32_2, rf_32_3, rf_32_4, rf_32_5, rf_32_6, rf_32_7, rf_32_8, rf_32_9, rf_32_11, rf_32_12, rf_32_13, kd_36, rf_36_1, rf_36_2, rf_36_3, rf_36_4, rf_36_5, rf_36_7, rf_36_8, n_0, n_1, nn_lt, nn_nlt, nn_le, nn_nle, nn_ne, nn_sub, nn_mul, nI_add, nn_neg, nm_eq, mn_eq, mm_eq, mn_lt, nm_lt, mn_le, nm_le, nn_sub0, nn_of, implies_true, nn_c, nn_in, nn_div, nat_rem, Nat.reduceMul, Nat.reduceSub, Nat.reduceDiv, Nat.reduceMod, pf_at, pf_ne, mk_s, mk_1, Classical.not_not, b2i_T, b2i_F, false_imp_iff, true_imp_iff, false_and, and_false, p_sw, Int.reduceAdd, Int.zero_add, Option.some.injEq, Value.int.injEq, Value.long.injEq, Value.ref.injEq, exists_eq_left', mk_I, mk_L, mk_wI, mk_wL, rf_s, rf_n, true_and, and_true, and_self, or_true, true_or, or_false, false_or, not_true_eq_false, not_false_eq_true, Option.toList_some, Option.toList_none, List.cons_append, List.nil_append, List.map_nil, List.map_cons, List.sum_nil, List.sum_cons, cat_i, cat_l, cat_r, cat_n, Nat.reduceLeDiff, Nat.reduceAdd, Nat.reduceEqDiff, Nat.zero_le, p_ent, p_u_ne, p_u_at, reduceIte, if_true, if_false, e0]
    exact hH
  | m + 1, j, s, J, hj, f, hs, ho, hn, H, HN => by
    have hj2 : j < CL.length := by omega
    obtain ⟨cl, hcl⟩ : ∃ cl, CL[j]? = some cl := ⟨CL[j], List.getElem?_eq_getElem hj2⟩
    have ed : CL.drop j = cl :: CL.drop (j + 1) := by
      rw [List.drop_eq_getElem_cons hj2]
      rw [List.getElem?_eq_getElem hj2] at hcl
      cases hcl; rfl
    have x1 := hX.1
    have x2 := hX.2.1
    have ht20 : cl_t cl ≤ 20 := (hX.2.2.2.1 j cl hcl).1.2.2.2.2
    have e0 : J 36 0 = nI CL.length := by rw [f 36 (by omega) (by omega) (by omega)]; exact x1.1
    have go := ti_c (d := d) (L := L) (Q := Q) hX hcl (cl_t cl) 0 s J (Nat.zero_add _) f hs ho (by omega) (fun s' J' e o1 o2 f' hs' => by
      have ec : oC c j (CL.drop j) s = oC c (j + 1) (CL.drop (j + 1)) s' := by
        rw [ed]
        show (match oT c cl (cl_t cl) s with | none => Except.error j | some s' => oC c (j + 1) (CL.drop (j + 1)) s') = _
        rw [e]
      rw [ec] at H HN
      exact cl_c hX m (j + 1) s' J' (by omega) f' hs' o1 (by omega) H HN) (fun e r J' f' => by
      refine HN j r J' ?_ f'
      rw [ed]
      show (match oT c cl (cl_t cl) s with | none => Except.error j | some s' => oC c (j + 1) (CL.drop (j + 1)) s') = _
      rw [e])
    clear H HN ed
    generalize CL.length = ll at *
    generalize s.2.2.2.1 = nn at *
    generalize s.2.2.2.2 = aa at *
    rw [P_run_eq, bk_120_1, pb_120_1]; simp -implicitDefEqProofs (disch := first | omega | decide) only [P_m, pw_iload_4, pw_aload_n1, pw_aloadN_n1, pw_getI, pw_cge, pw_iconst, il_0, pw_istore, ps_5, pe_5, po_i5, po_r5, po_n5, po_u5, pw_nop, kd_32, rf_32_0, rf_32_1, rf_32_2, rf_32_3, rf_32_4, rf_32_5, rf_32_6, rf_32_7, rf_32_8, rf_32_9, rf_32_11, rf_32_12, rf_32_13, kd_36, rf_36_1, rf_36_2, rf_36_3, rf_36_4, rf_36_5, rf_36_7, rf_36_8, n_0, n_1, nn_lt, nn_nlt, nn_le, nn_nle, nn_ne, nn_sub, nn_mul, nI_add, nn_neg, nm_eq, mn_eq, mm_eq, mn_lt, nm_lt, mn_le, nm_le, nn_sub0, nn_of, implies_true, nn_c, nn_in, nn_div, nat_rem, Nat.reduceMul, Nat.reduceSub, Nat.reduceDiv, Nat.reduceMod, pf_at, pf_ne, mk_s, mk_1, Classical.not_not, b2i_T, b2i_F, false_imp_iff, true_imp_iff, false_and, and_false, p_sw, Int.reduceAdd, Int.zero_add, Option.some.injEq, Value.int.injEq, Value.long.injEq, Value.ref.injEq, exists_eq_left', mk_I, mk_L, mk_wI, mk_wL, rf_s, rf_n, true_and, and_true, and_self, or_true, true_or, or_false, false_or, not_true_eq_false, not_false_eq_true, Option.toList_some, Option.toList_none, List.cons_append, List.nil_append, List.map_nil, List.map_cons, List.sum_nil, List.sum_cons, cat_i, cat_l, cat_r, cat_n, Nat.reduceLeDiff, Nat.reduceAdd, Nat.reduceEqDiff, Nat.zero_le, p_ent, p_u_ne, p_u_at, reduceIte, if_true, if_false, e0]
    exact go
/-- what running leaves on the class's side -/
def rcQ (Ls : Nat) (I : Nat → Nat → Int32) (L : Nat → Nat → Int64) (R : Nat → Nat → Option Nat) (X : List pKd) (c : Option (List tCl)) (K0 : Nat → Int32) (r : Except Nat oS) (v : Option Value) (h' : pHp) : Prop := match r with
  | .ok s' => v = some (.int (nI s'.2.2.2.1)) ∧ oOk c K0 s' ∧ ∃ J, (frN I J ∧ clO J s') ∧ h' = p_mk Ls J L R X
  | .error e => (∃ r, v = some (.int r)) ∧ ∃ J, frN I J ∧ h' = p_mk Ls (p_u J 32 16 (nI e)) L R X
theorem pl_120 {s : oS} (hX : oX Ls I R X CL c K0) (hs : clO I s) (ho : oOk c K0 s) (e0 : s.2.2.2.1 = 0) (e1 : s.2.2.2.2 = mI 1) : P_m (d + 9) 120 [.ref 32, .ref 36] (p_mk Ls I L R X) (rcQ Ls I L R X c K0 (oC c 0 CL s)) := by
  have x2 := hX.2.1
  have go := cl_c (d := d) (L := L) (Q := rcQ Ls I L R X c K0 (oC c 0 CL s)) hX CL.length 0 s I (Nat.zero_add _) (fun _ _ _ _ => rfl) hs ho (by omega) (fun s' J' e o1 o2 f' hs' => by
    rw [List.drop_zero] at e
    rw [e]
    exact ⟨rfl, o1, J', ⟨f', hs'⟩, rfl⟩) (fun e r J' h f' => by
    rw [List.drop_zero] at h
    rw [h]
    exact ⟨⟨r, rfl⟩, J', f', rfl⟩)
  rw [e0, e1] at go
  simp -implicitDefEqProofs (disch := first | omega | decide) only [P_m, ↓P_run_eq _ 120 _ (p_bk 120 0), bk_120_0, pb_120_0, pw_iconst, il_0, pw_istore_n2, ps_2, pe_2, po_i2, po_r2, po_n2, po_u2, il_m1, pw_istore_n3, ps_3, pe_3, po_i3, po_r3, po_n3, po_u3, pw_istore, ps_4, pe_4, po_i4, po_r4, po_n4, po_u4, pw_nop, kd_32, rf_32_0, rf_32_1, rf_32_2, rf_32_3, rf_32_4, rf_32_5, rf_32_6, rf_32_7, rf_32_8, rf_32_9, rf_32_11, rf_32_12, rf_32_13, n_0, n_1, nn_lt, nn_nlt, nn_le, nn_nle, nn_ne, nn_sub, nn_mul, nI_add, nn_neg, nm_eq, mn_eq, mm_eq, mn_lt, nm_lt, mn_le, nm_le, nn_sub0, nn_of, implies_true, nn_c, nn_in, nn_div, nat_rem, Nat.reduceMul, Nat.reduceSub, Nat.reduceDiv, Nat.reduceMod, pf_at, pf_ne, mk_s, mk_1, Classical.not_not, b2i_T, b2i_F, false_imp_iff, true_imp_iff, false_and, and_false, p_sw, Int.reduceAdd, Int.zero_add, Option.some.injEq, Value.int.injEq, Value.long.injEq, Value.ref.injEq, exists_eq_left', mk_I, mk_L, mk_wI, mk_wL, rf_s, rf_n, true_and, and_true, and_self, or_true, true_or, or_false, false_or, not_true_eq_false, not_false_eq_true, Option.toList_some, Option.toList_none, List.cons_append, List.nil_append, List.map_nil, List.map_cons, List.sum_nil, List.sum_cons, cat_i, cat_l, cat_r, cat_n, Nat.reduceLeDiff, Nat.reduceAdd, Nat.reduceEqDiff, Nat.zero_le, p_ent, p_u_ne, p_u_at, reduceIte, if_true, if_false]
  exact go
end OZ
