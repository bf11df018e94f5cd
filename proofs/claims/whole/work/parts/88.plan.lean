section PE
variable {d Ls : Nat} {I : Nat → Nat → Int32} {L : Nat → Nat → Int64} {R : Nat → Nat → Option Nat} {X : List pKd} {h : pHp} {c : Option (List tCl)} {r : Option Nat} {K : Nat → Int32}
/-- whether a question may stand in a plan -/
def okP (c : Option (List tCl)) (K : Nat → Int32) (so : Bool) (q l : Nat) : Bool := (!so || decide (kn K (29 + q) = 1)) && !bv c K q l
theorem pf_u {α : Type} {f : Nat → Nat → α} {a : Nat} {S S' : Nat → α} : p_fn (p_fn f a S) a S' = p_fn f a S' := by
  funext b
  by_cases e : b = a
  · subst e; rw [pf_at, pf_at]
  · rw [pf_ne e, pf_ne e, pf_ne e]
theorem pl_35 {D q l : Nat} (hc : clw Ls I R X r c) (hg : cgL c) (he : envOk K q) (hl : l ≤ 8) (hw : w9 (I 50) (wEnv K q (nI l))) (hr : R 48 2 = r) (hD : 2 ≤ D) : ∃ S', P_m (D + 1) 35 [.ref 48] (p_mk Ls I L R X) (fun v h' => v = some (.int (pnI (if bv c K q l = true then none else some (yv c K q l)))) ∧ h' = p_mk Ls (p_fn I 51 S') L R X) := by
  obtain ⟨b1, b2⟩ := wEnv_b he hl
  obtain ⟨S1, s1⟩ := holds_cp (L := L) (D := D) (kd := 2) hc (bW_9 hw b1) (by omega) hD
  rw [hdF_c hw hg] at s1
  have rr : ∀ r : Option Nat, p_cats [.ref 49, va_rf r] ≤ p_mx 27 := fun r => by cases r <;> exact Nat.le_of_ble_eq_true rfl
  have rr2 : ∀ r : Option Nat, p_cats [.ref 49, va_rf r, .int (nI 2)] ≤ p_mx 28 := fun r => by cases r <;> exact Nat.le_of_ble_eq_true rfl
  by_cases hb : bv c K q l = true
  · rw [if_pos hb]
    rw [show hdF c (wEnv K q (nI l)) 2 = true from hb] at s1
    replace s1 : P_m D 28 [.ref 49, va_rf r, .int (nI 2)] (p_mk Ls I L R X) (fun v h' => v = some (.int (nI 1)) ∧ h' = p_mk Ls (p_fn I 51 S1) L R X) := s1
    refine ⟨S1, ?_⟩
    simp -implicitDefEqProofs (disch := first | omega | decide) only [P_m, ↓P_run_eq _ 35 _ (p_bk 35 0), bk_35_0, pb_35_0, ↓P_run_eq _ 35 _ (p_bk 35 2), bk_35_2, pb_35_2, pw_aload_n0, pw_aloadN_n0, pw_getR, pw_iconst, il_2, pw_iv3, pw_zeq, il_m1, pw_goto, pw_ret0, kd_48, rf_48_0, rf_48_6, rf_48_7, rf_48_8, rf_48_9, rf_48_10, rf_48_12, rf_48_13, rf_48_14, rf_48_15, rf_48_1, rf_48_2, kd_49, rf_49_0, rf_49_1, n_0, n_1, n_2, nn_lt, nn_nlt, nn_le, nn_nle, nn_ne, nn_sub, nn_mul, nI_add, nn_neg, nm_eq, mn_eq, mm_eq, mn_lt, nm_lt, mn_le, nm_le, nn_sub0, nn_of, implies_true, nn_c, nn_in, nn_div, nat_rem, Nat.reduceMul, Nat.reduceSub, Nat.reduceDiv, Nat.reduceMod, pf_at, pf_ne, mk_s, mk_1, Classical.not_not, b2i_T, b2i_F, false_imp_iff, true_imp_iff, false_and, and_false, p_sw, Int.reduceAdd, Int.zero_add, Option.some.injEq, Value.int.injEq, Value.long.injEq, Value.ref.injEq, exists_eq_left', mk_I, mk_L, mk_wI, mk_wL, rf_s, rf_n, true_and, and_true, and_self, or_true, true_or, or_false, false_or, not_true_eq_false, not_false_eq_true, Option.toList_some, Option.toList_none, List.cons_append, List.nil_append, List.map_nil, List.map_cons, List.sum_nil, List.sum_cons, cat_i, cat_l, cat_r, cat_n, Nat.reduceLeDiff, Nat.reduceAdd, Nat.reduceEqDiff, Nat.zero_le, p_ent, p_u_ne, p_u_at, reduceIte, if_true, if_false, hr, va_rf_c, pnI, P_ce s1 (rr2 _)]
  · rw [if_neg hb]
    rw [show hdF c (wEnv K q (nI l)) 2 = false from by simpa [bv] using hb] at s1
    replace s1 : P_m D 28 [.ref 49, va_rf r, .int (nI 2)] (p_mk Ls I L R X) (fun v h' => v = some (.int (nI 0)) ∧ h' = p_mk Ls (p_fn I 51 S1) L R X) := s1
    have e50 : p_fn I 51 S1 50 = I 50 := pf_ne (by omega)
    obtain ⟨S2, s2⟩ := years_cp (I := p_fn I 51 S1) (L := L) (D := D) (clw_fr hc (fun a ha => pf_ne (by omega))) (by rw [e50]; exact bW_9 hw b1) (by rw [e50, hw 1 (by omega)]; exact b2) hD
    rw [e50, agF_c hw hg, (yv_e he hl).1, pf_u] at s2
    refine ⟨S2, ?_⟩
    simp -implicitDefEqProofs (disch := first | omega | decide) only [P_m, ↓P_run_eq _ 35 _ (p_bk 35 0), bk_35_0, pb_35_0, ↓P_run_eq _ 35 _ (p_bk 35 1), bk_35_1, pb_35_1, ↓P_run_eq _ 35 _ (p_bk 35 2), bk_35_2, pb_35_2, pw_aload_n0, pw_aloadN_n0, pw_getR, pw_iconst, il_2, pw_iv3, pw_zeq, il_m1, pw_goto, pw_iv2, pw_nop, pw_ret0, kd_48, rf_48_0, rf_48_6, rf_48_7, rf_48_8, rf_48_9, rf_48_10, rf_48_12, rf_48_13, rf_48_14, rf_48_15, rf_48_1, rf_48_2, kd_49, rf_49_0, rf_49_1, n_0, n_1, n_2, nn_lt, nn_nlt, nn_le, nn_nle, nn_ne, nn_sub, nn_mul, nI_add, nn_neg, nm_eq, mn_eq, mm_eq, mn_lt, nm_lt, mn_le, nm_le, nn_sub0, nn_of, implies_true, nn_c, nn_in, nn_div, nat_rem, Nat.reduceMul, Nat.reduceSub, Nat.reduceDiv, Nat.reduceMod, pf_at, pf_ne, mk_s, mk_1, Classical.not_not, b2i_T, b2i_F, false_imp_iff, true_imp_iff, false_and, and_false, p_sw, Int.reduceAdd, Int.zero_add, Option.some.injEq, Value.int.injEq, Value.long.injEq, Value.ref.injEq, exists_eq_left', mk_I, mk_L, mk_wI, mk_wL, rf_s, rf_n, true_and, and_true, and_self, or_true, true_or, or_false, false_or, not_true_eq_false, not_false_eq_true, Option.toList_some, Option.toList_none, List.cons_append, List.nil_append, List.map_nil, List.map_cons, List.sum_nil, List.sum_cons, cat_i, cat_l, cat_r, cat_n, Nat.reduceLeDiff, Nat.reduceAdd, Nat.reduceEqDiff, Nat.zero_le, p_ent, p_u_ne, p_u_at, reduceIte, if_true, if_false, hr, va_rf_c, pnI, P_ce s1 (rr2 _), P_ce s2 (rr _)]
def frP (I J : Nat → Nat → Int32) : Prop := ∀ a, ¬ a = 50 → ¬ a = 51 → ¬ a = 63 → ¬ a = 64 → J a = I a
def rqY (c : Option (List tCl)) (K : Nat → Int32) (so : Bool) (J : Nat → Nat → Int32) (q k : Nat) : Prop := ∀ l, 2 ≤ l → l < k → J 63 (q * 9 + l) = pnI (yo (yv c K) (okP c K so) q l)
def rqT (n : Nat) (K : Nat → Int32) (J : Nat → Nat → Int32) (q k : Nat) : Prop := ∀ x, x < k → J 64 (q * 4 + x) = nI (thA (kn K (37 + q)) n x)
def rqS (n P : Nat) (c : Option (List tCl)) (K : Nat → Int32) (so : Bool) (J : Nat → Nat → Int32) (q : Nat) : Prop := ∀ j, j < q → rqY c K so J j (P + 1) ∧ rqT n K J j 4
theorem two_l {l : List Value} {x y : Int32} : lsLe l (l ++ [.int x, .int y]) := lsLe_ap _ [_, _] (by simp only [List.mem_cons, List.not_mem_nil, or_false]; rintro _ (rfl | rfl) <;> rfl)
theorem pl_38 {n m A : Nat} {so : Bool} (hV : vld K) (hK : hutR I 71 K) (hc : clw Ls I R X r c) (hg : cgL c) (hr1 : R 48 1 = some 71) (hr : R 48 2 = r) (en : n = kn K 52) (em : m = kn K 53) (eA : A = kn K 0) : ∃ J, frP I J ∧ rqS n (pc A) c K so J m ∧ P_m (d + 4) 38 [.ref 48, .int (nI (bN so))] (p_mk Ls I L R X) (fun v h' => v = none ∧ h' = p_mk Ls J L R X) := by
  obtain ⟨n1, n2⟩ := kn_52 hV
  obtain ⟨m1, m2⟩ := kn_53 hV
  obtain ⟨k1, k2, k3⟩ := kn_0 hV
  rw [← en] at n1 n2 k2
  rw [← em] at m1 m2
  rw [← eA] at k1 k2 k3
  have pA := pc_le A
  obtain ⟨⟨r1, r2, r3, r4, r5, r6, r7, r8⟩, -, ra, -⟩ := hutR_at hK
  have main : ∀ q, q ≤ m → ∀ J, frP I J → rqS n (pc A) c K so J q → P_run (d + 4) 38 (p_bk 38 1) 0 0 [.ref 48, .int (nI (bN so)), .int (nI q)] [] (p_mk Ls J L R X) (fun v h' => v = none ∧ ∃ J', frP I J' ∧ rqS n (pc A) c K so J' m ∧ h' = p_mk Ls J' L R X) := by
    refine down_ind ?_ ?_
    · intro J hJ hS
      have j1 : J 71 2 = nI m := by rw [hJ 71 (by omega) (by omega) (by omega) (by omega), r2, m1]
      rw [P_run_eq, bk_38_1, pb_38_1]; simp -implicitDefEqProofs (disch := first | omega | decide) only [P_m, ↓P_run_eq _ 38 _ (p_bk 38 11), bk_38_11, pb_38_11, pw_iload_n2, pw_aload_n0, pw_aloadN_n0, pw_getR, pw_getI, pw_cge, pw_iv3, pw_iconst, il_2, pw_istore_n3, ps_3, pe_3, po_i3, po_r3, po_n3, po_u3, pw_nop, pw_vret, kd_48, rf_48_0, rf_48_6, rf_48_7, rf_48_8, rf_48_9, rf_48_10, rf_48_12, rf_48_13, rf_48_14, rf_48_15, rf_48_1, rf_48_2, kd_71, rf_71_1, rf_71_3, rf_71_4, rf_71_5, rf_71_6, rf_71_11, rf_71_12, rf_71_14, n_0, n_1, n_2, nn_lt, nn_nlt, nn_le, nn_nle, nn_ne, nn_sub, nn_mul, nI_add, nn_neg, nm_eq, mn_eq, mm_eq, mn_lt, nm_lt, mn_le, nm_le, nn_sub0, nn_of, implies_true, nn_c, nn_in, nn_div, nat_rem, Nat.reduceMul, Nat.reduceSub, Nat.reduceDiv, Nat.reduceMod, pf_at, pf_ne, mk_s, mk_1, Classical.not_not, b2i_T, b2i_F, false_imp_iff, true_imp_iff, false_and, and_false, p_sw, Int.reduceAdd, Int.zero_add, Option.some.injEq, Value.int.injEq, Value.long.injEq, Value.ref.injEq, exists_eq_left', mk_I, mk_L, mk_wI, mk_wL, rf_s, rf_n, true_and, and_true, and_self, or_true, true_or, or_false, false_or, not_true_eq_false, not_false_eq_true, Option.toList_some, Option.toList_none, List.cons_append, List.nil_append, List.map_nil, List.map_cons, List.sum_nil, List.sum_cons, cat_i, cat_l, cat_r, cat_n, Nat.reduceLeDiff, Nat.reduceAdd, Nat.reduceEqDiff, Nat.zero_le, p_ent, p_u_ne, p_u_at, reduceIte, if_true, if_false, hr1, va_rs, j1]
      exact ⟨J, hJ, hS, rfl⟩
    · intro q hq ih J hJ hS
      have hq8 : q < 8 := by omega
      have he := vld_env hV hq8
      obtain ⟨y1, y2⟩ := kn_37 hV hq8
      obtain ⟨q1, q2, q3, q4, q5⟩ := ra q hq8
      have e29 := kn_e hV (j := 29 + q) (by omega) (by omega) (by omega)
      have l29 : kn K (29 + q) ≤ 1 := by have := e29.2; rw [mx_29 q hq8] at this; exact this
      -- answers
      have lpX : ∀ x, x ≤ 4 → ∀ J, frP I J → rqS n (pc A) c K so J q → rqY c K so J q (pc A + 1) → rqT n K J q x → P_run (d + 4) 38 (p_bk 38 9) 0 0 [.ref 48, .int (nI (bN so)), .int (nI q), .int (nI x)] [] (p_mk Ls J L R X) (fun v h' => v = none ∧ ∃ J', frP I J' ∧ rqS n (pc A) c K so J' m ∧ h' = p_mk Ls J' L R X) := by
        refine down_ind ?_ ?_
        · intro J hJ hS hY hT
          have := ih J hJ (fun j hj => by
            by_cases e : j = q
            · subst e; exact ⟨hY, hT⟩
            · exact hS j (by omega))
          rw [P_run_eq, bk_38_9, pb_38_9]; simp -implicitDefEqProofs (disch := first | omega | decide) only [P_m, ↓P_run_eq _ 38 _ (p_bk 38 10), bk_38_10, pb_38_10, pw_iload_n3, pw_iconst, il_4, pw_cge, pw_aload_n0, pw_aloadN_n0, pw_getR, pw_iload_n2, pw_imul, pw_iadd, pw_iv3, pw_iast, pw_iinc_3, il_1, po_i3, po_r3, po_n3, po_u3, pw_goto, pw_iinc_2, po_i2, po_r2, po_n2, po_u2, kd_48, rf_48_0, rf_48_6, rf_48_7, rf_48_8, rf_48_9, rf_48_10, rf_48_12, rf_48_13, rf_48_14, rf_48_15, rf_48_1, rf_48_2, n_0, n_1, n_4, nn_lt, nn_nlt, nn_le, nn_nle, nn_ne, nn_sub, nn_mul, nI_add, nn_neg, nm_eq, mn_eq, mm_eq, mn_lt, nm_lt, mn_le, nm_le, nn_sub0, nn_of, implies_true, nn_c, nn_in, nn_div, nat_rem, Nat.reduceMul, Nat.reduceSub, Nat.reduceDiv, Nat.reduceMod, pf_at, pf_ne, mk_s, mk_1, Classical.not_not, b2i_T, b2i_F, false_imp_iff, true_imp_iff, false_and, and_false, p_sw, Int.reduceAdd, Int.zero_add, Option.some.injEq, Value.int.injEq, Value.long.injEq, Value.ref.injEq, exists_eq_left', mk_I, mk_L, mk_wI, mk_wL, rf_s, rf_n, true_and, and_true, and_self, or_true, true_or, or_false, false_or, not_true_eq_false, not_false_eq_true, Option.toList_some, Option.toList_none, List.cons_append, List.nil_append, List.map_nil, List.map_cons, List.sum_nil, List.sum_cons, cat_i, cat_l, cat_r, cat_n, Nat.reduceLeDiff, Nat.reduceAdd, Nat.reduceEqDiff, Nat.zero_le, p_ent, p_u_ne, p_u_at, reduceIte, if_true, if_false]
          exact P_ls this one_l
        · intro x hx ihx J hJ hS hY hT
          have s1 := sp_15n (d := d + 2) (Ls := Ls) (I := J) (L := L) (R := R) (X := X) (q := q) (n := n) (x := x) hq8 n2 hx y2 (by rw [hJ 75 (by omega) (by omega) (by omega) (by omega)]; exact q4.trans y1) (by rw [hJ 71 (by omega) (by omega) (by omega) (by omega)]; exact r1.trans n1)
          have nx := ihx (p_u J 64 (q * 4 + x) (nI (thA (kn K (37 + q)) n x))) (fun a a1 a2 a3 a4 => by rw [p_u_ne a4]; exact hJ a a1 a2 a3 a4) (fun j hj => ⟨fun l l1 l2 => by rw [p_u_ne (by omega)]; exact (hS j hj).1 l l1 l2, fun x' hx' => by rw [p_u_at, if_neg (by omega)]; exact (hS j hj).2 x' hx'⟩) (fun l l1 l2 => by rw [p_u_ne (by omega)]; exact hY l l1 l2) (fun x' hx' => by
            rw [p_u_at]
            by_cases e : x' = x
            · subst e; rw [if_pos rfl]
            · rw [if_neg (by omega)]; exact hT x' (by omega))
          rw [P_run_eq, bk_38_9, pb_38_9]; simp -implicitDefEqProofs (disch := first | omega | decide) only [P_m, pw_iload_n3, pw_iconst, il_4, pw_cge, pw_aload_n0, pw_aloadN_n0, pw_getR, pw_iload_n2, pw_imul, pw_iadd, pw_iv3, pw_iast, pw_iinc_3, il_1, po_i3, po_r3, po_n3, po_u3, pw_goto, kd_48, rf_48_0, rf_48_6, rf_48_7, rf_48_8, rf_48_9, rf_48_10, rf_48_12, rf_48_13, rf_48_14, rf_48_15, rf_48_1, rf_48_2, kd_64, kd_71, rf_71_1, rf_71_3, rf_71_4, rf_71_5, rf_71_6, rf_71_11, rf_71_12, rf_71_14, n_0, n_1, n_4, nn_lt, nn_nlt, nn_le, nn_nle, nn_ne, nn_sub, nn_mul, nI_add, nn_neg, nm_eq, mn_eq, mm_eq, mn_lt, nm_lt, mn_le, nm_le, nn_sub0, nn_of, implies_true, nn_c, nn_in, nn_div, nat_rem, Nat.reduceMul, Nat.reduceSub, Nat.reduceDiv, Nat.reduceMod, pf_at, pf_ne, mk_s, mk_1, Classical.not_not, b2i_T, b2i_F, false_imp_iff, true_imp_iff, false_and, and_false, p_sw, Int.reduceAdd, Int.zero_add, Option.some.injEq, Value.int.injEq, Value.long.injEq, Value.ref.injEq, exists_eq_left', mk_I, mk_L, mk_wI, mk_wL, rf_s, rf_n, true_and, and_true, and_self, or_true, true_or, or_false, false_or, not_true_eq_false, not_false_eq_true, Option.toList_some, Option.toList_none, List.cons_append, List.nil_append, List.map_nil, List.map_cons, List.sum_nil, List.sum_cons, cat_i, cat_l, cat_r, cat_n, Nat.reduceLeDiff, Nat.reduceAdd, Nat.reduceEqDiff, Nat.zero_le, p_ent, p_u_ne, p_u_at, reduceIte, if_true, if_false, hr1, va_rs, P_ce s1]
          exact nx
      -- how many are left
      have lpL : ∀ l, l ≤ pc A + 1 → 2 ≤ l → ∀ J, frP I J → rqS n (pc A) c K so J q → rqY c K so J q l → (∀ j, j < 8 → J 50 j = wEnv K q (nI 0) j) → P_run (d + 4) 38 (p_bk 38 2) 0 0 [.ref 48, .int (nI (bN so)), .int (nI q), .int (nI l)] [] (p_mk Ls J L R X) (fun v h' => v = none ∧ ∃ J', frP I J' ∧ rqS n (pc A) c K so J' m ∧ h' = p_mk Ls J' L R X) := by
        have s12 := fun (J : Nat → Nat → Int32) (hJ : frP I J) => sp_12 (d := d + 2) (Ls := Ls) (I := J) (L := L) (R := R) (X := X) k3 (by rw [hJ 71 (by omega) (by omega) (by omega) (by omega)]; exact r4.trans k1)
        refine down_ind ?_ ?_
        · intro l2 J hJ hS hY hW
          have s1 := s12 J hJ
          have := lpX 0 (by omega) J hJ hS hY (fun x hx => absurd hx (by omega))
          generalize pc A = P at *
          rw [P_run_eq, bk_38_2, pb_38_2]; simp -implicitDefEqProofs (disch := first | omega | decide) only [P_m, ↓P_run_eq _ 38 _ (p_bk 38 8), bk_38_8, pb_38_8, pw_iload_n3, pw_aload_n0, pw_aloadN_n0, pw_getR, pw_iv1, pw_cgt, pw_bipush, bl_8, pw_iast, pw_iload_n1, pw_zeq, pw_iload_n2, pw_iald, pw_iconst, il_1, pw_cne, pw_nop, il_0, pw_istore_n3, ps_3, pe_3, po_i3, po_r3, po_n3, po_u3, kd_48, rf_48_0, rf_48_6, rf_48_7, rf_48_8, rf_48_9, rf_48_10, rf_48_12, rf_48_13, rf_48_14, rf_48_15, rf_48_1, rf_48_2, kd_71, rf_71_1, rf_71_3, rf_71_4, rf_71_5, rf_71_6, rf_71_11, rf_71_12, rf_71_14, n_0, n_1, n_8, nn_lt, nn_nlt, nn_le, nn_nle, nn_ne, nn_sub, nn_mul, nI_add, nn_neg, nm_eq, mn_eq, mm_eq, mn_lt, nm_lt, mn_le, nm_le, nn_sub0, nn_of, implies_true, nn_c, nn_in, nn_div, nat_rem, Nat.reduceMul, Nat.reduceSub, Nat.reduceDiv, Nat.reduceMod, pf_at, pf_ne, mk_s, mk_1, Classical.not_not, b2i_T, b2i_F, false_imp_iff, true_imp_iff, false_and, and_false, p_sw, Int.reduceAdd, Int.zero_add, Option.some.injEq, Value.int.injEq, Value.long.injEq, Value.ref.injEq, exists_eq_left', mk_I, mk_L, mk_wI, mk_wL, rf_s, rf_n, true_and, and_true, and_self, or_true, true_or, or_false, false_or, not_true_eq_false, not_false_eq_true, Option.toList_some, Option.toList_none, List.cons_append, List.nil_append, List.map_nil, List.map_cons, List.sum_nil, List.sum_cons, cat_i, cat_l, cat_r, cat_n, Nat.reduceLeDiff, Nat.reduceAdd, Nat.reduceEqDiff, Nat.zero_le, p_ent, p_u_ne, p_u_at, reduceIte, if_true, if_false, hr1, va_rs, P_ce s1]
          exact this
        · intro l hl ihl l2 J hJ hS hY hW
          have s1 := s12 J hJ
          have j74 : ∀ S, p_u J 50 8 S 74 q = nI (kn K (29 + q)) := fun S => by rw [p_u_ne (by omega), hJ 74 (by omega) (by omega) (by omega) (by omega)]; exact q3.trans e29.1
          have w8 : w9 (p_u J 50 8 (nI l) 50) (wEnv K q (nI l)) := fun j hj => by
            rw [p_u_at]
            by_cases e : j = 8
            · subst e; rw [if_pos rfl]; rfl
            · rw [if_neg e, hW j (by omega)]
              unfold wEnv
              have : j = 0 ∨ j = 1 ∨ j = 2 ∨ j = 3 ∨ j = 4 ∨ j = 5 ∨ j = 6 ∨ j = 7 := by omega
              rcases this with rfl | rfl | rfl | rfl | rfl | rfl | rfl | rfl <;> rfl
          have fin : ∀ v S, v = pnI (yo (yv c K) (okP c K so) q l) → P_run (d + 4) 38 (p_bk 38 2) 0 0 [.ref 48, .int (nI (bN so)), .int (nI q), .int (nI (l + 1))] [] (p_mk Ls (p_u (p_fn (p_u J 50 8 (nI l)) 51 S) 63 (q * 9 + l) v) L R X) (fun v h' => v = none ∧ ∃ J', frP I J' ∧ rqS n (pc A) c K so J' m ∧ h' = p_mk Ls J' L R X) := by
            intro v S ev
            refine ihl (by omega) _ (fun a a1 a2 a3 a4 => by rw [p_u_ne a3, pf_ne a2, p_u_ne a1]; exact hJ a a1 a2 a3 a4) (fun j hj => ⟨fun l' l1 l2' => ?_, fun x' hx' => ?_⟩) (fun l' l1 l2' => ?_) (fun j hj => ?_)
            · rw [p_u_at, if_neg (by omega), pf_ne (by omega), p_u_ne (by omega)]; exact (hS j hj).1 l' l1 l2'
            · rw [p_u_ne (by omega), pf_ne (by omega), p_u_ne (by omega)]; exact (hS j hj).2 x' hx'
            · rw [p_u_at]
              by_cases e : l' = l
              · subst e; rw [if_pos rfl]; exact ev
              · rw [if_neg (by omega), pf_ne (by omega), p_u_ne (by omega)]; exact hY l' l1 (by omega)
            · rw [p_u_ne (by omega), pf_ne (by omega), p_u_at, if_neg (by omega)]; exact hW j hj
          obtain ⟨S', s2⟩ := pl_35 (I := p_u J 50 8 (nI l)) (L := L) (D := d + 2) (r := r) (c := c) (K := K) (q := q) (l := l) (clw_fr hc (fun a ha => by rw [p_u_ne (by omega)]; exact hJ a (by omega) (by omega) (by omega) (by omega))) hg he (by omega) w8 hr (by omega)
          have s3 := fin _ S' rfl
          have s5 := fin _ (p_u J 50 8 (nI l) 51) rfl
          rw [pf_self] at s5
          have vo : okP c K so q l = ((!so || decide (kn K (29 + q) = 1)) && !bv c K q l) := rfl
          have vy : yo (yv c K) (okP c K so) q l = if okP c K so q l = true then some (yv c K q l) else none := rfl
          rw [vy, vo] at s3 s5
          have pl9 : l ≤ 8 := by omega
          cases so with
          | false =>
            have e2 : (if ((!false || decide (kn K (29 + q) = 1)) && !bv c K q l) = true then some (yv c K q l) else none) = if bv c K q l = true then none else some (yv c K q l) := by cases bv c K q l <;> rfl
            rw [e2] at s3
            generalize (if bv c K q l = true then none else some (yv c K q l)) = V at *
            generalize pc A = P at *
            rw [P_run_eq, bk_38_2, pb_38_2]; simp -implicitDefEqProofs (disch := first | omega | decide) only [P_m, ↓P_run_eq _ 38 _ (p_bk 38 3), bk_38_3, pb_38_3, ↓P_run_eq _ 38 _ (p_bk 38 5), bk_38_5, pb_38_5, ↓P_run_eq _ 38 _ (p_bk 38 7), bk_38_7, pb_38_7, pw_iload_n3, pw_aload_n0, pw_aloadN_n0, pw_getR, pw_iv1, pw_cgt, pw_bipush, bl_8, pw_iast, pw_iload_n1, pw_zeq, pw_iload_n2, pw_iald, pw_iconst, il_1, pw_cne, pw_nop, pw_goto, pw_istore, ps_4, pe_4, po_i4, po_r4, po_n4, po_u4, bl_9, pw_imul, pw_iadd, pw_iload_4, pw_iinc_3, po_i3, po_r3, po_n3, po_u3, kd_48, rf_48_0, rf_48_6, rf_48_7, rf_48_8, rf_48_9, rf_48_10, rf_48_12, rf_48_13, rf_48_14, rf_48_15, rf_48_1, rf_48_2, kd_49, rf_49_0, rf_49_1, kd_50, kd_63, kd_71, rf_71_1, rf_71_3, rf_71_4, rf_71_5, rf_71_6, rf_71_11, rf_71_12, rf_71_14, n_0, n_1, n_8, n_9, nn_lt, nn_nlt, nn_le, nn_nle, nn_ne, nn_sub, nn_mul, nI_add, nn_neg, nm_eq, mn_eq, mm_eq, mn_lt, nm_lt, mn_le, nm_le, nn_sub0, nn_of, implies_true, nn_c, nn_in, nn_div, nat_rem, Nat.reduceMul, Nat.reduceSub, Nat.reduceDiv, Nat.reduceMod, pf_at, pf_ne, mk_s, mk_1, Classical.not_not, b2i_T, b2i_F, false_imp_iff, true_imp_iff, false_and, and_false, p_sw, Int.reduceAdd, Int.zero_add, Option.some.injEq, Value.int.injEq, Value.long.injEq, Value.ref.injEq, exists_eq_left', mk_I, mk_L, mk_wI, mk_wL, rf_s, rf_n, true_and, and_true, and_self, or_true, true_or, or_false, false_or, not_true_eq_false, not_false_eq_true, Option.toList_some, Option.toList_none, List.cons_append, List.nil_append, List.map_nil, List.map_cons, List.sum_nil, List.sum_cons, cat_i, cat_l, cat_r, cat_n, Nat.reduceLeDiff, Nat.reduceAdd, Nat.reduceEqDiff, Nat.zero_le, p_ent, p_u_ne, p_u_at, reduceIte, if_true, if_false, hr1, va_rs, P_ce s1, P_ce s2, bN]
            exact P_ls s3 one_l
          | true =>
            by_cases c29 : kn K (29 + q) = 1
            · have e2 : (if ((!true || decide (kn K (29 + q) = 1)) && !bv c K q l) = true then some (yv c K q l) else none) = if bv c K q l = true then none else some (yv c K q l) := by rw [decide_eq_true c29]; cases bv c K q l <;> rfl
              rw [e2] at s3
              generalize (if bv c K q l = true then none else some (yv c K q l)) = V at *
              generalize pc A = P at *
              have j74 := j74 (nI l)
              rw [c29] at j74
              rw [P_run_eq, bk_38_2, pb_38_2]; simp -implicitDefEqProofs (disch := first | omega | decide) only [P_m, ↓P_run_eq _ 38 _ (p_bk 38 3), bk_38_3, pb_38_3, ↓P_run_eq _ 38 _ (p_bk 38 5), bk_38_5, pb_38_5, ↓P_run_eq _ 38 _ (p_bk 38 7), bk_38_7, pb_38_7, pw_iload_n3, pw_aload_n0, pw_aloadN_n0, pw_getR, pw_iv1, pw_cgt, pw_bipush, bl_8, pw_iast, pw_iload_n1, pw_zeq, pw_iload_n2, pw_iald, pw_iconst, il_1, pw_cne, pw_nop, pw_goto, pw_istore, ps_4, pe_4, po_i4, po_r4, po_n4, po_u4, bl_9, pw_imul, pw_iadd, pw_iload_4, pw_iinc_3, po_i3, po_r3, po_n3, po_u3, kd_48, rf_48_0, rf_48_6, rf_48_7, rf_48_8, rf_48_9, rf_48_10, rf_48_12, rf_48_13, rf_48_14, rf_48_15, rf_48_1, rf_48_2, kd_49, rf_49_0, rf_49_1, kd_50, kd_63, kd_71, rf_71_1, rf_71_3, rf_71_4, rf_71_5, rf_71_6, rf_71_11, rf_71_12, rf_71_14, kd_74, n_0, n_1, n_8, n_9, nn_lt, nn_nlt, nn_le, nn_nle, nn_ne, nn_sub, nn_mul, nI_add, nn_neg, nm_eq, mn_eq, mm_eq, mn_lt, nm_lt, mn_le, nm_le, nn_sub0, nn_of, implies_true, nn_c, nn_in, nn_div, nat_rem, Nat.reduceMul, Nat.reduceSub, Nat.reduceDiv, Nat.reduceMod, pf_at, pf_ne, mk_s, mk_1, Classical.not_not, b2i_T, b2i_F, false_imp_iff, true_imp_iff, false_and, and_false, p_sw, Int.reduceAdd, Int.zero_add, Option.some.injEq, Value.int.injEq, Value.long.injEq, Value.ref.injEq, exists_eq_left', mk_I, mk_L, mk_wI, mk_wL, rf_s, rf_n, true_and, and_true, and_self, or_true, true_or, or_false, false_or, not_true_eq_false, not_false_eq_true, Option.toList_some, Option.toList_none, List.cons_append, List.nil_append, List.map_nil, List.map_cons, List.sum_nil, List.sum_cons, cat_i, cat_l, cat_r, cat_n, Nat.reduceLeDiff, Nat.reduceAdd, Nat.reduceEqDiff, Nat.zero_le, p_ent, p_u_ne, p_u_at, reduceIte, if_true, if_false, hr1, va_rs, j74, P_ce s1, P_ce s2, bN]
              exact P_ls s3 one_l
            · have e2 : (if ((!true || decide (kn K (29 + q) = 1)) && !bv c K q l) = true then some (yv c K q l) else none) = none := by rw [decide_eq_false c29]; rfl
              rw [e2] at s5
              replace s5 : P_run (d + 4) 38 (p_bk 38 2) 0 0 [.ref 48, .int (nI (bN true)), .int (nI q), .int (nI (l + 1))] [] (p_mk Ls (p_u (p_u J 50 8 (nI l)) 63 (q * 9 + l) (mI 1)) L R X) _ := s5
              generalize pc A = P at *
              have j74 := j74 (nI l)
              generalize kn K (29 + q) = Z at *
              rw [P_run_eq, bk_38_2, pb_38_2]; simp -implicitDefEqProofs (disch := first | omega | decide) only [P_m, ↓P_run_eq _ 38 _ (p_bk 38 4), bk_38_4, pb_38_4, ↓P_run_eq _ 38 _ (p_bk 38 5), bk_38_5, pb_38_5, ↓P_run_eq _ 38 _ (p_bk 38 6), bk_38_6, pb_38_6, ↓P_run_eq _ 38 _ (p_bk 38 7), bk_38_7, pb_38_7, pw_iload_n3, pw_aload_n0, pw_aloadN_n0, pw_getR, pw_iv1, pw_cgt, pw_bipush, bl_8, pw_iast, pw_iload_n1, pw_zeq, pw_iload_n2, pw_iald, pw_iconst, il_1, pw_cne, pw_nop, il_0, pw_istore, ps_4, pe_4, po_i4, po_r4, po_n4, po_u4, bl_9, pw_imul, pw_iadd, pw_iload_4, pw_goto, il_m1, pw_iinc_3, po_i3, po_r3, po_n3, po_u3, kd_48, rf_48_0, rf_48_6, rf_48_7, rf_48_8, rf_48_9, rf_48_10, rf_48_12, rf_48_13, rf_48_14, rf_48_15, rf_48_1, rf_48_2, kd_49, rf_49_0, rf_49_1, kd_50, kd_63, kd_71, rf_71_1, rf_71_3, rf_71_4, rf_71_5, rf_71_6, rf_71_11, rf_71_12, rf_71_14, kd_74, n_0, n_1, n_8, n_9, nn_lt, nn_nlt, nn_le, nn_nle, nn_ne, nn_sub, nn_mul, nI_add, nn_neg, nm_eq, mn_eq, mm_eq, mn_lt, nm_lt, mn_le, nm_le, nn_sub0, nn_of, implies_true, nn_c, nn_in, nn_div, nat_rem, Nat.reduceMul, Nat.reduceSub, Nat.reduceDiv, Nat.reduceMod, pf_at, pf_ne, mk_s, mk_1, Classical.not_not, b2i_T, b2i_F, false_imp_iff, true_imp_iff, false_and, and_false, p_sw, Int.reduceAdd, Int.zero_add, Option.some.injEq, Value.int.injEq, Value.long.injEq, Value.ref.injEq, exists_eq_left', mk_I, mk_L, mk_wI, mk_wL, rf_s, rf_n, true_and, and_true, and_self, or_true, true_or, or_false, false_or, not_true_eq_false, not_false_eq_true, Option.toList_some, Option.toList_none, List.cons_append, List.nil_append, List.map_nil, List.map_cons, List.sum_nil, List.sum_cons, cat_i, cat_l, cat_r, cat_n, Nat.reduceLeDiff, Nat.reduceAdd, Nat.reduceEqDiff, Nat.zero_le, p_ent, p_u_ne, p_u_at, reduceIte, if_true, if_false, hr1, va_rs, j74, P_ce s1, bN]
              exact P_ls s5 one_l
      have s24 := sp_24p (d := d + 1) (Ls := Ls) (I := J) (L := L) (R := R) (X := X) (K := K) hq8 (hutR_f hK (fun b b1 b2 => hJ b (by omega) (by omega) (by omega) (by omega))) k3 k1
      have j1 : J 71 2 = nI m := by rw [hJ 71 (by omega) (by omega) (by omega) (by omega), r2, m1]
      by_cases p1 : 1 ≤ pc A
      · have := lpL 2 (by omega) (by omega) (p_fn J 50 (lkW (J 50) K q (nI (pc A)))) (fun a a1 a2 a3 a4 => by rw [pf_ne a1]; exact hJ a a1 a2 a3 a4) (fun j hj => ⟨fun l l1 l2 => by rw [pf_ne (by omega)]; exact (hS j hj).1 l l1 l2, fun x hx => by rw [pf_ne (by omega)]; exact (hS j hj).2 x hx⟩) (fun l l1 l2 => absurd l1 (by omega)) (fun j hj => by
          rw [pf_at, lkW_9 j (by omega)]
          unfold wEnv
          have : j = 0 ∨ j = 1 ∨ j = 2 ∨ j = 3 ∨ j = 4 ∨ j = 5 ∨ j = 6 ∨ j = 7 := by omega
          rcases this with rfl | rfl | rfl | rfl | rfl | rfl | rfl | rfl <;> rfl)
        generalize lkW (J 50) K q (nI (pc A)) = Z at *
        rw [P_run_eq, bk_38_1, pb_38_1]; simp -implicitDefEqProofs (disch := first | omega | decide) only [P_m, pw_iload_n2, pw_aload_n0, pw_aloadN_n0, pw_getR, pw_getI, pw_cge, pw_iv3, pw_iconst, il_2, pw_istore_n3, ps_3, pe_3, po_i3, po_r3, po_n3, po_u3, pw_nop, kd_48, rf_48_0, rf_48_6, rf_48_7, rf_48_8, rf_48_9, rf_48_10, rf_48_12, rf_48_13, rf_48_14, rf_48_15, rf_48_1, rf_48_2, kd_49, rf_49_0, rf_49_1, kd_71, rf_71_1, rf_71_3, rf_71_4, rf_71_5, rf_71_6, rf_71_11, rf_71_12, rf_71_14, n_0, n_1, n_2, nn_lt, nn_nlt, nn_le, nn_nle, nn_ne, nn_sub, nn_mul, nI_add, nn_neg, nm_eq, mn_eq, mm_eq, mn_lt, nm_lt, mn_le, nm_le, nn_sub0, nn_of, implies_true, nn_c, nn_in, nn_div, nat_rem, Nat.reduceMul, Nat.reduceSub, Nat.reduceDiv, Nat.reduceMod, pf_at, pf_ne, mk_s, mk_1, Classical.not_not, b2i_T, b2i_F, false_imp_iff, true_imp_iff, false_and, and_false, p_sw, Int.reduceAdd, Int.zero_add, Option.some.injEq, Value.int.injEq, Value.long.injEq, Value.ref.injEq, exists_eq_left', mk_I, mk_L, mk_wI, mk_wL, rf_s, rf_n, true_and, and_true, and_self, or_true, true_or, or_false, false_or, not_true_eq_false, not_false_eq_true, Option.toList_some, Option.toList_none, List.cons_append, List.nil_append, List.map_nil, List.map_cons, List.sum_nil, List.sum_cons, cat_i, cat_l, cat_r, cat_n, Nat.reduceLeDiff, Nat.reduceAdd, Nat.reduceEqDiff, Nat.zero_le, p_ent, p_u_ne, p_u_at, reduceIte, if_true, if_false, hr1, va_rs, j1, P_ce s24]
        exact this
      · have p0 : pc A = 0 := by omega
        have fJ : frP I (p_fn J 50 (lkW (J 50) K q (nI (pc A)))) := fun a a1 a2 a3 a4 => by rw [pf_ne a1]; exact hJ a a1 a2 a3 a4
        have := lpX 0 (by omega) (p_fn J 50 (lkW (J 50) K q (nI (pc A)))) fJ (fun j hj => ⟨fun l l1 l2 => by rw [pf_ne (by omega)]; exact (hS j hj).1 l l1 l2, fun x hx => by rw [pf_ne (by omega)]; exact (hS j hj).2 x hx⟩) (fun l l1 l2 => absurd l1 (by omega)) (fun x hx => absurd hx (by omega))
        have s1 := sp_12 (d := d + 2) (Ls := Ls) (I := p_fn J 50 (lkW (J 50) K q (nI (pc A)))) (L := L) (R := R) (X := X) k3 (by rw [fJ 71 (by omega) (by omega) (by omega) (by omega)]; exact r4.trans k1)
        rw [p0] at s1 this s24 ⊢
        generalize lkW (J 50) K q (nI 0) = Z at *
        rw [P_run_eq, bk_38_1, pb_38_1]; simp -implicitDefEqProofs (disch := first | omega | decide) only [P_m, ↓P_run_eq _ 38 _ (p_bk 38 2), bk_38_2, pb_38_2, ↓P_run_eq _ 38 _ (p_bk 38 8), bk_38_8, pb_38_8, pw_iload_n2, pw_aload_n0, pw_aloadN_n0, pw_getR, pw_getI, pw_cge, pw_iv3, pw_iconst, il_2, pw_istore_n3, ps_3, pe_3, po_i3, po_r3, po_n3, po_u3, pw_nop, pw_iload_n3, pw_iv1, pw_cgt, pw_bipush, bl_8, pw_iast, pw_iload_n1, pw_zeq, pw_iald, il_1, pw_cne, il_0, kd_48, rf_48_0, rf_48_6, rf_48_7, rf_48_8, rf_48_9, rf_48_10, rf_48_12, rf_48_13, rf_48_14, rf_48_15, rf_48_1, rf_48_2, kd_49, rf_49_0, rf_49_1, kd_71, rf_71_1, rf_71_3, rf_71_4, rf_71_5, rf_71_6, rf_71_11, rf_71_12, rf_71_14, n_0, n_1, n_2, n_8, nn_lt, nn_nlt, nn_le, nn_nle, nn_ne, nn_sub, nn_mul, nI_add, nn_neg, nm_eq, mn_eq, mm_eq, mn_lt, nm_lt, mn_le, nm_le, nn_sub0, nn_of, implies_true, nn_c, nn_in, nn_div, nat_rem, Nat.reduceMul, Nat.reduceSub, Nat.reduceDiv, Nat.reduceMod, pf_at, pf_ne, mk_s, mk_1, Classical.not_not, b2i_T, b2i_F, false_imp_iff, true_imp_iff, false_and, and_false, p_sw, Int.reduceAdd, Int.zero_add, Option.some.injEq, Value.int.injEq, Value.long.injEq, Value.ref.injEq, exists_eq_left', mk_I, mk_L, mk_wI, mk_wL, rf_s, rf_n, true_and, and_true, and_self, or_true, true_or, or_false, false_or, not_true_eq_false, not_false_eq_true, Option.toList_some, Option.toList_none, List.cons_append, List.nil_append, List.map_nil, List.map_cons, List.sum_nil, List.sum_cons, cat_i, cat_l, cat_r, cat_n, Nat.reduceLeDiff, Nat.reduceAdd, Nat.reduceEqDiff, Nat.zero_le, p_ent, p_u_ne, p_u_at, reduceIte, if_true, if_false, hr1, va_rs, j1, P_ce s24, P_ce s1]
        exact this
  have st := main 0 (by omega) I (fun _ _ _ _ _ => rfl) (fun j hj => absurd hj (by omega))
  have all : P_m (d + 4) 38 [.ref 48, .int (nI (bN so))] (p_mk Ls I L R X) (fun v h' => v = none ∧ ∃ J', frP I J' ∧ rqS n (pc A) c K so J' m ∧ h' = p_mk Ls J' L R X) := by
    simp -implicitDefEqProofs (disch := first | omega | decide) only [P_m, ↓P_run_eq _ 38 _ (p_bk 38 0), bk_38_0, pb_38_0, pw_iconst, il_0, pw_istore_n2, ps_2, pe_2, po_i2, po_r2, po_n2, po_u2, pw_nop, kd_48, rf_48_0, rf_48_6, rf_48_7, rf_48_8, rf_48_9, rf_48_10, rf_48_12, rf_48_13, rf_48_14, rf_48_15, rf_48_1, rf_48_2, n_0, n_1, nn_lt, nn_nlt, nn_le, nn_nle, nn_ne, nn_sub, nn_mul, nI_add, nn_neg, nm_eq, mn_eq, mm_eq, mn_lt, nm_lt, mn_le, nm_le, nn_sub0, nn_of, implies_true, nn_c, nn_in, nn_div, nat_rem, Nat.reduceMul, Nat.reduceSub, Nat.reduceDiv, Nat.reduceMod, pf_at, pf_ne, mk_s, mk_1, Classical.not_not, b2i_T, b2i_F, false_imp_iff, true_imp_iff, false_and, and_false, p_sw, Int.reduceAdd, Int.zero_add, Option.some.injEq, Value.int.injEq, Value.long.injEq, Value.ref.injEq, exists_eq_left', mk_I, mk_L, mk_wI, mk_wL, rf_s, rf_n, true_and, and_true, and_self, or_true, true_or, or_false, false_or, not_true_eq_false, not_false_eq_true, Option.toList_some, Option.toList_none, List.cons_append, List.nil_append, List.map_nil, List.map_cons, List.sum_nil, List.sum_cons, cat_i, cat_l, cat_r, cat_n, Nat.reduceLeDiff, Nat.reduceAdd, Nat.reduceEqDiff, Nat.zero_le, p_ent, p_u_ne, p_u_at, reduceIte, if_true, if_false]
    exact st
  obtain ⟨v, g, ⟨rfl, J', f1, f2, rfl⟩, s⟩ := P_mex all
  exact ⟨J', f1, f2, s⟩
end PE
