section PU
variable {d Ls : Nat} {I : Nat → Nat → Int32} {L : Nat → Nat → Int64} {R : Nat → Nat → Option Nat} {X : List pKd} {h : pHp} {c : Option (List tCl)}
def fsV (V : Option (Nat × Nat)) : Nat := match V with
  | none => 100
  | some b => b.2
theorem lp_229s {so md : Bool} {g : Option Nat} (hV : vld (I 125)) (hc : lawOf (I 125) c) (hg : ∀ k, g = some k → k < 256) : ∀ s, s ≤ kn (I 125) 0 + 1 → ∀ J, frF I J → tbR J (plT c (I 125) so md g s) (kn (I 125) 0) s → J 123 33 = nI (if s = kn (I 125) 0 + 1 then fsV (plV c (I 125) so md g) else 100) → P_run (d + 49) 229 (p_bk 229 1) 0 0 [.ref 123, .int (pnI g), .int (nI (bN so)), .int (nI (bN (!md))), .int (nI s)] [] (p_mk Ls J L R X) (fun v h' => v = some (.int (pfI ((plV c (I 125) so md g).map Prod.fst))) ∧ ∃ J', frF I J' ∧ J' 123 33 = nI (fsV (plV c (I 125) so md g)) ∧ h' = p_mk Ls J' L R X) := by
  obtain ⟨k1, k2, k3⟩ := kn_0 hV
  have vV : (plV c (I 125) so md g).map Prod.fst = plT c (I 125) so md g (kn (I 125) 0 + 1) (kn (I 125) 0) := by
    rw [plT_at]
    unfold plV
    by_cases t : tld g (kn (I 125) 0) = true
    · rw [if_pos t, if_pos t]; rfl
    · rw [if_neg t, if_neg t]
  refine down_ind ?_ ?_
  · intro J hJ hT h3
    rw [if_pos rfl] at h3
    have e125 : J 125 = I 125 := hJ.1 125 (by omega) (by omega) (by omega)
    have j0 : J 125 0 = nI (kn (I 125) 0) := by rw [e125]; exact k1
    have t1 := hT (kn (I 125) 0) (by omega) (dn_self _ k3)
    rw [← vV] at t1
    generalize kn (I 125) 0 = A at *
    generalize pnI g = G at *
    rw [P_run_eq, bk_229_1, pb_229_1]; simp -implicitDefEqProofs (disch := first | omega | decide) only [P_m, ↓P_run_eq _ 229 _ (p_bk 229 15), bk_229_15, pb_229_15, pw_iload_4, pw_aload_n0, pw_aloadN_n0, pw_getR, pw_iconst, il_0, pw_iald, pw_cgt, il_m1, pw_ixor, pw_iand, pw_zeq, pw_goto, pw_ret0, kd_123, rf_123_1, rf_123_2, rf_123_3, rf_123_4, rf_123_5, rf_123_7, rf_123_11, rf_123_12, rf_123_15, rf_123_16, rf_123_17, rf_123_26, rf_123_29, rf_123_30, rf_123_32, rf_123_34, rf_123_35, rf_123_45, kd_125, kd_138, n_0, n_1, nn_lt, nn_nlt, nn_le, nn_nle, nn_ne, nn_sub, nn_mul, nI_add, nn_neg, nm_eq, mn_eq, mm_eq, mn_lt, nm_lt, mn_le, nm_le, nn_sub0, nn_of, implies_true, nn_c, nn_in, nn_div, nat_rem, Nat.reduceMul, Nat.reduceSub, Nat.reduceDiv, Nat.reduceMod, pf_at, pf_ne, mk_s, mk_1, Classical.not_not, b2i_T, b2i_F, false_imp_iff, true_imp_iff, false_and, and_false, p_sw, Int.reduceAdd, Int.zero_add, Option.some.injEq, Value.int.injEq, Value.long.injEq, Value.ref.injEq, exists_eq_left', mk_I, mk_L, mk_wI, mk_wL, rf_s, rf_n, true_and, and_true, and_self, or_true, true_or, or_false, false_or, not_true_eq_false, not_false_eq_true, Option.toList_some, Option.toList_none, List.cons_append, List.nil_append, List.map_nil, List.map_cons, List.sum_nil, List.sum_cons, cat_i, cat_l, cat_r, cat_n, Nat.reduceLeDiff, Nat.reduceAdd, Nat.reduceEqDiff, Nat.zero_le, p_ent, p_u_ne, p_u_at, reduceIte, if_true, if_false, j0, t1]
    exact ⟨J, hJ, h3, rfl⟩
  · intro s hs ih J hJ hT h3
    have hs2 : s < 256 := by omega
    have e125 : J 125 = I 125 := hJ.1 125 (by omega) (by omega) (by omega)
    have j0 : J 125 0 = nI (kn (I 125) 0) := by rw [e125]; exact k1
    have e1 := dn_n hs2 k3
    have e2 := dn_lt (g := kn (I 125) 0) hs2
    rw [if_neg (by omega)] at h3
    by_cases hd : dn s (kn (I 125) 0) = 0
    · have s4 := sp_224 (d := d + 47) (h := p_mk Ls J L R X) hs2 hg
      rw [hd] at e1
      cases hl : tld g s with
      | true =>
        rw [hl] at s4
        replace s4 : P_m (d + 47 + 1) 224 [.int (nI s), .int (pnI g)] (p_mk Ls J L R X) (fun v h' => v = some (.int (nI 1)) ∧ h' = p_mk Ls J L R X) := s4
        have nx := ih (p_u J 138 s (nI 0)) ⟨fun a a1 a2 a3 => by rw [p_u_ne a3]; exact hJ.1 a a1 a2 a3, fun k b1 b2 b3 b4 b5 => by rw [p_u_ne (by omega)]; exact hJ.2 k b1 b2 b3 b4 b5⟩ (fun s' a1 a2 => by
            rw [p_u_at]
            by_cases e : s' = s
            · subst e; rw [if_pos rfl, plT_at, if_pos hl]; rfl
            · rw [if_neg e, plT_ne e]; exact hT s' (by omega) a2) (by
            rw [p_u_ne (by omega), h3]
            by_cases e : s = kn (I 125) 0
            · rw [if_pos (by omega)]
              have : plV c (I 125) so md g = some (0, 100) := if_pos (by rw [← e]; exact hl)
              rw [this]; rfl
            · rw [if_neg (by omega)])
        generalize plV c (I 125) so md g = PV at *
        generalize kn (I 125) 0 = A at *
        generalize pnI g = G at *
        rw [P_run_eq, bk_229_1, pb_229_1]; simp -implicitDefEqProofs (disch := first | omega | decide) only [P_m, ↓P_run_eq _ 229 _ (p_bk 229 2), bk_229_2, pb_229_2, ↓P_run_eq _ 229 _ (p_bk 229 4), bk_229_4, pb_229_4, ↓P_run_eq _ 229 _ (p_bk 229 14), bk_229_14, pb_229_14, pw_iload_4, pw_aload_n0, pw_aloadN_n0, pw_getR, pw_iconst, il_0, pw_iald, pw_cgt, il_m1, pw_ixor, pw_iand, pw_zeq, pw_goto, pw_iload_n1, pw_is2, pw_iast, pw_zne, pw_iinc_4, il_1, po_i4, po_r4, po_n4, po_u4, kd_123, rf_123_1, rf_123_2, rf_123_3, rf_123_4, rf_123_5, rf_123_7, rf_123_11, rf_123_12, rf_123_15, rf_123_16, rf_123_17, rf_123_26, rf_123_29, rf_123_30, rf_123_32, rf_123_34, rf_123_35, rf_123_45, kd_125, kd_138, n_0, n_1, nn_lt, nn_nlt, nn_le, nn_nle, nn_ne, nn_sub, nn_mul, nI_add, nn_neg, nm_eq, mn_eq, mm_eq, mn_lt, nm_lt, mn_le, nm_le, nn_sub0, nn_of, implies_true, nn_c, nn_in, nn_div, nat_rem, Nat.reduceMul, Nat.reduceSub, Nat.reduceDiv, Nat.reduceMod, pf_at, pf_ne, mk_s, mk_1, Classical.not_not, b2i_T, b2i_F, false_imp_iff, true_imp_iff, false_and, and_false, p_sw, Int.reduceAdd, Int.zero_add, Option.some.injEq, Value.int.injEq, Value.long.injEq, Value.ref.injEq, exists_eq_left', mk_I, mk_L, mk_wI, mk_wL, rf_s, rf_n, true_and, and_true, and_self, or_true, true_or, or_false, false_or, not_true_eq_false, not_false_eq_true, Option.toList_some, Option.toList_none, List.cons_append, List.nil_append, List.map_nil, List.map_cons, List.sum_nil, List.sum_cons, cat_i, cat_l, cat_r, cat_n, Nat.reduceLeDiff, Nat.reduceAdd, Nat.reduceEqDiff, Nat.zero_le, p_ent, p_u_ne, p_u_at, reduceIte, if_true, if_false, j0, e1, P_ce s4]
        exact nx
      | false =>
        rw [hl] at s4
        replace s4 : P_m (d + 47 + 1) 224 [.int (nI s), .int (pnI g)] (p_mk Ls J L R X) (fun v h' => v = some (.int (nI 0)) ∧ h' = p_mk Ls J L R X) := s4
        have nx := lp_229 (d := d) (Ls := Ls) (I := I) (L := L) (R := R) (X := X) (c := c) (so := so) (md := md) (g := g) (s := s) (Q := fun v h' => v = some (.int (pfI ((plV c (I 125) so md g).map Prod.fst))) ∧ ∃ J', frF I J' ∧ J' 123 33 = nI (fsV (plV c (I 125) so md g)) ∧ h' = p_mk Ls J' L R X) hV hc hg hs2 hd hl (fun J' f1 f2 f3 f4 => ih J' f1 (fun s' a1 a2 => by
            by_cases e : s' = s
            · subst e; rw [f3, plT_at, if_neg (by rw [hl]; decide)]
            · rw [plT_ne e]; exact f2 s' (by omega) a2) (by
            rw [f4]
            unfold fsN
            by_cases e : s = kn (I 125) 0
            · rw [if_pos e, if_pos (by omega)]
              have : plV c (I 125) so md g = plC c (I 125) so md g s := by
                unfold plV
                rw [← e, if_neg (by rw [hl]; decide)]
              rw [this]; rfl
            · rw [if_neg e, if_neg (by omega)])) 0 (by omega) (p_u J 138 s (nI 1000000)) ⟨fun a a1 a2 a3 => by rw [p_u_ne a3]; exact hJ.1 a a1 a2 a3, fun k b1 b2 b3 b4 b5 => by rw [p_u_ne (by omega)]; exact hJ.2 k b1 b2 b3 b4 b5⟩ (fun s' a1 a2 => by rw [p_u_at, if_neg (by omega)]; exact hT s' a1 a2) (by rw [p_u_at, if_pos rfl]; rfl) (by
            rw [p_u_ne (by omega), h3]
            unfold fsN
            by_cases e : s = kn (I 125) 0
            · rw [if_pos e]; rfl
            · rw [if_neg e])
        generalize plV c (I 125) so md g = PV at *
        generalize kn (I 125) 0 = A at *
        generalize pnI g = G at *
        have pu : p_u J 138 s (nI 1000000) 138 s = nI 1000000 := by rw [p_u_at, if_pos rfl]
        rw [P_run_eq, bk_229_1, pb_229_1]; simp -implicitDefEqProofs (disch := first | omega | decide) only [P_m, ↓P_run_eq _ 229 _ (p_bk 229 2), bk_229_2, pb_229_2, ↓P_run_eq _ 229 _ (p_bk 229 3), bk_229_3, pb_229_3, ↓P_run_eq _ 229 _ (p_bk 229 4), bk_229_4, pb_229_4, ↓P_run_eq _ 229 _ (p_bk 229 5), bk_229_5, pb_229_5, pw_iload_4, pw_aload_n0, pw_aloadN_n0, pw_getR, pw_iconst, il_0, pw_iald, pw_cgt, il_m1, pw_ixor, pw_iand, pw_zeq, pw_goto, pw_iload_n1, pw_is2, pw_ldc, cn_6, pw_nop, pw_iast, pw_zne, pw_istore, ps_5, pe_5, po_i5, po_r5, po_n5, po_u5, kd_123, rf_123_1, rf_123_2, rf_123_3, rf_123_4, rf_123_5, rf_123_7, rf_123_11, rf_123_12, rf_123_15, rf_123_16, rf_123_17, rf_123_26, rf_123_29, rf_123_30, rf_123_32, rf_123_34, rf_123_35, rf_123_45, kd_125, kd_138, n_0, n_1, nn_lt, nn_nlt, nn_le, nn_nle, nn_ne, nn_sub, nn_mul, nI_add, nn_neg, nm_eq, mn_eq, mm_eq, mn_lt, nm_lt, mn_le, nm_le, nn_sub0, nn_of, implies_true, nn_c, nn_in, nn_div, nat_rem, Nat.reduceMul, Nat.reduceSub, Nat.reduceDiv, Nat.reduceMod, pf_at, pf_ne, mk_s, mk_1, Classical.not_not, b2i_T, b2i_F, false_imp_iff, true_imp_iff, false_and, and_false, p_sw, Int.reduceAdd, Int.zero_add, Option.some.injEq, Value.int.injEq, Value.long.injEq, Value.ref.injEq, exists_eq_left', mk_I, mk_L, mk_wI, mk_wL, rf_s, rf_n, true_and, and_true, and_self, or_true, true_or, or_false, false_or, not_true_eq_false, not_false_eq_true, Option.toList_some, Option.toList_none, List.cons_append, List.nil_append, List.map_nil, List.map_cons, List.sum_nil, List.sum_cons, cat_i, cat_l, cat_r, cat_n, Nat.reduceLeDiff, Nat.reduceAdd, Nat.reduceEqDiff, Nat.zero_le, p_ent, p_u_ne, p_u_at, reduceIte, if_true, if_false, n_1000000, j0, e1, pu, P_ce s4]
        exact nx
    · have nA : ¬ s = kn (I 125) 0 := fun e => hd (by rw [e]; exact dn_self _ k3)
      have nx := ih J hJ (fun s' h1 h2 => by
        have e : ¬ s' = s := fun e => by rw [e] at h2; exact hd h2
        rw [plT_ne e]; exact hT s' (by omega) h2) (by rw [if_neg (by omega)]; exact h3)
      generalize dn s (kn (I 125) 0) = D at *
      generalize plV c (I 125) so md g = PV at *
      generalize kn (I 125) 0 = A at *
      generalize pnI g = G at *
      rw [P_run_eq, bk_229_1, pb_229_1]; simp -implicitDefEqProofs (disch := first | omega | decide) only [P_m, ↓P_run_eq _ 229 _ (p_bk 229 14), bk_229_14, pb_229_14, pw_iload_4, pw_aload_n0, pw_aloadN_n0, pw_getR, pw_iconst, il_0, pw_iald, pw_cgt, il_m1, pw_ixor, pw_iand, pw_zeq, pw_goto, pw_iinc_4, il_1, po_i4, po_r4, po_n4, po_u4, kd_123, rf_123_1, rf_123_2, rf_123_3, rf_123_4, rf_123_5, rf_123_7, rf_123_11, rf_123_12, rf_123_15, rf_123_16, rf_123_17, rf_123_26, rf_123_29, rf_123_30, rf_123_32, rf_123_34, rf_123_35, rf_123_45, kd_125, n_0, n_1, nn_lt, nn_nlt, nn_le, nn_nle, nn_ne, nn_sub, nn_mul, nI_add, nn_neg, nm_eq, mn_eq, mm_eq, mn_lt, nm_lt, mn_le, nm_le, nn_sub0, nn_of, implies_true, nn_c, nn_in, nn_div, nat_rem, Nat.reduceMul, Nat.reduceSub, Nat.reduceDiv, Nat.reduceMod, pf_at, pf_ne, mk_s, mk_1, Classical.not_not, b2i_T, b2i_F, false_imp_iff, true_imp_iff, false_and, and_false, p_sw, Int.reduceAdd, Int.zero_add, Option.some.injEq, Value.int.injEq, Value.long.injEq, Value.ref.injEq, exists_eq_left', mk_I, mk_L, mk_wI, mk_wL, rf_s, rf_n, true_and, and_true, and_self, or_true, true_or, or_false, false_or, not_true_eq_false, not_false_eq_true, Option.toList_some, Option.toList_none, List.cons_append, List.nil_append, List.map_nil, List.map_cons, List.sum_nil, List.sum_cons, cat_i, cat_l, cat_r, cat_n, Nat.reduceLeDiff, Nat.reduceAdd, Nat.reduceEqDiff, Nat.zero_le, p_ent, p_u_ne, p_u_at, reduceIte, if_true, if_false, j0, e1]
      exact nx
theorem pl_229 {so md : Bool} {g : Option Nat} (hV : vld (I 125)) (hc : lawOf (I 125) c) (hg : ∀ k, g = some k → k < 256) : ∃ J, frF I J ∧ J 123 33 = nI (fsV (plV c (I 125) so md g)) ∧ P_m (d + 49) 229 [.ref 123, .int (pnI g), .int (nI (bN so)), .int (nI (bN (!md)))] (p_mk Ls I L R X) (fun v h' => v = some (.int (pfI ((plV c (I 125) so md g).map Prod.fst))) ∧ h' = p_mk Ls J L R X) := by
  have lp := lp_229s (d := d) (Ls := Ls) (L := L) (R := R) (X := X) (so := so) (md := md) hV hc hg 0 (by omega) (p_u I 123 33 (nI 100)) ⟨fun a a1 a2 a3 => p_u_ne a1, fun k b1 b2 b3 b4 b5 => by rw [p_u_at, if_neg b5]⟩ (fun s' h => absurd h (by omega)) (by rw [p_u_at, if_pos rfl, if_neg (by omega)])
  have all : P_m (d + 49) 229 [.ref 123, .int (pnI g), .int (nI (bN so)), .int (nI (bN (!md)))] (p_mk Ls I L R X) (fun v h' => v = some (.int (pfI ((plV c (I 125) so md g).map Prod.fst))) ∧ ∃ J', frF I J' ∧ J' 123 33 = nI (fsV (plV c (I 125) so md g)) ∧ h' = p_mk Ls J' L R X) := by
    generalize plV c (I 125) so md g = PV at *
    generalize pnI g = G at *
    simp -implicitDefEqProofs (disch := first | omega | decide) only [P_m, ↓P_run_eq _ 229 _ (p_bk 229 0), bk_229_0, pb_229_0, pw_aload_n0, pw_aloadN_n0, pw_bipush, bl_100, pw_putI, pw_iconst, il_0, pw_istore, ps_4, pe_4, po_i4, po_r4, po_n4, po_u4, pw_nop, kd_123, rf_123_1, rf_123_2, rf_123_3, rf_123_4, rf_123_5, rf_123_7, rf_123_11, rf_123_12, rf_123_15, rf_123_16, rf_123_17, rf_123_26, rf_123_29, rf_123_30, rf_123_32, rf_123_34, rf_123_35, rf_123_45, n_0, n_1, n_100, nn_lt, nn_nlt, nn_le, nn_nle, nn_ne, nn_sub, nn_mul, nI_add, nn_neg, nm_eq, mn_eq, mm_eq, mn_lt, nm_lt, mn_le, nm_le, nn_sub0, nn_of, implies_true, nn_c, nn_in, nn_div, nat_rem, Nat.reduceMul, Nat.reduceSub, Nat.reduceDiv, Nat.reduceMod, pf_at, pf_ne, mk_s, mk_1, Classical.not_not, b2i_T, b2i_F, false_imp_iff, true_imp_iff, false_and, and_false, p_sw, Int.reduceAdd, Int.zero_add, Option.some.injEq, Value.int.injEq, Value.long.injEq, Value.ref.injEq, exists_eq_left', mk_I, mk_L, mk_wI, mk_wL, rf_s, rf_n, true_and, and_true, and_self, or_true, true_or, or_false, false_or, not_true_eq_false, not_false_eq_true, Option.toList_some, Option.toList_none, List.cons_append, List.nil_append, List.map_nil, List.map_cons, List.sum_nil, List.sum_cons, cat_i, cat_l, cat_r, cat_n, Nat.reduceLeDiff, Nat.reduceAdd, Nat.reduceEqDiff, Nat.zero_le, p_ent, p_u_ne, p_u_at, reduceIte, if_true, if_false]
    exact lp
  obtain ⟨v, g', ⟨rfl, J', f2, f3, rfl⟩, s⟩ := P_mex all
  exact ⟨J', f2, f3, s⟩
end PU
