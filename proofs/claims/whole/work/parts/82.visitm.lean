theorem nx_day {c : Option (List tCl)} {K : Nat → Int32} {kd : Nat} {v : Int32} (hV : vld K) (hk : kd = 0 ∨ kd = 3) : nxK c K kd v 3 = K 3 := by
  rcases hk with rfl | rfl
  · have aw : actW c K 0 v = (if isQ K v = true then (if canA c K v.toNatClampNeg = true then (askA c K v.toNatClampNeg, askW c K v.toNatClampNeg) else (-3, [])) else (-2, [])) := rfl
    unfold nxK
    rw [aw]
    split
    · split
      · show upd (upd (upd K 0 _) 2 _) (5 + _) _ 3 = _
        rw [upd_ne (by omega), upd_ne (by omega), upd_ne (by omega)]
      · rfl
    · rfl
  · have aw : actW c K 3 v = (if isT K v = true then (nI (kn K 52), hidW K v) else (-2, [])) := rfl
    unfold nxK
    rw [aw]
    split
    · rfl
    · rfl
theorem vlp_day {K0 : Nat → Int32} {c : Option (List tCl)} {m : Nat} : ∀ (n : Nat) (x : (Nat → Int32) × Nat), dOk K0 c x.1 → kn (vlp c m n x).1 3 = kn x.1 3
  | 0, x, _ => rfl
  | n + 1, x, h => by
    unfold vlp
    split
    · rfl
    · generalize drw x.2 = z
      rw [vlp_day n (nxK c x.1 0 (nI (z % m)), z) (dOk_nx h)]
      unfold kn
      dsimp only
      rw [nx_day h.1 (Or.inl rfl)]
theorem vis_day {K0 : Nat → Int32} {c : Option (List tCl)} {n m : Nat} {x : (Nat → Int32) × Nat} (h : dOk K0 c x.1) : kn (vis c n m x).1 3 = kn x.1 3 := by
  unfold vis
  generalize drw x.2 = z
  rw [vlp_day (K0 := K0) 8 (nxK c x.1 3 (nI (z % n)), z) (dOk_nx h)]
  unfold kn
  dsimp only
  rw [nx_day h.1 (Or.inr rfl)]
section VM
variable {Ls : Nat} {I : Nat → Nat → Int32} {L : Nat → Nat → Int64} {R : Nat → Nat → Option Nat} {X : List pKd} {c : Option (List tCl)} {K K0 : Nat → Int32}
/-- all but what draws write on the reference's side -/
def frR (I J : Nat → Nat → Int32) : Prop := (∀ a, ¬ a = 123 → ¬ a = 125 → ¬ a = 135 → J a = I a) ∧ ∀ k, ¬ (22 ≤ k ∧ k ≤ 25) → ¬ k = 47 → J 123 k = I 123 k
theorem frR_tr {I J K : Nat → Nat → Int32} (h1 : frR I J) (h2 : frR J K) : frR I K := ⟨fun a a1 a2 a3 => (h2.1 a a1 a2 a3).trans (h1.1 a a1 a2 a3), fun k k1 k2 => (h2.2 k k1 k2).trans (h1.2 k k1 k2)⟩
theorem asd_m {D s m : Nat} (h : Cm I K c) (em : kn K 53 = m) (h0 : 0 < m) (hs : s < 1000003) (e46 : I 123 46 = nI m) (e47 : I 123 47 = nI s) (hD : 50 ≤ D) : ∃ J, frR I J ∧ J 125 = nxK c K 0 (nI (drw s % m)) ∧ J 123 47 = nI (drw s) ∧ P_m D 259 [.ref 123] (p_mk Ls I L R X) (fun v h' => v = none ∧ h' = p_mk Ls J L R X) := by
  obtain ⟨D', rfl⟩ : ∃ D', D = D' + 1 := ⟨D - 1, by omega⟩
  have hV := h.2.1
  obtain ⟨m1, m2⟩ := kn_53 hV
  have hz := drw_lt s
  have s0 := sp_258 (d := D') (Ls := Ls) (I := I) (L := L) (R := R) (X := X) (m := m) hs h0 (by omega) e47
  generalize drw s = z at *
  have hq : z % m < m := Nat.mod_lt _ h0
  generalize z % m = q at *
  have hq8 : q < 8 := by omega
  have h1 : Cm (p_u I 123 47 (nI z)) K c := ⟨by rw [p_u_ne (by omega)]; exact h.1, h.2⟩
  obtain ⟨J1, f1, s1⟩ := can_m (Ls := Ls) (L := L) (R := R) (X := X) (D := D') h1 hq8 (by omega)
  have h2 := Cm_E h1 f1
  have aw : actW c K 0 (nI q) = (if canA c K q = true then (askA c K q, askW c K q) else (-3, [])) := by
    show (if isQ K (nI q) = true then _ else _) = _
    obtain ⟨g1, -⟩ := rg_t (m := kn K 53) (by omega : q < kn K 53) (by omega)
    unfold isQ
    rw [m1, if_pos (by rw [decide_eq_true g1.1, decide_eq_true g1.2]; rfl), nI_clamp (by omega)]
  unfold nxK
  rw [aw]
  by_cases hc : canA c K q = true
  · rw [if_pos hc]
    rw [hc, bI_t] at s1
    have hc' := hc
    unfold canA at hc'
    simp only [Bool.and_eq_true, decide_eq_true_eq] at hc'
    obtain ⟨J2, f2, s2⟩ := asks_m (Ls := Ls) (L := L) (R := R) (X := X) (D := D') h2 hq8 hc'.1 hc'.2.2 (by omega)
    refine ⟨J2, ⟨fun a a1 a2 a3 => ?_, fun k k1 k2 => ?_⟩, ?_, ?_, ?_⟩
    · rw [f2.1 a a1 a3, pf_ne a2, f1.1 a a1 a3, p_u_ne a1]
    · rw [f2.2 k (by omega) (by omega) (by omega) (by omega), pf_ne (by omega), f1.2 k (by omega) (by omega) (by omega) (by omega), p_u_at, if_neg k2]
    · rw [f2.1 125 (by omega) (by omega), pf_at]
    · rw [f2.2 47 (by omega) (by omega) (by omega) (by omega), pf_ne (by omega), f1.2 47 (by omega) (by omega) (by omega) (by omega), p_u_at, if_pos rfl]
    · generalize askA c K q = w at s2
      simp -implicitDefEqProofs (disch := first | omega | decide) only [P_m, ↓P_run_eq _ 259 _ (p_bk 259 0), bk_259_0, pb_259_0, ↓P_run_eq _ 259 _ (p_bk 259 1), bk_259_1, pb_259_1, pw_aload_n0, pw_aloadN_n0, pw_getI, pw_iv2, pw_istore_n1, ps_1, pe_1, po_i1, po_r1, po_n1, po_u1, pw_iload_n1, pw_zeq, pw_popi, pw_popr, pw_nop, pw_vret, kd_123, rf_123_1, rf_123_2, rf_123_3, rf_123_4, rf_123_5, rf_123_7, rf_123_11, rf_123_12, rf_123_15, rf_123_16, rf_123_17, rf_123_26, rf_123_29, rf_123_30, rf_123_32, rf_123_34, rf_123_35, rf_123_45, n_0, n_1, nn_lt, nn_nlt, nn_le, nn_nle, nn_ne, nn_sub, nn_mul, nI_add, nn_neg, nm_eq, mn_eq, mm_eq, mn_lt, nm_lt, mn_le, nm_le, nn_sub0, nn_of, implies_true, nn_c, nn_in, nn_div, nat_rem, Nat.reduceMul, Nat.reduceSub, Nat.reduceDiv, Nat.reduceMod, pf_at, pf_ne, mk_s, mk_1, Classical.not_not, b2i_T, b2i_F, false_imp_iff, true_imp_iff, false_and, and_false, p_sw, Int.reduceAdd, Int.zero_add, Option.some.injEq, Value.int.injEq, Value.long.injEq, Value.ref.injEq, exists_eq_left', mk_I, mk_L, mk_wI, mk_wL, rf_s, rf_n, true_and, and_true, and_self, or_true, true_or, or_false, false_or, not_true_eq_false, not_false_eq_true, Option.toList_some, Option.toList_none, List.cons_append, List.nil_append, List.map_nil, List.map_cons, List.sum_nil, List.sum_cons, cat_i, cat_l, cat_r, cat_n, Nat.reduceLeDiff, Nat.reduceAdd, Nat.reduceEqDiff, Nat.zero_le, p_ent, p_u_ne, p_u_at, reduceIte, if_true, if_false, e46, P_ce s0, P_ce s1, P_ce s2]
  · rw [if_neg hc]
    have hc' : canA c K q = false := by cases hh : canA c K q with
      | true => exact absurd hh hc
      | false => rfl
    rw [hc', bI_f] at s1
    refine ⟨J1, ⟨fun a a1 a2 a3 => ?_, fun k k1 k2 => ?_⟩, h2.1, ?_, ?_⟩
    · rw [f1.1 a a1 a3, p_u_ne a1]
    · rw [f1.2 k (by omega) (by omega) (by omega) (by omega), p_u_at, if_neg k2]
    · rw [f1.2 47 (by omega) (by omega) (by omega) (by omega), p_u_at, if_pos rfl]
    · simp -implicitDefEqProofs (disch := first | omega | decide) only [P_m, ↓P_run_eq _ 259 _ (p_bk 259 0), bk_259_0, pb_259_0, ↓P_run_eq _ 259 _ (p_bk 259 1), bk_259_1, pb_259_1, pw_aload_n0, pw_aloadN_n0, pw_getI, pw_iv2, pw_istore_n1, ps_1, pe_1, po_i1, po_r1, po_n1, po_u1, pw_iload_n1, pw_zeq, pw_popi, pw_popr, pw_nop, pw_vret, kd_123, rf_123_1, rf_123_2, rf_123_3, rf_123_4, rf_123_5, rf_123_7, rf_123_11, rf_123_12, rf_123_15, rf_123_16, rf_123_17, rf_123_26, rf_123_29, rf_123_30, rf_123_32, rf_123_34, rf_123_35, rf_123_45, n_0, n_1, nn_lt, nn_nlt, nn_le, nn_nle, nn_ne, nn_sub, nn_mul, nI_add, nn_neg, nm_eq, mn_eq, mm_eq, mn_lt, nm_lt, mn_le, nm_le, nn_sub0, nn_of, implies_true, nn_c, nn_in, nn_div, nat_rem, Nat.reduceMul, Nat.reduceSub, Nat.reduceDiv, Nat.reduceMod, pf_at, pf_ne, mk_s, mk_1, Classical.not_not, b2i_T, b2i_F, false_imp_iff, true_imp_iff, false_and, and_false, p_sw, Int.reduceAdd, Int.zero_add, Option.some.injEq, Value.int.injEq, Value.long.injEq, Value.ref.injEq, exists_eq_left', mk_I, mk_L, mk_wI, mk_wL, rf_s, rf_n, true_and, and_true, and_self, or_true, true_or, or_false, false_or, not_true_eq_false, not_false_eq_true, Option.toList_some, Option.toList_none, List.cons_append, List.nil_append, List.map_nil, List.map_cons, List.sum_nil, List.sum_cons, cat_i, cat_l, cat_r, cat_n, Nat.reduceLeDiff, Nat.reduceAdd, Nat.reduceEqDiff, Nat.zero_le, p_ent, p_u_ne, p_u_at, reduceIte, if_true, if_false, e46, P_ce s0, P_ce s1]
theorem lp_260 {D : Nat} (hD : 51 ≤ D) (hm0 : 0 < kn K0 53) : ∀ n, n ≤ 8 → ∀ (I : Nat → Nat → Int32) (K : Nat → Int32) (s : Nat), Cm I K c → dOk K0 c K → s < 1000003 → I 123 46 = nI (kn K0 53) → I 123 47 = nI s → kn K 3 < 999 → ∃ J, frR I J ∧ J 125 = nxK c (vlp c (kn K0 53) n (K, s)).1 2 (nI 0) ∧ J 123 47 = nI (vlp c (kn K0 53) n (K, s)).2 ∧ P_run D 260 (p_bk 260 1) 0 0 [.ref 123, .int (nI (8 - n))] [] (p_mk Ls I L R X) (fun v h' => v = some (.int (nI (if pc (kn (vlp c (kn K0 53) n (K, s)).1 0) = 1 then 1 else 0))) ∧ h' = p_mk Ls J L R X) := by
  obtain ⟨D', rfl⟩ : ∃ D', D = D' + 2 := ⟨D - 2, by omega⟩
  have tail : ∀ (i : Nat) (I : Nat → Nat → Int32) (K : Nat → Int32) (s : Nat), i ≤ 8 → (i = 8 ∨ pc (kn K 0) ≤ 1) → Cm I K c → I 123 47 = nI s → kn K 3 < 999 → ∃ J, frR I J ∧ J 125 = nxK c K 2 (nI 0) ∧ J 123 47 = nI s ∧ P_run (D' + 2) 260 (p_bk 260 1) 0 0 [.ref 123, .int (nI i)] [] (p_mk Ls I L R X) (fun v h' => v = some (.int (nI (if pc (kn K 0) = 1 then 1 else 0))) ∧ h' = p_mk Ls J L R X) := by
    intro i I K s hi hor h e47 h3
    have s1 := lf_m (Ls := Ls) (L := L) (R := R) (X := X) (d := D') h
    have s2 := day_m (Ls := Ls) (L := L) (R := R) (X := X) (d := D') h
    have en : nxK c K 2 (nI 0) = updL K [(3, nI (kn K 3 + 1)), (1, nI (kn K 1 - 1))] := by
      unfold nxK actW; rw [if_neg (by omega), if_neg (by omega), if_pos rfl, if_pos h3]
    rw [← en] at s2
    have hV := h.2.1
    have k0 : nxK c K 2 (nI 0) 0 = K 0 := by rw [en]; rfl
    obtain ⟨k1, k2, k3⟩ := kn_0 hV
    have s3 := sp_196 (d := D') (Ls := Ls) (I := p_fn I 125 (nxK c K 2 (nI 0))) (L := L) (R := R) (X := X) k3 (by rw [pf_at, k0]; exact k1)
    have pl := pc_le (kn K 0)
    refine ⟨p_fn I 125 (nxK c K 2 (nI 0)), ⟨fun a a1 a2 a3 => pf_ne a2, fun k k1 k2 => by rw [pf_ne (by omega)]⟩, pf_at, by rw [pf_ne (by omega)]; exact e47, ?_⟩
    generalize nxK c K 2 (nI 0) = KK at *
    rcases hor with h8 | h8
    · subst h8
      by_cases hp : pc (kn K 0) = 1
      · rw [hp] at s3; rw [if_pos hp]
        rw [P_run_eq, bk_260_1, pb_260_1]; simp -implicitDefEqProofs (disch := first | omega | decide) only [P_m, ↓P_run_eq _ 260 _ (p_bk 260 2), bk_260_2, pb_260_2, ↓P_run_eq _ 260 _ (p_bk 260 3), bk_260_3, pb_260_3, ↓P_run_eq _ 260 _ (p_bk 260 4), bk_260_4, pb_260_4, pw_iload_n1, pw_bipush, bl_8, pw_cge, pw_aload_n0, pw_aloadN_n0, pw_iv1, pw_iconst, il_1, pw_cle, pw_iinc_1, po_i1, po_r1, po_n1, po_u1, pw_goto, pw_cne, il_0, pw_nop, pw_ret1, kd_123, rf_123_1, rf_123_2, rf_123_3, rf_123_4, rf_123_5, rf_123_7, rf_123_11, rf_123_12, rf_123_15, rf_123_16, rf_123_17, rf_123_26, rf_123_29, rf_123_30, rf_123_32, rf_123_34, rf_123_35, rf_123_45, n_0, n_1, n_8, nn_lt, nn_nlt, nn_le, nn_nle, nn_ne, nn_sub, nn_mul, nI_add, nn_neg, nm_eq, mn_eq, mm_eq, mn_lt, nm_lt, mn_le, nm_le, nn_sub0, nn_of, implies_true, nn_c, nn_in, nn_div, nat_rem, Nat.reduceMul, Nat.reduceSub, Nat.reduceDiv, Nat.reduceMod, pf_at, pf_ne, mk_s, mk_1, Classical.not_not, b2i_T, b2i_F, false_imp_iff, true_imp_iff, false_and, and_false, p_sw, Int.reduceAdd, Int.zero_add, Option.some.injEq, Value.int.injEq, Value.long.injEq, Value.ref.injEq, exists_eq_left', mk_I, mk_L, mk_wI, mk_wL, rf_s, rf_n, true_and, and_true, and_self, or_true, true_or, or_false, false_or, not_true_eq_false, not_false_eq_true, Option.toList_some, Option.toList_none, List.cons_append, List.nil_append, List.map_nil, List.map_cons, List.sum_nil, List.sum_cons, cat_i, cat_l, cat_r, cat_n, Nat.reduceLeDiff, Nat.reduceAdd, Nat.reduceEqDiff, Nat.zero_le, p_ent, p_u_ne, p_u_at, reduceIte, if_true, if_false, P_ce s1, P_ce s2, P_ce s3]
      · rw [if_neg hp]
        rw [P_run_eq, bk_260_1, pb_260_1]; simp -implicitDefEqProofs (disch := first | omega | decide) only [P_m, ↓P_run_eq _ 260 _ (p_bk 260 2), bk_260_2, pb_260_2, ↓P_run_eq _ 260 _ (p_bk 260 3), bk_260_3, pb_260_3, ↓P_run_eq _ 260 _ (p_bk 260 4), bk_260_4, pb_260_4, pw_iload_n1, pw_bipush, bl_8, pw_cge, pw_aload_n0, pw_aloadN_n0, pw_iv1, pw_iconst, il_1, pw_cle, pw_iinc_1, po_i1, po_r1, po_n1, po_u1, pw_goto, pw_cne, il_0, pw_nop, pw_ret1, kd_123, rf_123_1, rf_123_2, rf_123_3, rf_123_4, rf_123_5, rf_123_7, rf_123_11, rf_123_12, rf_123_15, rf_123_16, rf_123_17, rf_123_26, rf_123_29, rf_123_30, rf_123_32, rf_123_34, rf_123_35, rf_123_45, n_0, n_1, n_8, nn_lt, nn_nlt, nn_le, nn_nle, nn_ne, nn_sub, nn_mul, nI_add, nn_neg, nm_eq, mn_eq, mm_eq, mn_lt, nm_lt, mn_le, nm_le, nn_sub0, nn_of, implies_true, nn_c, nn_in, nn_div, nat_rem, Nat.reduceMul, Nat.reduceSub, Nat.reduceDiv, Nat.reduceMod, pf_at, pf_ne, mk_s, mk_1, Classical.not_not, b2i_T, b2i_F, false_imp_iff, true_imp_iff, false_and, and_false, p_sw, Int.reduceAdd, Int.zero_add, Option.some.injEq, Value.int.injEq, Value.long.injEq, Value.ref.injEq, exists_eq_left', mk_I, mk_L, mk_wI, mk_wL, rf_s, rf_n, true_and, and_true, and_self, or_true, true_or, or_false, false_or, not_true_eq_false, not_false_eq_true, Option.toList_some, Option.toList_none, List.cons_append, List.nil_append, List.map_nil, List.map_cons, List.sum_nil, List.sum_cons, cat_i, cat_l, cat_r, cat_n, Nat.reduceLeDiff, Nat.reduceAdd, Nat.reduceEqDiff, Nat.zero_le, p_ent, p_u_ne, p_u_at, reduceIte, if_true, if_false, P_ce s1, P_ce s2, P_ce s3]
    · rcases Nat.lt_or_ge i 8 with hi8 | hi8
      · by_cases hp : pc (kn K 0) = 1
        · rw [hp] at s3 s1; rw [if_pos hp]
          rw [P_run_eq, bk_260_1, pb_260_1]; simp -implicitDefEqProofs (disch := first | omega | decide) only [P_m, ↓P_run_eq _ 260 _ (p_bk 260 2), bk_260_2, pb_260_2, ↓P_run_eq _ 260 _ (p_bk 260 3), bk_260_3, pb_260_3, ↓P_run_eq _ 260 _ (p_bk 260 4), bk_260_4, pb_260_4, pw_iload_n1, pw_bipush, bl_8, pw_cge, pw_aload_n0, pw_aloadN_n0, pw_iv1, pw_iconst, il_1, pw_cle, pw_iinc_1, po_i1, po_r1, po_n1, po_u1, pw_goto, pw_cne, il_0, pw_nop, pw_ret1, kd_123, rf_123_1, rf_123_2, rf_123_3, rf_123_4, rf_123_5, rf_123_7, rf_123_11, rf_123_12, rf_123_15, rf_123_16, rf_123_17, rf_123_26, rf_123_29, rf_123_30, rf_123_32, rf_123_34, rf_123_35, rf_123_45, n_0, n_1, n_8, nn_lt, nn_nlt, nn_le, nn_nle, nn_ne, nn_sub, nn_mul, nI_add, nn_neg, nm_eq, mn_eq, mm_eq, mn_lt, nm_lt, mn_le, nm_le, nn_sub0, nn_of, implies_true, nn_c, nn_in, nn_div, nat_rem, Nat.reduceMul, Nat.reduceSub, Nat.reduceDiv, Nat.reduceMod, pf_at, pf_ne, mk_s, mk_1, Classical.not_not, b2i_T, b2i_F, false_imp_iff, true_imp_iff, false_and, and_false, p_sw, Int.reduceAdd, Int.zero_add, Option.some.injEq, Value.int.injEq, Value.long.injEq, Value.ref.injEq, exists_eq_left', mk_I, mk_L, mk_wI, mk_wL, rf_s, rf_n, true_and, and_true, and_self, or_true, true_or, or_false, false_or, not_true_eq_false, not_false_eq_true, Option.toList_some, Option.toList_none, List.cons_append, List.nil_append, List.map_nil, List.map_cons, List.sum_nil, List.sum_cons, cat_i, cat_l, cat_r, cat_n, Nat.reduceLeDiff, Nat.reduceAdd, Nat.reduceEqDiff, Nat.zero_le, p_ent, p_u_ne, p_u_at, reduceIte, if_true, if_false, P_ce s1, P_ce s2, P_ce s3]
        · rw [if_neg hp]
          rw [P_run_eq, bk_260_1, pb_260_1]; simp -implicitDefEqProofs (disch := first | omega | decide) only [P_m, ↓P_run_eq _ 260 _ (p_bk 260 2), bk_260_2, pb_260_2, ↓P_run_eq _ 260 _ (p_bk 260 3), bk_260_3, pb_260_3, ↓P_run_eq _ 260 _ (p_bk 260 4), bk_260_4, pb_260_4, pw_iload_n1, pw_bipush, bl_8, pw_cge, pw_aload_n0, pw_aloadN_n0, pw_iv1, pw_iconst, il_1, pw_cle, pw_iinc_1, po_i1, po_r1, po_n1, po_u1, pw_goto, pw_cne, il_0, pw_nop, pw_ret1, kd_123, rf_123_1, rf_123_2, rf_123_3, rf_123_4, rf_123_5, rf_123_7, rf_123_11, rf_123_12, rf_123_15, rf_123_16, rf_123_17, rf_123_26, rf_123_29, rf_123_30, rf_123_32, rf_123_34, rf_123_35, rf_123_45, n_0, n_1, n_8, nn_lt, nn_nlt, nn_le, nn_nle, nn_ne, nn_sub, nn_mul, nI_add, nn_neg, nm_eq, mn_eq, mm_eq, mn_lt, nm_lt, mn_le, nm_le, nn_sub0, nn_of, implies_true, nn_c, nn_in, nn_div, nat_rem, Nat.reduceMul, Nat.reduceSub, Nat.reduceDiv, Nat.reduceMod, pf_at, pf_ne, mk_s, mk_1, Classical.not_not, b2i_T, b2i_F, false_imp_iff, true_imp_iff, false_and, and_false, p_sw, Int.reduceAdd, Int.zero_add, Option.some.injEq, Value.int.injEq, Value.long.injEq, Value.ref.injEq, exists_eq_left', mk_I, mk_L, mk_wI, mk_wL, rf_s, rf_n, true_and, and_true, and_self, or_true, true_or, or_false, false_or, not_true_eq_false, not_false_eq_true, Option.toList_some, Option.toList_none, List.cons_append, List.nil_append, List.map_nil, List.map_cons, List.sum_nil, List.sum_cons, cat_i, cat_l, cat_r, cat_n, Nat.reduceLeDiff, Nat.reduceAdd, Nat.reduceEqDiff, Nat.zero_le, p_ent, p_u_ne, p_u_at, reduceIte, if_true, if_false, P_ce s1, P_ce s2, P_ce s3]
      · have : i = 8 := by omega
        subst this
        by_cases hp : pc (kn K 0) = 1
        · rw [hp] at s3; rw [if_pos hp]
          rw [P_run_eq, bk_260_1, pb_260_1]; simp -implicitDefEqProofs (disch := first | omega | decide) only [P_m, ↓P_run_eq _ 260 _ (p_bk 260 2), bk_260_2, pb_260_2, ↓P_run_eq _ 260 _ (p_bk 260 3), bk_260_3, pb_260_3, ↓P_run_eq _ 260 _ (p_bk 260 4), bk_260_4, pb_260_4, pw_iload_n1, pw_bipush, bl_8, pw_cge, pw_aload_n0, pw_aloadN_n0, pw_iv1, pw_iconst, il_1, pw_cle, pw_iinc_1, po_i1, po_r1, po_n1, po_u1, pw_goto, pw_cne, il_0, pw_nop, pw_ret1, kd_123, rf_123_1, rf_123_2, rf_123_3, rf_123_4, rf_123_5, rf_123_7, rf_123_11, rf_123_12, rf_123_15, rf_123_16, rf_123_17, rf_123_26, rf_123_29, rf_123_30, rf_123_32, rf_123_34, rf_123_35, rf_123_45, n_0, n_1, n_8, nn_lt, nn_nlt, nn_le, nn_nle, nn_ne, nn_sub, nn_mul, nI_add, nn_neg, nm_eq, mn_eq, mm_eq, mn_lt, nm_lt, mn_le, nm_le, nn_sub0, nn_of, implies_true, nn_c, nn_in, nn_div, nat_rem, Nat.reduceMul, Nat.reduceSub, Nat.reduceDiv, Nat.reduceMod, pf_at, pf_ne, mk_s, mk_1, Classical.not_not, b2i_T, b2i_F, false_imp_iff, true_imp_iff, false_and, and_false, p_sw, Int.reduceAdd, Int.zero_add, Option.some.injEq, Value.int.injEq, Value.long.injEq, Value.ref.injEq, exists_eq_left', mk_I, mk_L, mk_wI, mk_wL, rf_s, rf_n, true_and, and_true, and_self, or_true, true_or, or_false, false_or, not_true_eq_false, not_false_eq_true, Option.toList_some, Option.toList_none, List.cons_append, List.nil_append, List.map_nil, List.map_cons, List.sum_nil, List.sum_cons, cat_i, cat_l, cat_r, cat_n, Nat.reduceLeDiff, Nat.reduceAdd, Nat.reduceEqDiff, Nat.zero_le, p_ent, p_u_ne, p_u_at, reduceIte, if_true, if_false, P_ce s1, P_ce s2, P_ce s3]
        · rw [if_neg hp]
          rw [P_run_eq, bk_260_1, pb_260_1]; simp -implicitDefEqProofs (disch := first | omega | decide) only [P_m, ↓P_run_eq _ 260 _ (p_bk 260 2), bk_260_2, pb_260_2, ↓P_run_eq _ 260 _ (p_bk 260 3), bk_260_3, pb_260_3, ↓P_run_eq _ 260 _ (p_bk 260 4), bk_260_4, pb_260_4, pw_iload_n1, pw_bipush, bl_8, pw_cge, pw_aload_n0, pw_aloadN_n0, pw_iv1, pw_iconst, il_1, pw_cle, pw_iinc_1, po_i1, po_r1, po_n1, po_u1, pw_goto, pw_cne, il_0, pw_nop, pw_ret1, kd_123, rf_123_1, rf_123_2, rf_123_3, rf_123_4, rf_123_5, rf_123_7, rf_123_11, rf_123_12, rf_123_15, rf_123_16, rf_123_17, rf_123_26, rf_123_29, rf_123_30, rf_123_32, rf_123_34, rf_123_35, rf_123_45, n_0, n_1, n_8, nn_lt, nn_nlt, nn_le, nn_nle, nn_ne, nn_sub, nn_mul, nI_add, nn_neg, nm_eq, mn_eq, mm_eq, mn_lt, nm_lt, mn_le, nm_le, nn_sub0, nn_of, implies_true, nn_c, nn_in, nn_div, nat_rem, Nat.reduceMul, Nat.reduceSub, Nat.reduceDiv, Nat.reduceMod, pf_at, pf_ne, mk_s, mk_1, Classical.not_not, b2i_T, b2i_F, false_imp_iff, true_imp_iff, false_and, and_false, p_sw, Int.reduceAdd, Int.zero_add, Option.some.injEq, Value.int.injEq, Value.long.injEq, Value.ref.injEq, exists_eq_left', mk_I, mk_L, mk_wI, mk_wL, rf_s, rf_n, true_and, and_true, and_self, or_true, true_or, or_false, false_or, not_true_eq_false, not_false_eq_true, Option.toList_some, Option.toList_none, List.cons_append, List.nil_append, List.map_nil, List.map_cons, List.sum_nil, List.sum_cons, cat_i, cat_l, cat_r, cat_n, Nat.reduceLeDiff, Nat.reduceAdd, Nat.reduceEqDiff, Nat.zero_le, p_ent, p_u_ne, p_u_at, reduceIte, if_true, if_false, P_ce s1, P_ce s2, P_ce s3]
  intro n
  induction n with
  | zero =>
    intro _ I K s h hd hs e46 e47 h3
    exact tail 8 I K s (by omega) (Or.inl rfl) h e47 h3
  | succ n ih =>
    intro hn I K s h hd hs e46 e47 h3
    by_cases hp : pc (kn K 0) ≤ 1
    · have ev : vlp c (kn K0 53) (n + 1) (K, s) = (K, s) := by
        show (if pc (kn K 0) ≤ 1 then _ else _) = _
        rw [if_pos hp]
      rw [ev]
      exact tail (8 - (n + 1)) I K s (by omega) (Or.inr hp) h e47 h3
    · have hz := drw_lt s
      have ev : vlp c (kn K0 53) (n + 1) (K, s) = vlp c (kn K0 53) n (nxK c K 0 (nI (drw s % kn K0 53)), drw s) := by
        show (if pc (kn K 0) ≤ 1 then _ else _) = _
        rw [if_neg hp]
      rw [ev]
      have s1 := lf_m (Ls := Ls) (L := L) (R := R) (X := X) (d := D') h
      have em : kn K 53 = kn K0 53 := by unfold kn; rw [hd.2.2.2.1]
      obtain ⟨J1, f1, j1, j47, s2⟩ := asd_m (Ls := Ls) (L := L) (R := R) (X := X) (D := D' + 1) h em hm0 hs e46 e47 (by omega)
      generalize drw s = z at *
      have hd' := dOk_nx (kd := 0) (v := nI (z % kn K0 53)) hd
      have h1 : Cm J1 (nxK c K 0 (nI (z % kn K0 53))) c := ⟨j1, hd'.1, hd'.2.1⟩
      obtain ⟨J2, f2, j2, j472, s3⟩ := ih (by omega) J1 _ z h1 hd' hz (by rw [f1.2 46 (by omega) (by omega)]; exact e46) j47 (by unfold kn; rw [nx_day h.2.1 (Or.inl rfl)]; exact h3)
      refine ⟨J2, frR_tr f1 f2, j2, j472, ?_⟩
      have pl := pc_le (kn K 0)
      have e8 : 8 - (n + 1) + 1 = 8 - n := by omega
      rw [P_run_eq, bk_260_1, pb_260_1]; simp -implicitDefEqProofs (disch := first | omega | decide) only [P_m, pw_iload_n1, pw_bipush, bl_8, pw_cge, pw_aload_n0, pw_aloadN_n0, pw_iv1, pw_iconst, il_1, pw_cle, pw_iinc_1, po_i1, po_r1, po_n1, po_u1, pw_goto, kd_123, rf_123_1, rf_123_2, rf_123_3, rf_123_4, rf_123_5, rf_123_7, rf_123_11, rf_123_12, rf_123_15, rf_123_16, rf_123_17, rf_123_26, rf_123_29, rf_123_30, rf_123_32, rf_123_34, rf_123_35, rf_123_45, n_0, n_1, n_8, nn_lt, nn_nlt, nn_le, nn_nle, nn_ne, nn_sub, nn_mul, nI_add, nn_neg, nm_eq, mn_eq, mm_eq, mn_lt, nm_lt, mn_le, nm_le, nn_sub0, nn_of, implies_true, nn_c, nn_in, nn_div, nat_rem, Nat.reduceMul, Nat.reduceSub, Nat.reduceDiv, Nat.reduceMod, pf_at, pf_ne, mk_s, mk_1, Classical.not_not, b2i_T, b2i_F, false_imp_iff, true_imp_iff, false_and, and_false, p_sw, Int.reduceAdd, Int.zero_add, Option.some.injEq, Value.int.injEq, Value.long.injEq, Value.ref.injEq, exists_eq_left', mk_I, mk_L, mk_wI, mk_wL, rf_s, rf_n, true_and, and_true, and_self, or_true, true_or, or_false, false_or, not_true_eq_false, not_false_eq_true, Option.toList_some, Option.toList_none, List.cons_append, List.nil_append, List.map_nil, List.map_cons, List.sum_nil, List.sum_cons, cat_i, cat_l, cat_r, cat_n, Nat.reduceLeDiff, Nat.reduceAdd, Nat.reduceEqDiff, Nat.zero_le, p_ent, p_u_ne, p_u_at, reduceIte, if_true, if_false, P_ce s1, P_ce s2, e8]
      exact s3
theorem vis_m {D s : Nat} (hD : 51 ≤ D) (hm0 : 0 < kn K0 53) (hn0 : 0 < kn K0 52) (h : Cm I K c) (hd : dOk K0 c K) (hs : s < 1000003) (e46 : I 123 46 = nI (kn K0 53)) (e47 : I 123 47 = nI s) (h3 : kn K 3 < 999) : ∃ J, frR I J ∧ J 125 = nxK c (vis c (kn K0 52) (kn K0 53) (K, s)).1 2 (nI 0) ∧ J 123 47 = nI (vis c (kn K0 52) (kn K0 53) (K, s)).2 ∧ P_m D 260 [.ref 123] (p_mk Ls I L R X) (fun v h' => v = some (.int (nI (if pc (kn (vis c (kn K0 52) (kn K0 53) (K, s)).1 0) = 1 then 1 else 0))) ∧ h' = p_mk Ls J L R X) := by
  obtain ⟨D', rfl⟩ : ∃ D', D = D' + 2 := ⟨D - 2, by omega⟩
  have hV := h.2.1
  obtain ⟨t1, t2⟩ := kn_52 hV
  have em : kn K0 52 = kn K 52 := by unfold kn; rw [hd.2.2.1]
  have hz := drw_lt s
  have s0 := sp_258 (d := D' + 1) (Ls := Ls) (I := I) (L := L) (R := R) (X := X) (m := kn K0 52) hs hn0 (by omega) e47
  unfold vis
  dsimp only
  generalize drw s = z at *
  have hq : z % kn K0 52 < kn K0 52 := Nat.mod_lt _ hn0
  have e2 : I 125 52 = nI (kn K0 52) := by rw [em, h.1]; exact t1
  have s1 := hides_m (Ls := Ls) (L := L) (R := R) (X := X) (d := D') (I := p_u I 123 47 (nI z)) (K := K) (c := c) (nI (z % kn K0 52)) ⟨by rw [p_u_ne (by omega)]; exact h.1, h.2⟩
  have en : nxK c K 3 (nI (z % kn K0 52)) = updL K (hidW K (nI (z % kn K0 52))) := by
    have aw : actW c K 3 (nI (z % kn K0 52)) = (if isT K (nI (z % kn K0 52)) = true then (nI (kn K 52), hidW K (nI (z % kn K0 52))) else (-2, [])) := rfl
    unfold nxK
    rw [aw, if_pos]
    unfold isT
    obtain ⟨g1, -⟩ := rg_t hq (by omega)
    rw [t1, ← em, decide_eq_true g1.1, decide_eq_true g1.2]
    simp
  rw [← en] at s1
  have hd' := dOk_nx (kd := 3) (v := nI (z % kn K0 52)) hd
  have h1 : Cm (p_fn (p_u I 123 47 (nI z)) 125 (nxK c K 3 (nI (z % kn K0 52)))) (nxK c K 3 (nI (z % kn K0 52))) c := ⟨pf_at, hd'.1, hd'.2.1⟩
  obtain ⟨J2, f2, j2, j472, s3⟩ := lp_260 (Ls := Ls) (L := L) (R := R) (X := X) (D := D' + 2) (by omega) hm0 8 (by omega) _ _ z h1 hd' hz (by rw [pf_ne (by omega), p_u_at, if_neg (by omega)]; exact e46) (by rw [pf_ne (by omega), p_u_at, if_pos rfl]) (by unfold kn; rw [nx_day h.2.1 (Or.inr rfl)]; exact h3)
  refine ⟨J2, ⟨fun a a1 a2 a3 => ?_, fun k k1 k2 => ?_⟩, j2, j472, ?_⟩
  · rw [f2.1 a a1 a2 a3, pf_ne a2, p_u_ne a1]
  · rw [f2.2 k k1 k2, pf_ne (by omega), p_u_at, if_neg k2]
  · simp -implicitDefEqProofs (disch := first | omega | decide) only [P_m, ↓P_run_eq _ 260 _ (p_bk 260 0), bk_260_0, pb_260_0, pw_aload_n0, pw_aloadN_n0, pw_getR, pw_bipush, bl_52, pw_iald, pw_iv2, pw_popi, pw_popr, pw_iconst, il_0, pw_istore_n1, ps_1, pe_1, po_i1, po_r1, po_n1, po_u1, pw_nop, kd_123, rf_123_1, rf_123_2, rf_123_3, rf_123_4, rf_123_5, rf_123_7, rf_123_11, rf_123_12, rf_123_15, rf_123_16, rf_123_17, rf_123_26, rf_123_29, rf_123_30, rf_123_32, rf_123_34, rf_123_35, rf_123_45, kd_125, n_0, n_1, n_52, nn_lt, nn_nlt, nn_le, nn_nle, nn_ne, nn_sub, nn_mul, nI_add, nn_neg, nm_eq, mn_eq, mm_eq, mn_lt, nm_lt, mn_le, nm_le, nn_sub0, nn_of, implies_true, nn_c, nn_in, nn_div, nat_rem, Nat.reduceMul, Nat.reduceSub, Nat.reduceDiv, Nat.reduceMod, pf_at, pf_ne, mk_s, mk_1, Classical.not_not, b2i_T, b2i_F, false_imp_iff, true_imp_iff, false_and, and_false, p_sw, Int.reduceAdd, Int.zero_add, Option.some.injEq, Value.int.injEq, Value.long.injEq, Value.ref.injEq, exists_eq_left', mk_I, mk_L, mk_wI, mk_wL, rf_s, rf_n, true_and, and_true, and_self, or_true, true_or, or_false, false_or, not_true_eq_false, not_false_eq_true, Option.toList_some, Option.toList_none, List.cons_append, List.nil_append, List.map_nil, List.map_cons, List.sum_nil, List.sum_cons, cat_i, cat_l, cat_r, cat_n, Nat.reduceLeDiff, Nat.reduceAdd, Nat.reduceEqDiff, Nat.zero_le, p_ent, p_u_ne, p_u_at, reduceIte, if_true, if_false, e2, P_ce s0, P_ce s1]
    exact s3
end VM
