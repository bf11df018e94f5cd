section PG
variable {d Ls : Nat} {I : Nat → Nat → Int32} {L : Nat → Nat → Int64} {R : Nat → Nat → Option Nat} {X : List pKd} {h : pHp} {c : Option (List tCl)} {r : Option Nat} {K : Nat → Int32}
theorem sr_48_1 : p_sr 48 1 = none := rfl
theorem sr_48_2 : p_sr 48 2 = none := rfl
def layR (R : Nat → Nat → Option Nat) (r : Option Nat) : Nat → Nat → Option Nat := p_u (p_u R 48 1 (some 71)) 48 2 r
theorem layR_1 : layR R r 48 1 = some 71 := by unfold layR; rw [p_u_at, if_neg (by omega), p_u_at, if_pos rfl]
theorem layR_2 : layR R r 48 2 = r := by unfold layR; rw [p_u_at, if_pos rfl]
theorem layR_ne {a : Nat} (h : ¬ a = 48) : layR R r a = R a := by unfold layR; rw [p_u_ne h, p_u_ne h]
theorem pl_34 : P_m d 34 [.ref 48, .ref 71, va_rf r] (p_mk Ls I L R X) (fun v h' => v = none ∧ h' = p_mk Ls I L (layR R r) X) := by
  cases r with
  | none =>
    rw [va_rn]
    simp -implicitDefEqProofs (disch := first | omega | decide) only [P_m, ↓P_run_eq _ 34 _ (p_bk 34 0), bk_34_0, pb_34_0, pw_aload_n0, pw_aloadN_n0, pw_aload_n1, pw_aloadN_n1, pw_putR, pw_putN, pw_aload_n2, pw_aloadN_n2, pw_vret, kd_48, rf_48_0, rf_48_6, rf_48_7, rf_48_8, rf_48_9, rf_48_10, rf_48_12, rf_48_13, rf_48_14, rf_48_15, rf_48_1, rf_48_2, n_0, n_1, nn_lt, nn_nlt, nn_le, nn_nle, nn_ne, nn_sub, nn_mul, nI_add, nn_neg, nm_eq, mn_eq, mm_eq, mn_lt, nm_lt, mn_le, nm_le, nn_sub0, nn_of, implies_true, nn_c, nn_in, nn_div, nat_rem, Nat.reduceMul, Nat.reduceSub, Nat.reduceDiv, Nat.reduceMod, pf_at, pf_ne, mk_s, mk_1, Classical.not_not, b2i_T, b2i_F, false_imp_iff, true_imp_iff, false_and, and_false, p_sw, Int.reduceAdd, Int.zero_add, Option.some.injEq, Value.int.injEq, Value.long.injEq, Value.ref.injEq, exists_eq_left', mk_I, mk_L, mk_wI, mk_wL, rf_s, rf_n, true_and, and_true, and_self, or_true, true_or, or_false, false_or, not_true_eq_false, not_false_eq_true, Option.toList_some, Option.toList_none, List.cons_append, List.nil_append, List.map_nil, List.map_cons, List.sum_nil, List.sum_cons, cat_i, cat_l, cat_r, cat_n, Nat.reduceLeDiff, Nat.reduceAdd, Nat.reduceEqDiff, Nat.zero_le, p_ent, p_u_ne, p_u_at, reduceIte, if_true, if_false, mk_wR sr_48_1, mk_wR sr_48_2]
    rfl
  | some t =>
    rw [va_rs]
    simp -implicitDefEqProofs (disch := first | omega | decide) only [P_m, ↓P_run_eq _ 34 _ (p_bk 34 0), bk_34_0, pb_34_0, pw_aload_n0, pw_aloadN_n0, pw_aload_n1, pw_aloadN_n1, pw_putR, pw_putN, pw_aload_n2, pw_aloadN_n2, pw_vret, kd_48, rf_48_0, rf_48_6, rf_48_7, rf_48_8, rf_48_9, rf_48_10, rf_48_12, rf_48_13, rf_48_14, rf_48_15, rf_48_1, rf_48_2, n_0, n_1, nn_lt, nn_nlt, nn_le, nn_nle, nn_ne, nn_sub, nn_mul, nI_add, nn_neg, nm_eq, mn_eq, mm_eq, mn_lt, nm_lt, mn_le, nm_le, nn_sub0, nn_of, implies_true, nn_c, nn_in, nn_div, nat_rem, Nat.reduceMul, Nat.reduceSub, Nat.reduceDiv, Nat.reduceMod, pf_at, pf_ne, mk_s, mk_1, Classical.not_not, b2i_T, b2i_F, false_imp_iff, true_imp_iff, false_and, and_false, p_sw, Int.reduceAdd, Int.zero_add, Option.some.injEq, Value.int.injEq, Value.long.injEq, Value.ref.injEq, exists_eq_left', mk_I, mk_L, mk_wI, mk_wL, rf_s, rf_n, true_and, and_true, and_self, or_true, true_or, or_false, false_or, not_true_eq_false, not_false_eq_true, Option.toList_some, Option.toList_none, List.cons_append, List.nil_append, List.map_nil, List.map_cons, List.sum_nil, List.sum_cons, cat_i, cat_l, cat_r, cat_n, Nat.reduceLeDiff, Nat.reduceAdd, Nat.reduceEqDiff, Nat.zero_le, p_ent, p_u_ne, p_u_at, reduceIte, if_true, if_false, mk_wR sr_48_1, mk_wR sr_48_2]
    rfl
def frQ (I J : Nat → Nat → Int32) : Prop := ∀ a, ¬ a = 48 → ¬ a = 50 → ¬ a = 51 → ¬ a = 62 → ¬ a = 63 → ¬ a = 64 → J a = I a
/-- the table of a plan, what stands for a set -/
def plT (c : Option (List tCl)) (K : Nat → Int32) (so md : Bool) (g : Option Nat) : Nat → Nat → Option Nat := tbl (kn K 52) (kn K 53) (fun q => kn K (37 + q)) (fun t => kn K (13 + t)) (yv c K) (okP c K so) md g
def plC (c : Option (List tCl)) (K : Nat → Int32) (so md : Bool) (g : Option Nat) (s : Nat) : Option (Nat × Nat) := cel (kn K 52) (fun q => kn K (37 + q)) (fun t => kn K (13 + t)) (yv c K) (okP c K so) md (plT c K so md g s) s (kn K 53)
/-- what a plan comes to: years, first question -/
def plV (c : Option (List tCl)) (K : Nat → Int32) (so md : Bool) (g : Option Nat) : Option (Nat × Nat) := if tld g (kn K 0) = true then some (0, 100) else plC c K so md g (kn K 0)
theorem kn_13 (hV : vld K) {t : Nat} (ht : t < 8) : K (13 + t) = nI (kn K (13 + t)) ∧ kn K (13 + t) ≤ 99 := by
  have := kn_e hV (j := 13 + t) (by omega) (by omega) (by omega)
  rw [mx_13 t ht] at this
  exact this
theorem plT_b {so md : Bool} {g : Option Nat} (hV : vld K) (hg : ∀ k, g = some k → k < 256) (s : Nat) (hs : s ≤ 256) : tbB (kn K 52) (fun t => kn K (13 + t)) md (plT c K so md g s) := by
  have n2 := (kn_52 hV).2
  have m2 := (kn_53 hV).2
  exact tbl_b n2 (fun t ht => (kn_13 hV (by omega)).2) hg (fun q l hq hl => (yv_e (vld_env hV (by omega)) hl).2) s hs
theorem plT_at {so md : Bool} {g : Option Nat} (s : Nat) : plT c K so md g (s + 1) s = if tld g s = true then some 0 else (plC c K so md g s).map Prod.fst := tbl_at s
theorem plT_ne {so md : Bool} {g : Option Nat} {s s' : Nat} (h : ¬ s' = s) : plT c K so md g (s + 1) s' = plT c K so md g s s' := tbl_ne h
theorem lp_36 {so md : Bool} {g : Option Nat} {z : Value} (hV : vld K) (hK : hutR I 71 K) (hg : ∀ k, g = some k → k < 256) (hr1 : R 48 1 = some 71) (tA : tld g (kn K 0) = false) : ∀ s, s ≤ kn K 0 + 1 → ∀ J, frQ I J → rqS (kn K 52) (pc (kn K 0)) c K so J (kn K 53) → (∀ s', s' < s → dn s' (kn K 0) = 0 → J 62 s' = pnI (plT c K so md g s s')) → (s = kn K 0 + 1 → ∀ b, plC c K so md g (kn K 0) = some b → J 48 4 = nI b.2) →
    P_run (d + 3) 36 (p_bk 36 2) 0 0 [.ref 48, .ref 71, z, .int (pnI g), .int (nI (bN so)), .int (nI (bN md)), .int (nI s)] [] (p_mk Ls J L R X) (fun v h' => v = some (.int (nI (bN (plC c K so md g (kn K 0)).isSome))) ∧ ∃ J', frQ I J' ∧ (∀ b, plC c K so md g (kn K 0) = some b → J' 48 3 = nI b.1 ∧ J' 48 4 = nI b.2) ∧ h' = p_mk Ls J' L R X) := by
  obtain ⟨n1, n2⟩ := kn_52 hV
  obtain ⟨m1, m2⟩ := kn_53 hV
  obtain ⟨k1, k2, k3⟩ := kn_0 hV
  obtain ⟨⟨r1, r2, r3, r4, r5, r6, r7, r8⟩, -, ra, -⟩ := hutR_at hK
  refine down_ind ?_ ?_
  · intro J hJ hS hT hF
    have j8 : J 71 8 = nI (kn K 0) := by rw [hJ 71 (by omega) (by omega) (by omega) (by omega) (by omega) (by omega)]; exact r4.trans k1
    have t1 := hT (kn K 0) (by omega) (dn_self _ k3)
    rw [plT_at, if_neg (by rw [tA]; decide)] at t1
    have hF := hF rfl
    cases hC : plC c K so md g (kn K 0) with
    | none =>
      rw [hC] at t1
      replace t1 : J 62 (kn K 0) = mI 1 := t1
      generalize kn K 0 = A at *
      rw [P_run_eq, bk_36_2, pb_36_2]; simp -implicitDefEqProofs (disch := first | omega | decide) only [P_m, ↓P_run_eq _ 36 _ (p_bk 36 6), bk_36_6, pb_36_6, ↓P_run_eq _ 36 _ (p_bk 36 7), bk_36_7, pb_36_7, ↓P_run_eq _ 36 _ (p_bk 36 8), bk_36_8, pb_36_8, pw_iload_6, pw_aload_n0, pw_aloadN_n0, pw_getR, pw_getI, pw_cgt, pw_sipush, sl_256, pw_cge, pw_iconst, il_m1, pw_ixor, pw_iand, pw_zne, pw_iload_n3, pw_is2, pw_zeq, il_0, pw_goto, pw_iald, pw_putI, pw_ceq, il_1, pw_nop, pw_ret1, kd_48, rf_48_0, rf_48_6, rf_48_7, rf_48_8, rf_48_9, rf_48_10, rf_48_12, rf_48_13, rf_48_14, rf_48_15, rf_48_1, rf_48_2, kd_62, kd_71, rf_71_1, rf_71_3, rf_71_4, rf_71_5, rf_71_6, rf_71_11, rf_71_12, rf_71_14, n_0, n_1, n_256, nn_lt, nn_nlt, nn_le, nn_nle, nn_ne, nn_sub, nn_mul, nI_add, nn_neg, nm_eq, mn_eq, mm_eq, mn_lt, nm_lt, mn_le, nm_le, nn_sub0, nn_of, implies_true, nn_c, nn_in, nn_div, nat_rem, Nat.reduceMul, Nat.reduceSub, Nat.reduceDiv, Nat.reduceMod, pf_at, pf_ne, mk_s, mk_1, Classical.not_not, b2i_T, b2i_F, false_imp_iff, true_imp_iff, false_and, and_false, p_sw, Int.reduceAdd, Int.zero_add, Option.some.injEq, Value.int.injEq, Value.long.injEq, Value.ref.injEq, exists_eq_left', mk_I, mk_L, mk_wI, mk_wL, rf_s, rf_n, true_and, and_true, and_self, or_true, true_or, or_false, false_or, not_true_eq_false, not_false_eq_true, Option.toList_some, Option.toList_none, List.cons_append, List.nil_append, List.map_nil, List.map_cons, List.sum_nil, List.sum_cons, cat_i, cat_l, cat_r, cat_n, Nat.reduceLeDiff, Nat.reduceAdd, Nat.reduceEqDiff, Nat.zero_le, p_ent, p_u_ne, p_u_at, reduceIte, if_true, if_false, hr1, va_rs, j8, t1]
      refine ⟨rfl, _, fun a a1 a2 a3 a4 a5 a6 => ?_, fun b hb => ?_, rfl⟩
      · rw [p_u_ne a1]; exact hJ a a1 a2 a3 a4 a5 a6
      · cases hb
    | some b =>
      rw [hC] at t1
      have hF2 := hF b hC
      have hb : b.1 ≤ 627264 := by
        have lb := cel_b n2 (fun t ht => (kn_13 hV (by omega)).2) k3 (by have := tld_pc k3 hg tA; omega) (plT_b hV hg (kn K 0) (by omega)) (kn K 53) b (fun j hj => (yv_e (vld_env hV (by omega)) (pc_le _)).2) hC
        have h2 := wtS_le (md := md) n2 (fun t ht => (kn_13 hV (t := t) (by omega)).2) (kn K 0)
        have h3 := pc_le (kn K 0)
        have h4 : 99 * pc (kn K 0) * wtS (kn K 52) (fun t => kn K (13 + t)) md (kn K 0) ≤ 792 * 792 := Nat.mul_le_mul (by omega) h2
        omega
      replace t1 : J 62 (kn K 0) = nI b.1 := t1
      generalize kn K 0 = A at *
      rw [P_run_eq, bk_36_2, pb_36_2]; simp -implicitDefEqProofs (disch := first | omega | decide) only [P_m, ↓P_run_eq _ 36 _ (p_bk 36 6), bk_36_6, pb_36_6, ↓P_run_eq _ 36 _ (p_bk 36 7), bk_36_7, pb_36_7, ↓P_run_eq _ 36 _ (p_bk 36 8), bk_36_8, pb_36_8, pw_iload_6, pw_aload_n0, pw_aloadN_n0, pw_getR, pw_getI, pw_cgt, pw_sipush, sl_256, pw_cge, pw_iconst, il_m1, pw_ixor, pw_iand, pw_zne, pw_iload_n3, pw_is2, pw_zeq, il_0, pw_goto, pw_iald, pw_putI, pw_ceq, il_1, pw_nop, pw_ret1, kd_48, rf_48_0, rf_48_6, rf_48_7, rf_48_8, rf_48_9, rf_48_10, rf_48_12, rf_48_13, rf_48_14, rf_48_15, rf_48_1, rf_48_2, kd_62, kd_71, rf_71_1, rf_71_3, rf_71_4, rf_71_5, rf_71_6, rf_71_11, rf_71_12, rf_71_14, n_0, n_1, n_256, nn_lt, nn_nlt, nn_le, nn_nle, nn_ne, nn_sub, nn_mul, nI_add, nn_neg, nm_eq, mn_eq, mm_eq, mn_lt, nm_lt, mn_le, nm_le, nn_sub0, nn_of, implies_true, nn_c, nn_in, nn_div, nat_rem, Nat.reduceMul, Nat.reduceSub, Nat.reduceDiv, Nat.reduceMod, pf_at, pf_ne, mk_s, mk_1, Classical.not_not, b2i_T, b2i_F, false_imp_iff, true_imp_iff, false_and, and_false, p_sw, Int.reduceAdd, Int.zero_add, Option.some.injEq, Value.int.injEq, Value.long.injEq, Value.ref.injEq, exists_eq_left', mk_I, mk_L, mk_wI, mk_wL, rf_s, rf_n, true_and, and_true, and_self, or_true, true_or, or_false, false_or, not_true_eq_false, not_false_eq_true, Option.toList_some, Option.toList_none, List.cons_append, List.nil_append, List.map_nil, List.map_cons, List.sum_nil, List.sum_cons, cat_i, cat_l, cat_r, cat_n, Nat.reduceLeDiff, Nat.reduceAdd, Nat.reduceEqDiff, Nat.zero_le, p_ent, p_u_ne, p_u_at, reduceIte, if_true, if_false, hr1, va_rs, j8, t1]
      refine ⟨rfl, _, fun a a1 a2 a3 a4 a5 a6 => ?_, fun b' hb' => ?_, rfl⟩
      · rw [p_u_ne a1]; exact hJ a a1 a2 a3 a4 a5 a6
      · cases hb'
        exact ⟨by rw [p_u_at, if_pos rfl], by rw [p_u_at, if_neg (by omega)]; exact hF2⟩
  · intro s hs ih J hJ hS hT hF
    have hs2 : s < 256 := by omega
    have j8 : J 71 8 = nI (kn K 0) := by rw [hJ 71 (by omega) (by omega) (by omega) (by omega) (by omega) (by omega)]; exact r4.trans k1
    have e1 := dn_n hs2 k3
    have e2 := dn_lt (g := kn K 0) hs2
    by_cases hd : dn s (kn K 0) = 0
    · have s37 := sp_37 (d := d + 1) (h := p_mk Ls J L R X) hs2 hg
      cases hl : tld g s with
      | true =>
        rw [hl] at s37
        have nA : ¬ s = kn K 0 := fun e => by rw [e, tA] at hl; exact absurd hl (by decide)
        have nx := ih (p_u J 62 s (nI 0)) (fun a a1 a2 a3 a4 a5 a6 => by rw [p_u_ne a4]; exact hJ a a1 a2 a3 a4 a5 a6) (fun j hj => ⟨fun l l1 l2 => by rw [p_u_ne (by omega)]; exact (hS j hj).1 l l1 l2, fun x hx => by rw [p_u_ne (by omega)]; exact (hS j hj).2 x hx⟩) (fun s' h1 h2 => by
            rw [p_u_at]
            by_cases e : s' = s
            · subst e; rw [if_pos rfl, plT_at, if_pos hl]; rfl
            · rw [if_neg e, plT_ne e]; exact hT s' (by omega) h2) (fun e => absurd e (by omega))
        replace s37 : P_m (d + 1 + 1) 37 [.int (nI s), .int (pnI g)] (p_mk Ls J L R X) (fun v h' => v = some (.int (nI 1)) ∧ h' = p_mk Ls J L R X) := s37
        rw [hd] at e1
        generalize kn K 0 = A at *
        generalize pnI g = G at *
        rw [P_run_eq, bk_36_2, pb_36_2]; simp -implicitDefEqProofs (disch := first | omega | decide) only [P_m, ↓P_run_eq _ 36 _ (p_bk 36 4), bk_36_4, pb_36_4, ↓P_run_eq _ 36 _ (p_bk 36 5), bk_36_5, pb_36_5, pw_iload_6, pw_aload_n0, pw_aloadN_n0, pw_getR, pw_getI, pw_cgt, pw_sipush, sl_256, pw_cge, pw_iconst, il_m1, pw_ixor, pw_iand, pw_zne, pw_iload_n3, pw_is2, pw_zeq, il_0, pw_goto, pw_iast, pw_nop, pw_iinc_6, il_1, po_i6, po_r6, po_n6, po_u6, kd_48, rf_48_0, rf_48_6, rf_48_7, rf_48_8, rf_48_9, rf_48_10, rf_48_12, rf_48_13, rf_48_14, rf_48_15, rf_48_1, rf_48_2, kd_62, kd_71, rf_71_1, rf_71_3, rf_71_4, rf_71_5, rf_71_6, rf_71_11, rf_71_12, rf_71_14, n_0, n_1, n_256, nn_lt, nn_nlt, nn_le, nn_nle, nn_ne, nn_sub, nn_mul, nI_add, nn_neg, nm_eq, mn_eq, mm_eq, mn_lt, nm_lt, mn_le, nm_le, nn_sub0, nn_of, implies_true, nn_c, nn_in, nn_div, nat_rem, Nat.reduceMul, Nat.reduceSub, Nat.reduceDiv, Nat.reduceMod, pf_at, pf_ne, mk_s, mk_1, Classical.not_not, b2i_T, b2i_F, false_imp_iff, true_imp_iff, false_and, and_false, p_sw, Int.reduceAdd, Int.zero_add, Option.some.injEq, Value.int.injEq, Value.long.injEq, Value.ref.injEq, exists_eq_left', mk_I, mk_L, mk_wI, mk_wL, rf_s, rf_n, true_and, and_true, and_self, or_true, true_or, or_false, false_or, not_true_eq_false, not_false_eq_true, Option.toList_some, Option.toList_none, List.cons_append, List.nil_append, List.map_nil, List.map_cons, List.sum_nil, List.sum_cons, cat_i, cat_l, cat_r, cat_n, Nat.reduceLeDiff, Nat.reduceAdd, Nat.reduceEqDiff, Nat.zero_le, p_ent, p_u_ne, p_u_at, reduceIte, if_true, if_false, hr1, va_rs, j8, e1, P_ce s37]
        exact nx
      | false =>
        rw [hl] at s37
        have s39 := pl_39 (d := d + 1) (Ls := Ls) (I := J) (L := L) (R := R) (X := X) (s := s) (n := kn K 52) (m := kn K 53) (A := kn K 0) (a := fun q => kn K (37 + q)) (w := fun t => kn K (13 + t)) (y := yv c K) (ok := okP c K so) (T := plT c K so md g s) (md := md) n2 m2 (fun t ht => (kn_13 hV (by omega)).2) (fun q l hq hl => (yv_e (vld_env hV (by omega)) hl).2) hs2 (tld_pc hs2 hg hl) hd k3 (plT_b hV hg s (by omega)) hT (fun q x hq hx => (hS q hq).2 x hx) (fun q l hq l1 l2 => (hS q hq).1 l l1 (by omega)) (by rw [hJ 71 (by omega) (by omega) (by omega) (by omega) (by omega) (by omega)]; exact r1.trans n1) (by rw [hJ 71 (by omega) (by omega) (by omega) (by omega) (by omega) (by omega)]; exact r2.trans m1) (fun t ht => by rw [hJ 72 (by omega) (by omega) (by omega) (by omega) (by omega) (by omega)]; exact (ra t (by omega)).1.trans (kn_13 hV (by omega)).1) hr1
        replace s39 : P_m (d + 1 + 1) 39 [.ref 48, .int (nI s), .int (nI (bN md))] (p_mk Ls J L R X) (fun v h' => v = some (.int (pnI ((plC c K so md g s).map Prod.fst))) ∧ h' = p_mk Ls (fsI J (plC c K so md g s)) L R X) := s39
        have nx := ih (p_u (fsI J (plC c K so md g s)) 62 s (pnI ((plC c K so md g s).map Prod.fst))) (fun a a1 a2 a3 a4 a5 a6 => by rw [p_u_ne a4, fsI_ne a1]; exact hJ a a1 a2 a3 a4 a5 a6) (fun j hj => ⟨fun l l1 l2 => by rw [p_u_ne (by omega), fsI_ne (by omega)]; exact (hS j hj).1 l l1 l2, fun x hx => by rw [p_u_ne (by omega), fsI_ne (by omega)]; exact (hS j hj).2 x hx⟩) (fun s' h1 h2 => by
            rw [p_u_at]
            by_cases e : s' = s
            · subst e; rw [if_pos rfl, plT_at, if_neg (by rw [hl]; decide)]
            · rw [if_neg e, plT_ne e, fsI_ne (by omega)]; exact hT s' (by omega) h2) (fun e b hb => by
            have es : s = kn K 0 := by omega
            rw [es, hb, p_u_ne (by omega)]
            show p_u J 48 4 (nI b.2) 48 4 = nI b.2
            rw [p_u_at, if_pos rfl])
        replace s37 : P_m (d + 1 + 1) 37 [.int (nI s), .int (pnI g)] (p_mk Ls J L R X) (fun v h' => v = some (.int (nI 0)) ∧ h' = p_mk Ls J L R X) := s37
        rw [hd] at e1
        generalize hc' : plC c K so md g s = C at *
        generalize kn K 0 = A at *
        generalize pnI g = G at *
        generalize pnI (C.map Prod.fst) = V at *
        generalize fsI J C = Z at *
        rw [P_run_eq, bk_36_2, pb_36_2]; simp -implicitDefEqProofs (disch := first | omega | decide) only [P_m, ↓P_run_eq _ 36 _ (p_bk 36 3), bk_36_3, pb_36_3, ↓P_run_eq _ 36 _ (p_bk 36 4), bk_36_4, pb_36_4, ↓P_run_eq _ 36 _ (p_bk 36 5), bk_36_5, pb_36_5, pw_iload_6, pw_aload_n0, pw_aloadN_n0, pw_getR, pw_getI, pw_cgt, pw_sipush, sl_256, pw_cge, pw_iconst, il_m1, pw_ixor, pw_iand, pw_zne, pw_iload_n3, pw_is2, pw_zeq, il_0, pw_goto, pw_iload_5, pw_iv3, pw_nop, pw_iast, pw_iinc_6, il_1, po_i6, po_r6, po_n6, po_u6, kd_48, rf_48_0, rf_48_6, rf_48_7, rf_48_8, rf_48_9, rf_48_10, rf_48_12, rf_48_13, rf_48_14, rf_48_15, rf_48_1, rf_48_2, kd_62, kd_71, rf_71_1, rf_71_3, rf_71_4, rf_71_5, rf_71_6, rf_71_11, rf_71_12, rf_71_14, n_0, n_1, n_256, nn_lt, nn_nlt, nn_le, nn_nle, nn_ne, nn_sub, nn_mul, nI_add, nn_neg, nm_eq, mn_eq, mm_eq, mn_lt, nm_lt, mn_le, nm_le, nn_sub0, nn_of, implies_true, nn_c, nn_in, nn_div, nat_rem, Nat.reduceMul, Nat.reduceSub, Nat.reduceDiv, Nat.reduceMod, pf_at, pf_ne, mk_s, mk_1, Classical.not_not, b2i_T, b2i_F, false_imp_iff, true_imp_iff, false_and, and_false, p_sw, Int.reduceAdd, Int.zero_add, Option.some.injEq, Value.int.injEq, Value.long.injEq, Value.ref.injEq, exists_eq_left', mk_I, mk_L, mk_wI, mk_wL, rf_s, rf_n, true_and, and_true, and_self, or_true, true_or, or_false, false_or, not_true_eq_false, not_false_eq_true, Option.toList_some, Option.toList_none, List.cons_append, List.nil_append, List.map_nil, List.map_cons, List.sum_nil, List.sum_cons, cat_i, cat_l, cat_r, cat_n, Nat.reduceLeDiff, Nat.reduceAdd, Nat.reduceEqDiff, Nat.zero_le, p_ent, p_u_ne, p_u_at, reduceIte, if_true, if_false, hr1, va_rs, j8, e1, P_ce s37, P_ce s39]
        exact nx
    · have nA : ¬ s = kn K 0 := fun e => hd (by rw [e]; exact dn_self _ k3)
      have nx := ih J hJ hS (fun s' h1 h2 => by
        have e : ¬ s' = s := fun e => by rw [e] at h2; exact hd h2
        rw [plT_ne e]; exact hT s' (by omega) h2) (fun e => absurd e (by omega))
      generalize dn s (kn K 0) = D at *
      generalize kn K 0 = A at *
      rw [P_run_eq, bk_36_2, pb_36_2]; simp -implicitDefEqProofs (disch := first | omega | decide) only [P_m, ↓P_run_eq _ 36 _ (p_bk 36 5), bk_36_5, pb_36_5, pw_iload_6, pw_aload_n0, pw_aloadN_n0, pw_getR, pw_getI, pw_cgt, pw_sipush, sl_256, pw_cge, pw_iconst, il_m1, pw_ixor, pw_iand, pw_zne, pw_iload_n3, pw_is2, pw_zeq, il_0, pw_goto, pw_iinc_6, il_1, po_i6, po_r6, po_n6, po_u6, kd_48, rf_48_0, rf_48_6, rf_48_7, rf_48_8, rf_48_9, rf_48_10, rf_48_12, rf_48_13, rf_48_14, rf_48_15, rf_48_1, rf_48_2, kd_62, kd_71, rf_71_1, rf_71_3, rf_71_4, rf_71_5, rf_71_6, rf_71_11, rf_71_12, rf_71_14, n_0, n_1, n_256, nn_lt, nn_nlt, nn_le, nn_nle, nn_ne, nn_sub, nn_mul, nI_add, nn_neg, nm_eq, mn_eq, mm_eq, mn_lt, nm_lt, mn_le, nm_le, nn_sub0, nn_of, implies_true, nn_c, nn_in, nn_div, nat_rem, Nat.reduceMul, Nat.reduceSub, Nat.reduceDiv, Nat.reduceMod, pf_at, pf_ne, mk_s, mk_1, Classical.not_not, b2i_T, b2i_F, false_imp_iff, true_imp_iff, false_and, and_false, p_sw, Int.reduceAdd, Int.zero_add, Option.some.injEq, Value.int.injEq, Value.long.injEq, Value.ref.injEq, exists_eq_left', mk_I, mk_L, mk_wI, mk_wL, rf_s, rf_n, true_and, and_true, and_self, or_true, true_or, or_false, false_or, not_true_eq_false, not_false_eq_true, Option.toList_some, Option.toList_none, List.cons_append, List.nil_append, List.map_nil, List.map_cons, List.sum_nil, List.sum_cons, cat_i, cat_l, cat_r, cat_n, Nat.reduceLeDiff, Nat.reduceAdd, Nat.reduceEqDiff, Nat.zero_le, p_ent, p_u_ne, p_u_at, reduceIte, if_true, if_false, hr1, va_rs, j8, e1]
      exact nx
theorem pl_36 {so md : Bool} {g : Option Nat} (hV : vld K) (hK : hutR I 71 K) (hc : clw Ls I R X r c) (hcg : cgL c) (hg : ∀ k, g = some k → k < 256) : ∃ J, frQ I J ∧ (∀ b, plV c K so md g = some b → J 48 3 = nI b.1 ∧ J 48 4 = nI b.2) ∧ P_m (d + 5) 36 [.ref 48, .ref 71, va_rf r, .int (pnI g), .int (nI (bN so)), .int (nI (bN md))] (p_mk Ls I L R X) (fun v h' => v = some (.int (nI (bN (plV c K so md g).isSome))) ∧ h' = p_mk Ls J L (layR R r) X) := by
  obtain ⟨k1, k2, k3⟩ := kn_0 hV
  obtain ⟨⟨r1, r2, r3, r4, r5, r6, r7, r8⟩, -, ra, -⟩ := hutR_at hK
  have s34 := pl_34 (d := d + 4) (Ls := Ls) (I := I) (L := L) (R := R) (X := X) (r := r)
  have s37 := sp_37 (d := d + 3) (h := p_mk Ls (p_u (p_u I 48 3 (nI 0)) 48 4 (nI 100)) L (layR R r) X) k3 hg
  have rr : ∀ r : Option Nat, p_cats [.ref 48, .ref 71, va_rf r] ≤ p_mx 34 := fun r => by cases r <;> exact Nat.le_of_ble_eq_true rfl
  have j8 : p_u (p_u I 48 3 (nI 0)) 48 4 (nI 100) 71 8 = nI (kn K 0) := by rw [p_u_ne (by omega), p_u_ne (by omega)]; exact r4.trans k1
  have R1 := layR_1 (R := R) (r := r)
  have R2 := layR_2 (R := R) (r := r)
  have fI : ∀ a, ¬ a = 48 → p_u (p_u I 48 3 (nI 0)) 48 4 (nI 100) a = I a := fun a h => by rw [p_u_ne h, p_u_ne h]
  cases hl : tld g (kn K 0) with
  | true =>
    have ev : plV c K so md g = some (0, 100) := if_pos hl
    rw [hl] at s37
    replace s37 : P_m (d + 3 + 1) 37 [.int (nI (kn K 0)), .int (pnI g)] (p_mk Ls (p_u (p_u I 48 3 (nI 0)) 48 4 (nI 100)) L (layR R r) X) (fun v h' => v = some (.int (nI 1)) ∧ h' = p_mk Ls (p_u (p_u I 48 3 (nI 0)) 48 4 (nI 100)) L (layR R r) X) := s37
    refine ⟨p_u (p_u I 48 3 (nI 0)) 48 4 (nI 100), fun a a1 _ _ _ _ _ => fI a a1, fun b hb => ?_, ?_⟩
    · rw [ev] at hb
      cases hb
      exact ⟨by rw [p_u_at, if_neg (by omega), p_u_at, if_pos rfl], by rw [p_u_at, if_pos rfl]⟩
    · rw [ev]
      generalize layR R r = RR at *
      generalize kn K 0 = A at *
      generalize pnI g = G at *
      cases r with
      | none =>
        rw [va_rn] at s34 ⊢
        simp -implicitDefEqProofs (disch := first | omega | decide) only [P_m, ↓P_run_eq _ 36 _ (p_bk 36 0), bk_36_0, pb_36_0, pw_aload_n0, pw_aloadN_n0, pw_aload_n1, pw_aloadN_n1, pw_aload_n2, pw_aloadN_n2, pw_iv3, pw_iconst, il_0, pw_putI, pw_bipush, bl_100, pw_getR, pw_getI, pw_iload_n3, pw_is2, pw_zeq, il_1, pw_ret1, kd_48, rf_48_0, rf_48_6, rf_48_7, rf_48_8, rf_48_9, rf_48_10, rf_48_12, rf_48_13, rf_48_14, rf_48_15, rf_48_1, rf_48_2, kd_71, rf_71_1, rf_71_3, rf_71_4, rf_71_5, rf_71_6, rf_71_11, rf_71_12, rf_71_14, n_0, n_1, n_100, nn_lt, nn_nlt, nn_le, nn_nle, nn_ne, nn_sub, nn_mul, nI_add, nn_neg, nm_eq, mn_eq, mm_eq, mn_lt, nm_lt, mn_le, nm_le, nn_sub0, nn_of, implies_true, nn_c, nn_in, nn_div, nat_rem, Nat.reduceMul, Nat.reduceSub, Nat.reduceDiv, Nat.reduceMod, pf_at, pf_ne, mk_s, mk_1, Classical.not_not, b2i_T, b2i_F, false_imp_iff, true_imp_iff, false_and, and_false, p_sw, Int.reduceAdd, Int.zero_add, Option.some.injEq, Value.int.injEq, Value.long.injEq, Value.ref.injEq, exists_eq_left', mk_I, mk_L, mk_wI, mk_wL, rf_s, rf_n, true_and, and_true, and_self, or_true, true_or, or_false, false_or, not_true_eq_false, not_false_eq_true, Option.toList_some, Option.toList_none, List.cons_append, List.nil_append, List.map_nil, List.map_cons, List.sum_nil, List.sum_cons, cat_i, cat_l, cat_r, cat_n, Nat.reduceLeDiff, Nat.reduceAdd, Nat.reduceEqDiff, Nat.zero_le, p_ent, p_u_ne, p_u_at, reduceIte, if_true, if_false, va_rs, R1, j8, P_ce s34, P_ce s37]
        rfl
      | some t =>
        rw [va_rs] at s34 ⊢
        simp -implicitDefEqProofs (disch := first | omega | decide) only [P_m, ↓P_run_eq _ 36 _ (p_bk 36 0), bk_36_0, pb_36_0, pw_aload_n0, pw_aloadN_n0, pw_aload_n1, pw_aloadN_n1, pw_aload_n2, pw_aloadN_n2, pw_iv3, pw_iconst, il_0, pw_putI, pw_bipush, bl_100, pw_getR, pw_getI, pw_iload_n3, pw_is2, pw_zeq, il_1, pw_ret1, kd_48, rf_48_0, rf_48_6, rf_48_7, rf_48_8, rf_48_9, rf_48_10, rf_48_12, rf_48_13, rf_48_14, rf_48_15, rf_48_1, rf_48_2, kd_71, rf_71_1, rf_71_3, rf_71_4, rf_71_5, rf_71_6, rf_71_11, rf_71_12, rf_71_14, n_0, n_1, n_100, nn_lt, nn_nlt, nn_le, nn_nle, nn_ne, nn_sub, nn_mul, nI_add, nn_neg, nm_eq, mn_eq, mm_eq, mn_lt, nm_lt, mn_le, nm_le, nn_sub0, nn_of, implies_true, nn_c, nn_in, nn_div, nat_rem, Nat.reduceMul, Nat.reduceSub, Nat.reduceDiv, Nat.reduceMod, pf_at, pf_ne, mk_s, mk_1, Classical.not_not, b2i_T, b2i_F, false_imp_iff, true_imp_iff, false_and, and_false, p_sw, Int.reduceAdd, Int.zero_add, Option.some.injEq, Value.int.injEq, Value.long.injEq, Value.ref.injEq, exists_eq_left', mk_I, mk_L, mk_wI, mk_wL, rf_s, rf_n, true_and, and_true, and_self, or_true, true_or, or_false, false_or, not_true_eq_false, not_false_eq_true, Option.toList_some, Option.toList_none, List.cons_append, List.nil_append, List.map_nil, List.map_cons, List.sum_nil, List.sum_cons, cat_i, cat_l, cat_r, cat_n, Nat.reduceLeDiff, Nat.reduceAdd, Nat.reduceEqDiff, Nat.zero_le, p_ent, p_u_ne, p_u_at, reduceIte, if_true, if_false, va_rs, R1, j8, P_ce s34, P_ce s37]
        rfl
  | false =>
    have ev : plV c K so md g = plC c K so md g (kn K 0) := if_neg (by rw [hl]; decide)
    rw [hl] at s37
    replace s37 : P_m (d + 3 + 1) 37 [.int (nI (kn K 0)), .int (pnI g)] (p_mk Ls (p_u (p_u I 48 3 (nI 0)) 48 4 (nI 100)) L (layR R r) X) (fun v h' => v = some (.int (nI 0)) ∧ h' = p_mk Ls (p_u (p_u I 48 3 (nI 0)) 48 4 (nI 100)) L (layR R r) X) := s37
    obtain ⟨J1, f1, q1, s38⟩ := pl_38 (d := d) (I := p_u (p_u I 48 3 (nI 0)) 48 4 (nI 100)) (L := L) (Ls := Ls) (R := layR R r) (X := X) (so := so) (c := c) (K := K) (r := r) hV (hutR_f hK (fun b b1 b2 => fI b (by omega))) (clw_fr (clw_R hc (fun a ha => layR_ne (by omega))) (fun a ha => fI a (by omega))) hcg R1 R2 rfl rfl rfl
    have lp := lp_36 (d := d + 2) (Ls := Ls) (I := I) (L := L) (R := layR R r) (X := X) (c := c) (so := so) (md := md) (z := va_rf r) hV hK hg R1 hl 0 (by omega) J1 (fun a a1 a2 a3 a4 a5 a6 => by rw [f1 a a2 a3 a5 a6]; exact fI a a1) q1 (fun s' h => absurd h (by omega)) (fun e => absurd e (by omega))
    have all : P_m (d + 5) 36 [.ref 48, .ref 71, va_rf r, .int (pnI g), .int (nI (bN so)), .int (nI (bN md))] (p_mk Ls I L R X) (fun v h' => v = some (.int (nI (bN (plC c K so md g (kn K 0)).isSome))) ∧ ∃ J', frQ I J' ∧ (∀ b, plC c K so md g (kn K 0) = some b → J' 48 3 = nI b.1 ∧ J' 48 4 = nI b.2) ∧ h' = p_mk Ls J' L (layR R r) X) := by
      generalize plC c K so md g (kn K 0) = C at *
      generalize layR R r = RR at *
      generalize kn K 0 = A at *
      generalize pnI g = G at *
      cases r with
      | none =>
        rw [va_rn] at s34 lp ⊢
        simp -implicitDefEqProofs (disch := first | omega | decide) only [P_m, ↓P_run_eq _ 36 _ (p_bk 36 0), bk_36_0, pb_36_0, ↓P_run_eq _ 36 _ (p_bk 36 1), bk_36_1, pb_36_1, pw_aload_n0, pw_aloadN_n0, pw_aload_n1, pw_aloadN_n1, pw_aload_n2, pw_aloadN_n2, pw_iv3, pw_iconst, il_0, pw_putI, pw_bipush, bl_100, pw_getR, pw_getI, pw_iload_n3, pw_is2, pw_zeq, il_1, pw_ret1, pw_iload_4, pw_iv2, pw_istore, ps_6, pe_6, po_i6, po_r6, po_n6, po_u6, pw_nop, kd_48, rf_48_0, rf_48_6, rf_48_7, rf_48_8, rf_48_9, rf_48_10, rf_48_12, rf_48_13, rf_48_14, rf_48_15, rf_48_1, rf_48_2, kd_71, rf_71_1, rf_71_3, rf_71_4, rf_71_5, rf_71_6, rf_71_11, rf_71_12, rf_71_14, n_0, n_1, n_100, nn_lt, nn_nlt, nn_le, nn_nle, nn_ne, nn_sub, nn_mul, nI_add, nn_neg, nm_eq, mn_eq, mm_eq, mn_lt, nm_lt, mn_le, nm_le, nn_sub0, nn_of, implies_true, nn_c, nn_in, nn_div, nat_rem, Nat.reduceMul, Nat.reduceSub, Nat.reduceDiv, Nat.reduceMod, pf_at, pf_ne, mk_s, mk_1, Classical.not_not, b2i_T, b2i_F, false_imp_iff, true_imp_iff, false_and, and_false, p_sw, Int.reduceAdd, Int.zero_add, Option.some.injEq, Value.int.injEq, Value.long.injEq, Value.ref.injEq, exists_eq_left', mk_I, mk_L, mk_wI, mk_wL, rf_s, rf_n, true_and, and_true, and_self, or_true, true_or, or_false, false_or, not_true_eq_false, not_false_eq_true, Option.toList_some, Option.toList_none, List.cons_append, List.nil_append, List.map_nil, List.map_cons, List.sum_nil, List.sum_cons, cat_i, cat_l, cat_r, cat_n, Nat.reduceLeDiff, Nat.reduceAdd, Nat.reduceEqDiff, Nat.zero_le, p_ent, p_u_ne, p_u_at, reduceIte, if_true, if_false, va_rs, R1, j8, P_ce s34, P_ce s37, P_ce s38]
        exact lp
      | some t =>
        rw [va_rs] at s34 lp ⊢
        simp -implicitDefEqProofs (disch := first | omega | decide) only [P_m, ↓P_run_eq _ 36 _ (p_bk 36 0), bk_36_0, pb_36_0, ↓P_run_eq _ 36 _ (p_bk 36 1), bk_36_1, pb_36_1, pw_aload_n0, pw_aloadN_n0, pw_aload_n1, pw_aloadN_n1, pw_aload_n2, pw_aloadN_n2, pw_iv3, pw_iconst, il_0, pw_putI, pw_bipush, bl_100, pw_getR, pw_getI, pw_iload_n3, pw_is2, pw_zeq, il_1, pw_ret1, pw_iload_4, pw_iv2, pw_istore, ps_6, pe_6, po_i6, po_r6, po_n6, po_u6, pw_nop, kd_48, rf_48_0, rf_48_6, rf_48_7, rf_48_8, rf_48_9, rf_48_10, rf_48_12, rf_48_13, rf_48_14, rf_48_15, rf_48_1, rf_48_2, kd_71, rf_71_1, rf_71_3, rf_71_4, rf_71_5, rf_71_6, rf_71_11, rf_71_12, rf_71_14, n_0, n_1, n_100, nn_lt, nn_nlt, nn_le, nn_nle, nn_ne, nn_sub, nn_mul, nI_add, nn_neg, nm_eq, mn_eq, mm_eq, mn_lt, nm_lt, mn_le, nm_le, nn_sub0, nn_of, implies_true, nn_c, nn_in, nn_div, nat_rem, Nat.reduceMul, Nat.reduceSub, Nat.reduceDiv, Nat.reduceMod, pf_at, pf_ne, mk_s, mk_1, Classical.not_not, b2i_T, b2i_F, false_imp_iff, true_imp_iff, false_and, and_false, p_sw, Int.reduceAdd, Int.zero_add, Option.some.injEq, Value.int.injEq, Value.long.injEq, Value.ref.injEq, exists_eq_left', mk_I, mk_L, mk_wI, mk_wL, rf_s, rf_n, true_and, and_true, and_self, or_true, true_or, or_false, false_or, not_true_eq_false, not_false_eq_true, Option.toList_some, Option.toList_none, List.cons_append, List.nil_append, List.map_nil, List.map_cons, List.sum_nil, List.sum_cons, cat_i, cat_l, cat_r, cat_n, Nat.reduceLeDiff, Nat.reduceAdd, Nat.reduceEqDiff, Nat.zero_le, p_ent, p_u_ne, p_u_at, reduceIte, if_true, if_false, va_rs, R1, j8, P_ce s34, P_ce s37, P_ce s38]
        exact lp
    obtain ⟨v, g', ⟨rfl, J', f2, f3, rfl⟩, s⟩ := P_mex all
    rw [← ev] at s f3
    exact ⟨J', f2, f3, s⟩
end PG
