/-! COMPARE -/
theorem wSum_cg {w w' : Nat → Nat} {s : Nat} : ∀ n, (∀ t, t < n → w t = w' t) → wSum w s n = wSum w' s n
  | 0, _ => rfl
  | n + 1, h => by
    show wSum w s n + bt s n * w n = wSum w' s n + bt s n * w' n
    rw [wSum_cg n (fun t ht => h t (by omega)), h n (by omega)]
section CG
variable {n m : Nat} {a a' w w' : Nat → Nat} {y y' : Nat → Nat → Nat} {ok ok' : Nat → Nat → Bool} {md : Bool} {g : Option Nat}
theorem cel_cg (ha : ∀ q, q < m → a q = a' q) (hw : ∀ t, t < n → w t = w' t) (hy : ∀ q, q < m → y q = y' q) (ho : ∀ q, q < m → ok q = ok' q) (T : Nat → Option Nat) (s : Nat) : ∀ q, q ≤ m → cel n a w y ok md T s q = cel n a' w' y' ok' md T s q
  | 0, _ => rfl
  | q + 1, h => by
    have ih := cel_cg ha hw hy ho T s q (by omega)
    have e : cnd n a w y ok md T s q = cnd n a' w' y' ok' md T s q := by
      unfold cnd wtS
      rw [ha q (by omega), hy q (by omega), ho q (by omega), wSum_cg n hw]
    unfold cel
    rw [ih, e]
theorem tbl_cg (ha : ∀ q, q < m → a q = a' q) (hw : ∀ t, t < n → w t = w' t) (hy : ∀ q, q < m → y q = y' q) (ho : ∀ q, q < m → ok q = ok' q) : ∀ s, tbl n m a w y ok md g s = tbl n m a' w' y' ok' md g s
  | 0 => rfl
  | s + 1 => by
    have ih := tbl_cg ha hw hy ho s
    unfold tbl
    rw [ih, cel_cg ha hw hy ho _ _ m (Nat.le_refl _)]
end CG
theorem kn_56 {K : Nat → Int32} {x : Int32} {j : Nat} (h : j ≠ 56) : kn (upd K 56 x) j = kn K j := by unfold kn; rw [upd_ne h]
theorem wEnv_56 {K : Nat → Int32} {x lf : Int32} {q : Nat} (hq : q < 8) : wEnv (upd K 56 x) q lf = wEnv K q lf := by
  funext j
  unfold wEnv
  rw [upd_ne (by omega), upd_ne (by omega), upd_ne (by omega), upd_ne (by omega), upd_ne (by omega), upd_ne (by omega), upd_ne (by omega)]
theorem plV_56 {c : Option (List tCl)} {K : Nat → Int32} {x : Int32} {so md : Bool} {g : Option Nat} (hm : kn K 53 ≤ 8) (hn : kn K 52 ≤ 8) : plV c (upd K 56 x) so md g = plV c K so md g := by
  have hy : ∀ q, q < kn K 53 → yv c (upd K 56 x) q = yv c K q := fun q hq => by
    funext l; unfold yv; rw [wEnv_56 (by omega)]
  have ho : ∀ q, q < kn K 53 → okP c (upd K 56 x) so q = okP c K so q := fun q hq => by
    funext l; unfold okP bv; rw [wEnv_56 (by omega), kn_56 (by omega)]
  have ha : ∀ q, q < kn K 53 → (fun q => kn (upd K 56 x) (37 + q)) q = (fun q => kn K (37 + q)) q := fun q hq => kn_56 (by omega)
  have hw : ∀ t, t < kn K 52 → (fun t => kn (upd K 56 x) (13 + t)) t = (fun t => kn K (13 + t)) t := fun t ht => kn_56 (by omega)
  have hT : ∀ s, plT c (upd K 56 x) so md g s = plT c K so md g s := fun s => by
    unfold plT
    rw [kn_56 (by omega), kn_56 (by omega)]
    exact tbl_cg ha hw hy ho s
  unfold plV plC
  rw [hT, kn_56 (by omega), kn_56 (by omega), kn_56 (by omega), cel_cg ha hw hy ho _ _ _ (Nat.le_refl _)]
theorem vld_56 {K : Nat → Int32} {x : Int32} (hV : vld K) (hx : x = -1 ∨ ∃ f, f < kn K 55 ∧ x = nI f) : vld (upd K 56 x) := by
  rw [vld_iff] at *
  obtain ⟨v1, v2, v3, v4⟩ := hV
  refine ⟨fun k k1 k2 k3 => ?_, ?_, ?_, ?_⟩
  · rw [upd_ne (by omega)]; exact v1 k k1 k2 k3
  · rw [upd_ne (by omega), upd_ne (by omega)]; exact v2
  · rw [upd_ne (by omega), upd_ne (by omega)]; exact v3
  · rw [upd_eq, upd_ne (by omega)]; exact hx
section CP
variable {d Ls : Nat} {I : Nat → Nat → Int32} {L : Nat → Nat → Int64} {R : Nat → Nat → Option Nat} {X : List pKd} {h : pHp}
theorem law_56 {x : Int32} (H : Inv I R X) (hx : x = -1 ∨ ∃ f, f < kn (I 125) 55 ∧ x = nI f) : ∃ c, lawOf (upd (I 125) 56 x) c ∧ clw Ls I R X (fRef R 71 (upd (I 125) 56 x)) c := by
  obtain ⟨-, -, -, -, -, -, h7, h8⟩ := H
  have hV := vld_56 h8 hx
  refine hut_law (Ls := Ls) ⟨h7.2.1, fun i hi => ?_⟩ hV.2.2 hV.1.2.2.2.1
  rw [upd_ne (by omega)] at hi
  obtain ⟨t, t1, t2, t3⟩ := h7.2.2 i hi
  exact ⟨t, t1, t2, lawRel_same t3 (fun _ _ => rfl) (fun _ _ => rfl) (fun k k1 _ => upd_ne (by omega))⟩
theorem cmp_c {c : Option (List tCl)} {r : Option Nat} (hx : Cx Ls I R X c) {c' : Option (List tCl)} (hc : clw Ls I R X r c') (hg : cgL c') {x : Int32} (hr : (x = mI 1 ∧ r = none) ∨ ∃ f, f < kn (I 125) 55 ∧ x = nI f ∧ r = R 79 f) : ∃ J, frQ I J ∧ P_m (d + 6) 109 [.ref 32, .int x] (p_mk Ls I L R X) (fun v h' => v = some (.int (pnI (rsV false (plV c' (I 125) false false none)))) ∧ h' = p_mk Ls J L (layR R r) X) := by
  have hV := hx.2.2.1
  obtain ⟨⟨r1, r2, r3, r4, r5, r6, r7, r8⟩, -⟩ := hutR_at hx.1
  have e55 := kn_e hV (j := 55) (by omega) (by omega) (by omega)
  have l55 : kn (I 125) 55 ≤ 6 := e55.2
  have hg0 : ∀ k, (none : Option Nat) = some k → k < 256 := fun k hk => by cases hk
  obtain ⟨J, fJ, fb, s⟩ := pl_36 (d := d) (Ls := Ls) (I := I) (L := L) (R := R) (X := X) (c := c') (K := I 125) (r := r) (so := false) (md := false) (g := none) hV hx.1 hc hg hg0
  refine ⟨J, fJ, ?_⟩
  have vl := fun b hb => plV_le (c := c') (so := false) (md := false) (b := b) hV hg0 hb
  have j13 : I 71 13 = nI (kn (I 125) 55) := r7.trans e55.1
  have s9 := sp_9 (d := d + 5) (Ls := Ls) (I := I) (L := L) (R := R) (X := X) x
  rw [j13] at s9
  have k79 : ∀ f, f < 6 → p_R (p_mk Ls I L R X) 79 f = R 79 f := fun f hf => rfl
  generalize layR R r = RR at *
  rcases hr with ⟨rfl, rfl⟩ | ⟨f, hf, rfl, rfl⟩
  · cases hP : plV c' (I 125) false false none with
    | none =>
      rw [hP] at s
      replace s : P_m (d + 5) 36 [.ref 48, .ref 71, .null, .int (mI 1), .int (nI 0), .int (nI 0)] (p_mk Ls I L R X) (fun v h' => v = some (.int (nI 0)) ∧ h' = p_mk Ls J L RR X) := s
      show P_m _ _ _ _ (fun v h' => v = some (.int (mI 1)) ∧ _)
      simp -implicitDefEqProofs (disch := first | omega | decide) only [P_m, ↓P_run_eq _ 109 _ (p_bk 109 0), bk_109_0, pb_109_0, ↓P_run_eq _ 109 _ (p_bk 109 1), bk_109_1, pb_109_1, ↓P_run_eq _ 109 _ (p_bk 109 3), bk_109_3, pb_109_3, ↓P_run_eq _ 109 _ (p_bk 109 4), bk_109_4, pb_109_4, ↓P_run_eq _ 109 _ (p_bk 109 5), bk_109_5, pb_109_5, pw_iload_n1, pw_iconst, il_m1, pw_ceq, pw_aload_n0, pw_aloadN_n0, pw_getR, pw_iv2, pw_zne, pw_ret0, pw_cne, pw_null, pw_goto, pw_astore_n2, pw_astoreN_n2, ps_2, pe_2, po_i2, po_r2, po_n2, po_u2, pw_aload_n2, pw_aloadN_n2, il_0, pw_iv6, pw_zeq, pw_getI, pw_nop, kd_32, rf_32_0, rf_32_1, rf_32_2, rf_32_3, rf_32_4, rf_32_5, rf_32_6, rf_32_7, rf_32_8, rf_32_9, rf_32_11, rf_32_12, rf_32_13, kd_48, rf_48_0, rf_48_6, rf_48_7, rf_48_8, rf_48_9, rf_48_10, rf_48_12, rf_48_13, rf_48_14, rf_48_15, rf_48_1, rf_48_2, kd_71, rf_71_1, rf_71_3, rf_71_4, rf_71_5, rf_71_6, rf_71_11, rf_71_12, rf_71_14, n_0, n_1, nn_lt, nn_nlt, nn_le, nn_nle, nn_ne, nn_sub, nn_mul, nI_add, nn_neg, nm_eq, mn_eq, mm_eq, mn_lt, nm_lt, mn_le, nm_le, nn_sub0, nn_of, implies_true, nn_c, nn_in, nn_div, nat_rem, Nat.reduceMul, Nat.reduceSub, Nat.reduceDiv, Nat.reduceMod, pf_at, pf_ne, mk_s, mk_1, Classical.not_not, b2i_T, b2i_F, false_imp_iff, true_imp_iff, false_and, and_false, p_sw, Int.reduceAdd, Int.zero_add, Option.some.injEq, Value.int.injEq, Value.long.injEq, Value.ref.injEq, exists_eq_left', mk_I, mk_L, mk_wI, mk_wL, rf_s, rf_n, true_and, and_true, and_self, or_true, true_or, or_false, false_or, not_true_eq_false, not_false_eq_true, Option.toList_some, Option.toList_none, List.cons_append, List.nil_append, List.map_nil, List.map_cons, List.sum_nil, List.sum_cons, cat_i, cat_l, cat_r, cat_n, Nat.reduceLeDiff, Nat.reduceAdd, Nat.reduceEqDiff, Nat.zero_le, p_ent, p_u_ne, p_u_at, reduceIte, if_true, if_false, P_ce s]
    | some b =>
      obtain ⟨v1, v2⟩ := vl b hP
      obtain ⟨f3, f4⟩ := fb b hP
      rw [hP] at s
      replace s : P_m (d + 5) 36 [.ref 48, .ref 71, .null, .int (mI 1), .int (nI 0), .int (nI 0)] (p_mk Ls I L R X) (fun v h' => v = some (.int (nI 1)) ∧ h' = p_mk Ls J L RR X) := s
      show P_m _ _ _ _ (fun v h' => v = some (.int (nI b.1)) ∧ _)
      simp -implicitDefEqProofs (disch := first | omega | decide) only [P_m, ↓P_run_eq _ 109 _ (p_bk 109 0), bk_109_0, pb_109_0, ↓P_run_eq _ 109 _ (p_bk 109 1), bk_109_1, pb_109_1, ↓P_run_eq _ 109 _ (p_bk 109 3), bk_109_3, pb_109_3, ↓P_run_eq _ 109 _ (p_bk 109 5), bk_109_5, pb_109_5, pw_iload_n1, pw_iconst, il_m1, pw_ceq, pw_aload_n0, pw_aloadN_n0, pw_getR, pw_iv2, pw_zne, pw_ret0, pw_cne, pw_null, pw_goto, pw_astore_n2, pw_astoreN_n2, ps_2, pe_2, po_i2, po_r2, po_n2, po_u2, pw_aload_n2, pw_aloadN_n2, il_0, pw_iv6, pw_zeq, pw_getI, kd_32, rf_32_0, rf_32_1, rf_32_2, rf_32_3, rf_32_4, rf_32_5, rf_32_6, rf_32_7, rf_32_8, rf_32_9, rf_32_11, rf_32_12, rf_32_13, kd_48, rf_48_0, rf_48_6, rf_48_7, rf_48_8, rf_48_9, rf_48_10, rf_48_12, rf_48_13, rf_48_14, rf_48_15, rf_48_1, rf_48_2, kd_71, rf_71_1, rf_71_3, rf_71_4, rf_71_5, rf_71_6, rf_71_11, rf_71_12, rf_71_14, n_0, n_1, nn_lt, nn_nlt, nn_le, nn_nle, nn_ne, nn_sub, nn_mul, nI_add, nn_neg, nm_eq, mn_eq, mm_eq, mn_lt, nm_lt, mn_le, nm_le, nn_sub0, nn_of, implies_true, nn_c, nn_in, nn_div, nat_rem, Nat.reduceMul, Nat.reduceSub, Nat.reduceDiv, Nat.reduceMod, pf_at, pf_ne, mk_s, mk_1, Classical.not_not, b2i_T, b2i_F, false_imp_iff, true_imp_iff, false_and, and_false, p_sw, Int.reduceAdd, Int.zero_add, Option.some.injEq, Value.int.injEq, Value.long.injEq, Value.ref.injEq, exists_eq_left', mk_I, mk_L, mk_wI, mk_wL, rf_s, rf_n, true_and, and_true, and_self, or_true, true_or, or_false, false_or, not_true_eq_false, not_false_eq_true, Option.toList_some, Option.toList_none, List.cons_append, List.nil_append, List.map_nil, List.map_cons, List.sum_nil, List.sum_cons, cat_i, cat_l, cat_r, cat_n, Nat.reduceLeDiff, Nat.reduceAdd, Nat.reduceEqDiff, Nat.zero_le, p_ent, p_u_ne, p_u_at, reduceIte, if_true, if_false, f3, P_ce s]
  · rw [show b2i (0 ≤ nI f ∧ nI f < nI (kn (I 125) 55)) = nI 1 from b2i_t (rg_t hf (by omega)).1] at s9
    have f6 := k79 f (by omega)
    cases hR : R 79 f with
    | none =>
      rw [hR] at s f6
      cases hP : plV c' (I 125) false false none with
      | none =>
        rw [hP] at s
        replace s : P_m (d + 5) 36 [.ref 48, .ref 71, .null, .int (mI 1), .int (nI 0), .int (nI 0)] (p_mk Ls I L R X) (fun v h' => v = some (.int (nI 0)) ∧ h' = p_mk Ls J L RR X) := s
        show P_m _ _ _ _ (fun v h' => v = some (.int (mI 1)) ∧ _)
        simp -implicitDefEqProofs (disch := first | omega | decide) only [P_m, ↓P_run_eq _ 109 _ (p_bk 109 0), bk_109_0, pb_109_0, ↓P_run_eq _ 109 _ (p_bk 109 1), bk_109_1, pb_109_1, ↓P_run_eq _ 109 _ (p_bk 109 2), bk_109_2, pb_109_2, ↓P_run_eq _ 109 _ (p_bk 109 3), bk_109_3, pb_109_3, ↓P_run_eq _ 109 _ (p_bk 109 4), bk_109_4, pb_109_4, ↓P_run_eq _ 109 _ (p_bk 109 5), bk_109_5, pb_109_5, pw_iload_n1, pw_iconst, il_m1, pw_ceq, pw_aload_n0, pw_aloadN_n0, pw_getR, pw_iv2, pw_zne, pw_ret0, pw_cne, pw_null, pw_goto, pw_aald, pw_nop, pw_astore_n2, pw_astoreN_n2, ps_2, pe_2, po_i2, po_r2, po_n2, po_u2, pw_aload_n2, pw_aloadN_n2, il_0, pw_iv6, pw_zeq, pw_getI, kd_32, rf_32_0, rf_32_1, rf_32_2, rf_32_3, rf_32_4, rf_32_5, rf_32_6, rf_32_7, rf_32_8, rf_32_9, rf_32_11, rf_32_12, rf_32_13, kd_48, rf_48_0, rf_48_6, rf_48_7, rf_48_8, rf_48_9, rf_48_10, rf_48_12, rf_48_13, rf_48_14, rf_48_15, rf_48_1, rf_48_2, kd_71, rf_71_1, rf_71_3, rf_71_4, rf_71_5, rf_71_6, rf_71_11, rf_71_12, rf_71_14, kd_79, rg_79, n_0, n_1, nn_lt, nn_nlt, nn_le, nn_nle, nn_ne, nn_sub, nn_mul, nI_add, nn_neg, nm_eq, mn_eq, mm_eq, mn_lt, nm_lt, mn_le, nm_le, nn_sub0, nn_of, implies_true, nn_c, nn_in, nn_div, nat_rem, Nat.reduceMul, Nat.reduceSub, Nat.reduceDiv, Nat.reduceMod, pf_at, pf_ne, mk_s, mk_1, Classical.not_not, b2i_T, b2i_F, false_imp_iff, true_imp_iff, false_and, and_false, p_sw, Int.reduceAdd, Int.zero_add, Option.some.injEq, Value.int.injEq, Value.long.injEq, Value.ref.injEq, exists_eq_left', mk_I, mk_L, mk_wI, mk_wL, rf_s, rf_n, true_and, and_true, and_self, or_true, true_or, or_false, false_or, not_true_eq_false, not_false_eq_true, Option.toList_some, Option.toList_none, List.cons_append, List.nil_append, List.map_nil, List.map_cons, List.sum_nil, List.sum_cons, cat_i, cat_l, cat_r, cat_n, Nat.reduceLeDiff, Nat.reduceAdd, Nat.reduceEqDiff, Nat.zero_le, p_ent, p_u_ne, p_u_at, reduceIte, if_true, if_false, f6, va_rn, P_ce s9, P_ce s]
      | some b =>
        obtain ⟨v1, v2⟩ := vl b hP
        obtain ⟨f3, f4⟩ := fb b hP
        rw [hP] at s
        replace s : P_m (d + 5) 36 [.ref 48, .ref 71, .null, .int (mI 1), .int (nI 0), .int (nI 0)] (p_mk Ls I L R X) (fun v h' => v = some (.int (nI 1)) ∧ h' = p_mk Ls J L RR X) := s
        show P_m _ _ _ _ (fun v h' => v = some (.int (nI b.1)) ∧ _)
        simp -implicitDefEqProofs (disch := first | omega | decide) only [P_m, ↓P_run_eq _ 109 _ (p_bk 109 0), bk_109_0, pb_109_0, ↓P_run_eq _ 109 _ (p_bk 109 1), bk_109_1, pb_109_1, ↓P_run_eq _ 109 _ (p_bk 109 2), bk_109_2, pb_109_2, ↓P_run_eq _ 109 _ (p_bk 109 3), bk_109_3, pb_109_3, ↓P_run_eq _ 109 _ (p_bk 109 5), bk_109_5, pb_109_5, pw_iload_n1, pw_iconst, il_m1, pw_ceq, pw_aload_n0, pw_aloadN_n0, pw_getR, pw_iv2, pw_zne, pw_ret0, pw_cne, pw_null, pw_goto, pw_aald, pw_nop, pw_astore_n2, pw_astoreN_n2, ps_2, pe_2, po_i2, po_r2, po_n2, po_u2, pw_aload_n2, pw_aloadN_n2, il_0, pw_iv6, pw_zeq, pw_getI, kd_32, rf_32_0, rf_32_1, rf_32_2, rf_32_3, rf_32_4, rf_32_5, rf_32_6, rf_32_7, rf_32_8, rf_32_9, rf_32_11, rf_32_12, rf_32_13, kd_48, rf_48_0, rf_48_6, rf_48_7, rf_48_8, rf_48_9, rf_48_10, rf_48_12, rf_48_13, rf_48_14, rf_48_15, rf_48_1, rf_48_2, kd_71, rf_71_1, rf_71_3, rf_71_4, rf_71_5, rf_71_6, rf_71_11, rf_71_12, rf_71_14, kd_79, rg_79, n_0, n_1, nn_lt, nn_nlt, nn_le, nn_nle, nn_ne, nn_sub, nn_mul, nI_add, nn_neg, nm_eq, mn_eq, mm_eq, mn_lt, nm_lt, mn_le, nm_le, nn_sub0, nn_of, implies_true, nn_c, nn_in, nn_div, nat_rem, Nat.reduceMul, Nat.reduceSub, Nat.reduceDiv, Nat.reduceMod, pf_at, pf_ne, mk_s, mk_1, Classical.not_not, b2i_T, b2i_F, false_imp_iff, true_imp_iff, false_and, and_false, p_sw, Int.reduceAdd, Int.zero_add, Option.some.injEq, Value.int.injEq, Value.long.injEq, Value.ref.injEq, exists_eq_left', mk_I, mk_L, mk_wI, mk_wL, rf_s, rf_n, true_and, and_true, and_self, or_true, true_or, or_false, false_or, not_true_eq_false, not_false_eq_true, Option.toList_some, Option.toList_none, List.cons_append, List.nil_append, List.map_nil, List.map_cons, List.sum_nil, List.sum_cons, cat_i, cat_l, cat_r, cat_n, Nat.reduceLeDiff, Nat.reduceAdd, Nat.reduceEqDiff, Nat.zero_le, p_ent, p_u_ne, p_u_at, reduceIte, if_true, if_false, f3, f6, va_rn, P_ce s9, P_ce s]
    | some t =>
      rw [hR] at s f6
      cases hP : plV c' (I 125) false false none with
      | none =>
        rw [hP] at s
        replace s : P_m (d + 5) 36 [.ref 48, .ref 71, .ref t, .int (mI 1), .int (nI 0), .int (nI 0)] (p_mk Ls I L R X) (fun v h' => v = some (.int (nI 0)) ∧ h' = p_mk Ls J L RR X) := s
        show P_m _ _ _ _ (fun v h' => v = some (.int (mI 1)) ∧ _)
        simp -implicitDefEqProofs (disch := first | omega | decide) only [P_m, ↓P_run_eq _ 109 _ (p_bk 109 0), bk_109_0, pb_109_0, ↓P_run_eq _ 109 _ (p_bk 109 1), bk_109_1, pb_109_1, ↓P_run_eq _ 109 _ (p_bk 109 2), bk_109_2, pb_109_2, ↓P_run_eq _ 109 _ (p_bk 109 3), bk_109_3, pb_109_3, ↓P_run_eq _ 109 _ (p_bk 109 4), bk_109_4, pb_109_4, ↓P_run_eq _ 109 _ (p_bk 109 5), bk_109_5, pb_109_5, pw_iload_n1, pw_iconst, il_m1, pw_ceq, pw_aload_n0, pw_aloadN_n0, pw_getR, pw_iv2, pw_zne, pw_ret0, pw_cne, pw_null, pw_goto, pw_aald, pw_nop, pw_astore_n2, pw_astoreN_n2, ps_2, pe_2, po_i2, po_r2, po_n2, po_u2, pw_aload_n2, pw_aloadN_n2, il_0, pw_iv6, pw_zeq, pw_getI, kd_32, rf_32_0, rf_32_1, rf_32_2, rf_32_3, rf_32_4, rf_32_5, rf_32_6, rf_32_7, rf_32_8, rf_32_9, rf_32_11, rf_32_12, rf_32_13, kd_48, rf_48_0, rf_48_6, rf_48_7, rf_48_8, rf_48_9, rf_48_10, rf_48_12, rf_48_13, rf_48_14, rf_48_15, rf_48_1, rf_48_2, kd_71, rf_71_1, rf_71_3, rf_71_4, rf_71_5, rf_71_6, rf_71_11, rf_71_12, rf_71_14, kd_79, rg_79, n_0, n_1, nn_lt, nn_nlt, nn_le, nn_nle, nn_ne, nn_sub, nn_mul, nI_add, nn_neg, nm_eq, mn_eq, mm_eq, mn_lt, nm_lt, mn_le, nm_le, nn_sub0, nn_of, implies_true, nn_c, nn_in, nn_div, nat_rem, Nat.reduceMul, Nat.reduceSub, Nat.reduceDiv, Nat.reduceMod, pf_at, pf_ne, mk_s, mk_1, Classical.not_not, b2i_T, b2i_F, false_imp_iff, true_imp_iff, false_and, and_false, p_sw, Int.reduceAdd, Int.zero_add, Option.some.injEq, Value.int.injEq, Value.long.injEq, Value.ref.injEq, exists_eq_left', mk_I, mk_L, mk_wI, mk_wL, rf_s, rf_n, true_and, and_true, and_self, or_true, true_or, or_false, false_or, not_true_eq_false, not_false_eq_true, Option.toList_some, Option.toList_none, List.cons_append, List.nil_append, List.map_nil, List.map_cons, List.sum_nil, List.sum_cons, cat_i, cat_l, cat_r, cat_n, Nat.reduceLeDiff, Nat.reduceAdd, Nat.reduceEqDiff, Nat.zero_le, p_ent, p_u_ne, p_u_at, reduceIte, if_true, if_false, f6, va_rs, P_ce s9, P_ce s]
      | some b =>
        obtain ⟨v1, v2⟩ := vl b hP
        obtain ⟨f3, f4⟩ := fb b hP
        rw [hP] at s
        replace s : P_m (d + 5) 36 [.ref 48, .ref 71, .ref t, .int (mI 1), .int (nI 0), .int (nI 0)] (p_mk Ls I L R X) (fun v h' => v = some (.int (nI 1)) ∧ h' = p_mk Ls J L RR X) := s
        show P_m _ _ _ _ (fun v h' => v = some (.int (nI b.1)) ∧ _)
        simp -implicitDefEqProofs (disch := first | omega | decide) only [P_m, ↓P_run_eq _ 109 _ (p_bk 109 0), bk_109_0, pb_109_0, ↓P_run_eq _ 109 _ (p_bk 109 1), bk_109_1, pb_109_1, ↓P_run_eq _ 109 _ (p_bk 109 2), bk_109_2, pb_109_2, ↓P_run_eq _ 109 _ (p_bk 109 3), bk_109_3, pb_109_3, ↓P_run_eq _ 109 _ (p_bk 109 5), bk_109_5, pb_109_5, pw_iload_n1, pw_iconst, il_m1, pw_ceq, pw_aload_n0, pw_aloadN_n0, pw_getR, pw_iv2, pw_zne, pw_ret0, pw_cne, pw_null, pw_goto, pw_aald, pw_nop, pw_astore_n2, pw_astoreN_n2, ps_2, pe_2, po_i2, po_r2, po_n2, po_u2, pw_aload_n2, pw_aloadN_n2, il_0, pw_iv6, pw_zeq, pw_getI, kd_32, rf_32_0, rf_32_1, rf_32_2, rf_32_3, rf_32_4, rf_32_5, rf_32_6, rf_32_7, rf_32_8, rf_32_9, rf_32_11, rf_32_12, rf_32_13, kd_48, rf_48_0, rf_48_6, rf_48_7, rf_48_8, rf_48_9, rf_48_10, rf_48_12, rf_48_13, rf_48_14, rf_48_15, rf_48_1, rf_48_2, kd_71, rf_71_1, rf_71_3, rf_71_4, rf_71_5, rf_71_6, rf_71_11, rf_71_12, rf_71_14, kd_79, rg_79, n_0, n_1, nn_lt, nn_nlt, nn_le, nn_nle, nn_ne, nn_sub, nn_mul, nI_add, nn_neg, nm_eq, mn_eq, mm_eq, mn_lt, nm_lt, mn_le, nm_le, nn_sub0, nn_of, implies_true, nn_c, nn_in, nn_div, nat_rem, Nat.reduceMul, Nat.reduceSub, Nat.reduceDiv, Nat.reduceMod, pf_at, pf_ne, mk_s, mk_1, Classical.not_not, b2i_T, b2i_F, false_imp_iff, true_imp_iff, false_and, and_false, p_sw, Int.reduceAdd, Int.zero_add, Option.some.injEq, Value.int.injEq, Value.long.injEq, Value.ref.injEq, exists_eq_left', mk_I, mk_L, mk_wI, mk_wL, rf_s, rf_n, true_and, and_true, and_self, or_true, true_or, or_false, false_or, not_true_eq_false, not_false_eq_true, Option.toList_some, Option.toList_none, List.cons_append, List.nil_append, List.map_nil, List.map_cons, List.sum_nil, List.sum_cons, cat_i, cat_l, cat_r, cat_n, Nat.reduceLeDiff, Nat.reduceAdd, Nat.reduceEqDiff, Nat.zero_le, p_ent, p_u_ne, p_u_at, reduceIte, if_true, if_false, f3, f6, va_rs, P_ce s9, P_ce s]
end CP
