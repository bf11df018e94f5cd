/-! WORST, MEAN -/
section WM
variable {d Ls : Nat} {I : Nat → Nat → Int32} {L : Nat → Nat → Int64} {R : Nat → Nat → Option Nat} {X : List pKd} {h : pHp} {c : Option (List tCl)} {r : Option Nat} {K : Nat → Int32}
def rsV (fi : Bool) (V : Option (Nat × Nat)) : Option Nat := V.map (fun b => if fi = true then b.2 else b.1)
theorem plV_le {so md : Bool} {g : Option Nat} (hV : vld K) (hg : ∀ k, g = some k → k < 256) {b : Nat × Nat} (h : plV c K so md g = some b) : b.1 ≤ 627264 ∧ b.2 ≤ 100 := by
  obtain ⟨n1, n2⟩ := kn_52 hV
  obtain ⟨m1, m2⟩ := kn_53 hV
  obtain ⟨k1, k2, k3⟩ := kn_0 hV
  unfold plV at h
  by_cases t : tld g (kn K 0) = true
  · rw [if_pos t] at h; cases h; exact ⟨by omega, by omega⟩
  · rw [if_neg t] at h
    have tA : tld g (kn K 0) = false := by simpa using t
    have lb := cel_b n2 (fun t ht => (kn_13 hV (by omega)).2) k3 (by have := tld_pc k3 hg tA; omega) (plT_b hV hg (kn K 0) (by omega)) (kn K 53) b (fun j hj => (yv_e (vld_env hV (by omega)) (pc_le _)).2) h
    have h2 := wtS_le (md := md) n2 (fun t ht => (kn_13 hV (t := t) (by omega)).2) (kn K 0)
    have h3 := pc_le (kn K 0)
    have h4 : 99 * pc (kn K 0) * wtS (kn K 52) (fun t => kn K (13 + t)) md (kn K 0) ≤ 792 * 792 := Nat.mul_le_mul (by omega) h2
    omega
theorem sp_141n {n : Nat} (hn : n ≤ 8) (e : I 125 52 = nI n) : P_m d 141 [.ref 123] (p_mk Ls I L R X) (fun v h' => v = some (.int (nI (2 ^ n - 1))) ∧ h' = p_mk Ls I L R X) := by
  have := sp_141 (d := d) (Ls := Ls) (I := I) (L := L) (R := R) (X := X)
  rw [e, sh_lt n hn] at this
  exact this
theorem ce_141n {n : Nat} (hn : n ≤ 8) {yy : Nat} {rr : List pI} {kc ks : Nat} {lls st : List Value} {Q : Option Value → pHp → Prop} (e : I 125 52 = nI n) : P_call d yy 141 [.ref 123] rr kc ks lls st (p_mk Ls I L R X) Q = P_w (d + 1) yy Q rr kc ks lls ((.int (nI (2 ^ n - 1))) :: st) (p_mk Ls I L R X) := P_ce (sp_141n hn e)
/-- within: -1, or a set -/
def inG (n : Nat) (x : Int32) : Prop := mI 1 ≤ x ∧ x ≤ nI (2 ^ n - 1)
theorem inG_g {n : Nat} {x : Int32} (hn : n ≤ 8) (h : inG n x) : ∃ g : Option Nat, x = pnI g ∧ ∀ k, g = some k → k < 256 := by
  have p2 : 2 ^ n ≤ 2 ^ 8 := Nat.pow_le_pow_right (by omega) hn
  obtain ⟨h1, h2⟩ := h
  by_cases h0 : x < 0
  · refine ⟨none, ?_, fun k hk => by cases hk⟩
    show x = mI 1
    rw [Int32.le_iff_toInt_le, mI_toInt (by omega)] at h1
    rw [Int32.lt_iff_toInt_lt] at h0
    refine Int32.toInt_inj.mp ?_
    rw [mI_toInt (by omega)]
    have : (0 : Int32).toInt = 0 := rfl
    omega
  · obtain ⟨k, hk, e⟩ := nI_of (x := x) h0
    subst e
    rw [Int32.le_iff_toInt_le, nI_toInt hk, nI_toInt (by omega)] at h2
    exact ⟨some k, rfl, fun j hj => by cases hj; omega⟩
theorem in01 {x : Int32} (h : nI 0 ≤ x ∧ x ≤ nI 1) : ∃ b : Bool, x = nI (bN b) := by
  obtain ⟨h1, h2⟩ := h
  obtain ⟨k, hk, e⟩ := nI_of (x := x) (Int32.not_lt.mpr h1)
  subst e
  rw [Int32.le_iff_toInt_le, nI_toInt hk, nI_toInt (by omega)] at h2
  have : k = 0 ∨ k = 1 := by omega
  rcases this with rfl | rfl
  · exact ⟨false, rfl⟩
  · exact ⟨true, rfl⟩
theorem pl_230 {so md fi : Bool} {g : Option Nat} (hV : vld (I 125)) (hc : lawOf (I 125) c) (hg : ∀ k, g = some k → k < 256) (hi : inG (kn (I 125) 52) (pnI g)) : ∃ J, frF I J ∧ P_m (d + 50) 230 [.ref 123, .int (pnI g), .int (nI (bN so)), .int (nI (bN fi)), .int (nI (bN (!md)))] (p_mk Ls I L R X) (fun v h' => v = some (.int (pnI (rsV fi (plV c (I 125) so md g)))) ∧ h' = p_mk Ls J L R X) := by
  obtain ⟨n1, n2⟩ := kn_52 hV
  obtain ⟨J, fJ, f33, s⟩ := pl_229 (d := d) (Ls := Ls) (L := L) (R := R) (X := X) (so := so) (md := md) hV hc hg
  have s1 := sp_141n (d := d + 49) (Ls := Ls) (I := I) (L := L) (R := R) (X := X) n2 n1
  have s2 := sp_125 (d := d + 49) (h := p_mk Ls I L R X) (pnI g) (mI 1) (nI (2 ^ kn (I 125) 52 - 1))
  rw [show b2i (mI 1 ≤ pnI g ∧ pnI g ≤ nI (2 ^ kn (I 125) 52 - 1)) = nI 1 from b2i_t hi] at s2
  have s3 : ∀ b : Bool, P_m (d + 49) 125 [.int (nI (bN b)), .int (nI 0), .int (nI 1)] (p_mk Ls I L R X) (fun v h' => v = some (.int (nI 1)) ∧ h' = p_mk Ls I L R X) := fun b => by
    have := sp_125 (d := d + 49) (h := p_mk Ls I L R X) (nI (bN b)) (nI 0) (nI 1)
    rw [show b2i (nI 0 ≤ nI (bN b) ∧ nI (bN b) ≤ nI 1) = nI 1 from b2i_t (by cases b <;> decide)] at this
    exact this
  have s4 := s3 so
  have s5 := s3 fi
  have vl := fun b hb => plV_le (c := c) (so := so) (md := md) (b := b) hV hg hb
  refine ⟨J, fJ, ?_⟩
  generalize 2 ^ kn (I 125) 52 - 1 = A at *
  cases hP : plV c (I 125) so md g with
  | none =>
    rw [hP] at s
    replace s : P_m (d + 49) 229 [.ref 123, .int (pnI g), .int (nI (bN so)), .int (nI (bN (!md)))] (p_mk Ls I L R X) (fun v h' => v = some (.int (nI 1000000)) ∧ h' = p_mk Ls J L R X) := s
    show P_m _ _ _ _ (fun v h' => v = some (.int (mI 1)) ∧ _)
    generalize pnI g = G at *
    simp -implicitDefEqProofs (disch := first | omega | decide) only [P_m, ↓P_run_eq _ 230 _ (p_bk 230 0), bk_230_0, pb_230_0, ↓P_run_eq _ 230 _ (p_bk 230 2), bk_230_2, pb_230_2, pw_iload_n1, pw_iconst, il_m1, pw_aload_n0, pw_aloadN_n0, pw_iv1, pw_is3, pw_zeq, pw_iload_n2, il_0, il_1, pw_iload_n3, pw_zne, pw_nop, pw_iload_4, pw_iv4, pw_istore, ps_5, pe_5, po_i5, po_r5, po_n5, po_u5, pw_iload_5, pw_ldc, cn_6, pw_cne, pw_ret0, kd_123, rf_123_1, rf_123_2, rf_123_3, rf_123_4, rf_123_5, rf_123_7, rf_123_11, rf_123_12, rf_123_15, rf_123_16, rf_123_17, rf_123_26, rf_123_29, rf_123_30, rf_123_32, rf_123_34, rf_123_35, rf_123_45, n_0, n_1, nn_lt, nn_nlt, nn_le, nn_nle, nn_ne, nn_sub, nn_mul, nI_add, nn_neg, nm_eq, mn_eq, mm_eq, mn_lt, nm_lt, mn_le, nm_le, nn_sub0, nn_of, implies_true, nn_c, nn_in, nn_div, nat_rem, Nat.reduceMul, Nat.reduceSub, Nat.reduceDiv, Nat.reduceMod, pf_at, pf_ne, mk_s, mk_1, Classical.not_not, b2i_T, b2i_F, false_imp_iff, true_imp_iff, false_and, and_false, p_sw, Int.reduceAdd, Int.zero_add, Option.some.injEq, Value.int.injEq, Value.long.injEq, Value.ref.injEq, exists_eq_left', mk_I, mk_L, mk_wI, mk_wL, rf_s, rf_n, true_and, and_true, and_self, or_true, true_or, or_false, false_or, not_true_eq_false, not_false_eq_true, Option.toList_some, Option.toList_none, List.cons_append, List.nil_append, List.map_nil, List.map_cons, List.sum_nil, List.sum_cons, cat_i, cat_l, cat_r, cat_n, Nat.reduceLeDiff, Nat.reduceAdd, Nat.reduceEqDiff, Nat.zero_le, p_ent, p_u_ne, p_u_at, reduceIte, if_true, if_false, n_1000000, P_ce s1, P_ce s2, P_ce s4, P_ce s5, P_ce s]
  | some b =>
    obtain ⟨v1, v2⟩ := vl b hP
    rw [hP] at s f33
    replace s : P_m (d + 49) 229 [.ref 123, .int (pnI g), .int (nI (bN so)), .int (nI (bN (!md)))] (p_mk Ls I L R X) (fun v h' => v = some (.int (nI b.1)) ∧ h' = p_mk Ls J L R X) := s
    replace f33 : J 123 33 = nI b.2 := f33
    generalize pnI g = G at *
    cases fi with
    | false =>
      show P_m _ _ _ _ (fun v h' => v = some (.int (nI b.1)) ∧ _)
      rw [bN_f] at s5
      simp -implicitDefEqProofs (disch := first | omega | decide) only [P_m, ↓P_run_eq _ 230 _ (p_bk 230 0), bk_230_0, pb_230_0, ↓P_run_eq _ 230 _ (p_bk 230 2), bk_230_2, pb_230_2, ↓P_run_eq _ 230 _ (p_bk 230 3), bk_230_3, pb_230_3, ↓P_run_eq _ 230 _ (p_bk 230 5), bk_230_5, pb_230_5, pw_iload_n1, pw_iconst, il_m1, pw_aload_n0, pw_aloadN_n0, pw_iv1, pw_is3, pw_zeq, pw_iload_n2, il_0, il_1, pw_iload_n3, pw_zne, pw_nop, pw_iload_4, pw_iv4, pw_istore, ps_5, pe_5, po_i5, po_r5, po_n5, po_u5, pw_iload_5, pw_ldc, cn_6, pw_cne, pw_ret0, pw_goto, kd_123, rf_123_1, rf_123_2, rf_123_3, rf_123_4, rf_123_5, rf_123_7, rf_123_11, rf_123_12, rf_123_15, rf_123_16, rf_123_17, rf_123_26, rf_123_29, rf_123_30, rf_123_32, rf_123_34, rf_123_35, rf_123_45, n_0, n_1, nn_lt, nn_nlt, nn_le, nn_nle, nn_ne, nn_sub, nn_mul, nI_add, nn_neg, nm_eq, mn_eq, mm_eq, mn_lt, nm_lt, mn_le, nm_le, nn_sub0, nn_of, implies_true, nn_c, nn_in, nn_div, nat_rem, Nat.reduceMul, Nat.reduceSub, Nat.reduceDiv, Nat.reduceMod, pf_at, pf_ne, mk_s, mk_1, Classical.not_not, b2i_T, b2i_F, false_imp_iff, true_imp_iff, false_and, and_false, p_sw, Int.reduceAdd, Int.zero_add, Option.some.injEq, Value.int.injEq, Value.long.injEq, Value.ref.injEq, exists_eq_left', mk_I, mk_L, mk_wI, mk_wL, rf_s, rf_n, true_and, and_true, and_self, or_true, true_or, or_false, false_or, not_true_eq_false, not_false_eq_true, Option.toList_some, Option.toList_none, List.cons_append, List.nil_append, List.map_nil, List.map_cons, List.sum_nil, List.sum_cons, cat_i, cat_l, cat_r, cat_n, Nat.reduceLeDiff, Nat.reduceAdd, Nat.reduceEqDiff, Nat.zero_le, p_ent, p_u_ne, p_u_at, reduceIte, if_true, if_false, n_1000000, bN_f, P_ce s1, P_ce s2, P_ce s4, P_ce s5, P_ce s]
    | true =>
      show P_m _ _ _ _ (fun v h' => v = some (.int (nI b.2)) ∧ _)
      rw [bN_t] at s5
      simp -implicitDefEqProofs (disch := first | omega | decide) only [P_m, ↓P_run_eq _ 230 _ (p_bk 230 0), bk_230_0, pb_230_0, ↓P_run_eq _ 230 _ (p_bk 230 2), bk_230_2, pb_230_2, ↓P_run_eq _ 230 _ (p_bk 230 3), bk_230_3, pb_230_3, ↓P_run_eq _ 230 _ (p_bk 230 4), bk_230_4, pb_230_4, ↓P_run_eq _ 230 _ (p_bk 230 5), bk_230_5, pb_230_5, pw_iload_n1, pw_iconst, il_m1, pw_aload_n0, pw_aloadN_n0, pw_iv1, pw_is3, pw_zeq, pw_iload_n2, il_0, il_1, pw_iload_n3, pw_zne, pw_nop, pw_iload_4, pw_iv4, pw_istore, ps_5, pe_5, po_i5, po_r5, po_n5, po_u5, pw_iload_5, pw_ldc, cn_6, pw_cne, pw_ret0, pw_goto, pw_getI, kd_123, rf_123_1, rf_123_2, rf_123_3, rf_123_4, rf_123_5, rf_123_7, rf_123_11, rf_123_12, rf_123_15, rf_123_16, rf_123_17, rf_123_26, rf_123_29, rf_123_30, rf_123_32, rf_123_34, rf_123_35, rf_123_45, n_0, n_1, nn_lt, nn_nlt, nn_le, nn_nle, nn_ne, nn_sub, nn_mul, nI_add, nn_neg, nm_eq, mn_eq, mm_eq, mn_lt, nm_lt, mn_le, nm_le, nn_sub0, nn_of, implies_true, nn_c, nn_in, nn_div, nat_rem, Nat.reduceMul, Nat.reduceSub, Nat.reduceDiv, Nat.reduceMod, pf_at, pf_ne, mk_s, mk_1, Classical.not_not, b2i_T, b2i_F, false_imp_iff, true_imp_iff, false_and, and_false, p_sw, Int.reduceAdd, Int.zero_add, Option.some.injEq, Value.int.injEq, Value.long.injEq, Value.ref.injEq, exists_eq_left', mk_I, mk_L, mk_wI, mk_wL, rf_s, rf_n, true_and, and_true, and_self, or_true, true_or, or_false, false_or, not_true_eq_false, not_false_eq_true, Option.toList_some, Option.toList_none, List.cons_append, List.nil_append, List.map_nil, List.map_cons, List.sum_nil, List.sum_cons, cat_i, cat_l, cat_r, cat_n, Nat.reduceLeDiff, Nat.reduceAdd, Nat.reduceEqDiff, Nat.zero_le, p_ent, p_u_ne, p_u_at, reduceIte, if_true, if_false, n_1000000, bN_t, f33, P_ce s1, P_ce s2, P_ce s4, P_ce s5, P_ce s]
theorem pl_122 {so md fi : Bool} {g : Option Nat} (hx : Cx Ls I R X c) (hg : ∀ k, g = some k → k < 256) (hi : inG (kn (I 125) 52) (pnI g)) : ∃ J, frQ I J ∧ P_m (d + 6) 122 [.ref 32, .int (pnI g), .int (nI (bN so)), .int (nI (bN fi)), .int (nI (bN md))] (p_mk Ls I L R X) (fun v h' => v = some (.int (pnI (rsV fi (plV c (I 125) so md g)))) ∧ h' = p_mk Ls J L (layR R (fRef R 71 (I 125))) X) := by
  have hV := hx.2.2.1
  obtain ⟨n1, n2⟩ := kn_52 hV
  obtain ⟨⟨r1, -⟩, -⟩ := hutR_at hx.1
  obtain ⟨J, fJ, fb, s⟩ := pl_36 (d := d) (Ls := Ls) (I := I) (L := L) (R := R) (X := X) (c := c) (K := I 125) (r := fRef R 71 (I 125)) (so := so) (md := md) (g := g) hV hx.1 hx.2.2.2.2 (lawOf_c hx.2.2.2.1) hg
  have s1 := sp_11x (d := d + 5) (Ls := Ls) (I := I) (L := L) (R := R) (X := X) n2 (r1.trans n1)
  have s2 := fc_n (d := d + 4) (L := L) hx
  have rr : ∀ (r : Option Nat) (x y z : Int32), p_cats [.ref 48, .ref 71, va_rf r, .int x, .int y, .int z] ≤ p_mx 36 := fun r x y z => by cases r <;> exact Nat.le_of_ble_eq_true rfl
  have g1 : ¬ pnI g < mI 1 := Int32.not_lt.mpr hi.1
  have g2 : ¬ nI (2 ^ kn (I 125) 52 - 1) < pnI g := Int32.not_lt.mpr hi.2
  have g3 : pnI g ≤ nI (2 ^ kn (I 125) 52 - 1) := hi.2
  have b1 : ∀ b : Bool, ¬ nI (bN b) < nI 0 := fun b => by cases b <;> decide
  have b2 : ∀ b : Bool, ¬ nI 1 < nI (bN b) := fun b => by cases b <;> decide
  have b3 : ∀ b : Bool, nI (bN b) ≤ nI 1 := fun b => by cases b <;> decide
  have vl := fun b hb => plV_le (c := c) (so := so) (md := md) (b := b) hV hg hb
  refine ⟨J, fJ, ?_⟩
  generalize layR R (fRef R 71 (I 125)) = RR at *
  generalize fRef R 71 (I 125) = r at *
  generalize 2 ^ kn (I 125) 52 - 1 = A at *
  cases hP : plV c (I 125) so md g with
  | none =>
    rw [hP] at s
    replace s : P_m (d + 5) 36 [.ref 48, .ref 71, va_rf r, .int (pnI g), .int (nI (bN so)), .int (nI (bN md))] (p_mk Ls I L R X) (fun v h' => v = some (.int (nI 0)) ∧ h' = p_mk Ls J L RR X) := s
    show P_m _ _ _ _ (fun v h' => v = some (.int (mI 1)) ∧ _)
    generalize pnI g = G at *
    simp -implicitDefEqProofs (disch := first | omega | decide) only [P_m, ↓P_run_eq _ 122 _ (p_bk 122 0), bk_122_0, pb_122_0, ↓P_run_eq _ 122 _ (p_bk 122 2), bk_122_2, pb_122_2, pw_iload_n1, pw_iconst, il_m1, pw_clt, pw_aload_n0, pw_aloadN_n0, pw_getR, pw_iv1, pw_cgt, pw_iload_n2, pw_zlt, il_1, pw_iload_n3, pw_cle, pw_nop, pw_iload_4, pw_iv6, pw_zne, pw_ret0, kd_32, rf_32_0, rf_32_1, rf_32_2, rf_32_3, rf_32_4, rf_32_5, rf_32_6, rf_32_7, rf_32_8, rf_32_9, rf_32_11, rf_32_12, rf_32_13, kd_48, rf_48_0, rf_48_6, rf_48_7, rf_48_8, rf_48_9, rf_48_10, rf_48_12, rf_48_13, rf_48_14, rf_48_15, rf_48_1, rf_48_2, kd_71, rf_71_1, rf_71_3, rf_71_4, rf_71_5, rf_71_6, rf_71_11, rf_71_12, rf_71_14, n_0, n_1, nn_lt, nn_nlt, nn_le, nn_nle, nn_ne, nn_sub, nn_mul, nI_add, nn_neg, nm_eq, mn_eq, mm_eq, mn_lt, nm_lt, mn_le, nm_le, nn_sub0, nn_of, implies_true, nn_c, nn_in, nn_div, nat_rem, Nat.reduceMul, Nat.reduceSub, Nat.reduceDiv, Nat.reduceMod, pf_at, pf_ne, mk_s, mk_1, Classical.not_not, b2i_T, b2i_F, false_imp_iff, true_imp_iff, false_and, and_false, p_sw, Int.reduceAdd, Int.zero_add, Option.some.injEq, Value.int.injEq, Value.long.injEq, Value.ref.injEq, exists_eq_left', mk_I, mk_L, mk_wI, mk_wL, rf_s, rf_n, true_and, and_true, and_self, or_true, true_or, or_false, false_or, not_true_eq_false, not_false_eq_true, Option.toList_some, Option.toList_none, List.cons_append, List.nil_append, List.map_nil, List.map_cons, List.sum_nil, List.sum_cons, cat_i, cat_l, cat_r, cat_n, Nat.reduceLeDiff, Nat.reduceAdd, Nat.reduceEqDiff, Nat.zero_le, p_ent, p_u_ne, p_u_at, reduceIte, if_true, if_false, va_rf_c, g1, g2, g3, b1, b2, b3, P_ce s1, P_ce s2, P_ce s (rr _ _ _ _)]
  | some b =>
    obtain ⟨v1, v2⟩ := vl b hP
    obtain ⟨f3, f4⟩ := fb b hP
    rw [hP] at s
    replace s : P_m (d + 5) 36 [.ref 48, .ref 71, va_rf r, .int (pnI g), .int (nI (bN so)), .int (nI (bN md))] (p_mk Ls I L R X) (fun v h' => v = some (.int (nI 1)) ∧ h' = p_mk Ls J L RR X) := s
    generalize pnI g = G at *
    cases fi with
    | false =>
      show P_m _ _ _ _ (fun v h' => v = some (.int (nI b.1)) ∧ _)
      have b1 := b1 so
      have b2 := b2 so
      have b3 := b3 so
      simp -implicitDefEqProofs (disch := first | omega | decide) only [P_m, ↓P_run_eq _ 122 _ (p_bk 122 0), bk_122_0, pb_122_0, ↓P_run_eq _ 122 _ (p_bk 122 2), bk_122_2, pb_122_2, ↓P_run_eq _ 122 _ (p_bk 122 3), bk_122_3, pb_122_3, ↓P_run_eq _ 122 _ (p_bk 122 5), bk_122_5, pb_122_5, pw_iload_n1, pw_iconst, il_m1, pw_clt, pw_aload_n0, pw_aloadN_n0, pw_getR, pw_iv1, pw_cgt, pw_iload_n2, pw_zlt, il_1, pw_iload_n3, pw_cle, pw_nop, pw_iload_4, pw_iv6, pw_zne, pw_ret0, pw_getI, pw_goto, kd_32, rf_32_0, rf_32_1, rf_32_2, rf_32_3, rf_32_4, rf_32_5, rf_32_6, rf_32_7, rf_32_8, rf_32_9, rf_32_11, rf_32_12, rf_32_13, kd_48, rf_48_0, rf_48_6, rf_48_7, rf_48_8, rf_48_9, rf_48_10, rf_48_12, rf_48_13, rf_48_14, rf_48_15, rf_48_1, rf_48_2, kd_71, rf_71_1, rf_71_3, rf_71_4, rf_71_5, rf_71_6, rf_71_11, rf_71_12, rf_71_14, n_0, n_1, nn_lt, nn_nlt, nn_le, nn_nle, nn_ne, nn_sub, nn_mul, nI_add, nn_neg, nm_eq, mn_eq, mm_eq, mn_lt, nm_lt, mn_le, nm_le, nn_sub0, nn_of, implies_true, nn_c, nn_in, nn_div, nat_rem, Nat.reduceMul, Nat.reduceSub, Nat.reduceDiv, Nat.reduceMod, pf_at, pf_ne, mk_s, mk_1, Classical.not_not, b2i_T, b2i_F, false_imp_iff, true_imp_iff, false_and, and_false, p_sw, Int.reduceAdd, Int.zero_add, Option.some.injEq, Value.int.injEq, Value.long.injEq, Value.ref.injEq, exists_eq_left', mk_I, mk_L, mk_wI, mk_wL, rf_s, rf_n, true_and, and_true, and_self, or_true, true_or, or_false, false_or, not_true_eq_false, not_false_eq_true, Option.toList_some, Option.toList_none, List.cons_append, List.nil_append, List.map_nil, List.map_cons, List.sum_nil, List.sum_cons, cat_i, cat_l, cat_r, cat_n, Nat.reduceLeDiff, Nat.reduceAdd, Nat.reduceEqDiff, Nat.zero_le, p_ent, p_u_ne, p_u_at, reduceIte, if_true, if_false, va_rf_c, bN_f, f3, g1, g2, g3, b1, b2, b3, P_ce s1, P_ce s2, P_ce s (rr _ _ _ _)]
    | true =>
      show P_m _ _ _ _ (fun v h' => v = some (.int (nI b.2)) ∧ _)
      have b1 := b1 so
      have b2 := b2 so
      have b3 := b3 so
      simp -implicitDefEqProofs (disch := first | omega | decide) only [P_m, ↓P_run_eq _ 122 _ (p_bk 122 0), bk_122_0, pb_122_0, ↓P_run_eq _ 122 _ (p_bk 122 2), bk_122_2, pb_122_2, ↓P_run_eq _ 122 _ (p_bk 122 3), bk_122_3, pb_122_3, ↓P_run_eq _ 122 _ (p_bk 122 4), bk_122_4, pb_122_4, ↓P_run_eq _ 122 _ (p_bk 122 5), bk_122_5, pb_122_5, pw_iload_n1, pw_iconst, il_m1, pw_clt, pw_aload_n0, pw_aloadN_n0, pw_getR, pw_iv1, pw_cgt, pw_iload_n2, pw_zlt, il_1, pw_iload_n3, pw_cle, pw_nop, pw_iload_4, pw_iv6, pw_zne, pw_ret0, pw_getI, pw_goto, kd_32, rf_32_0, rf_32_1, rf_32_2, rf_32_3, rf_32_4, rf_32_5, rf_32_6, rf_32_7, rf_32_8, rf_32_9, rf_32_11, rf_32_12, rf_32_13, kd_48, rf_48_0, rf_48_6, rf_48_7, rf_48_8, rf_48_9, rf_48_10, rf_48_12, rf_48_13, rf_48_14, rf_48_15, rf_48_1, rf_48_2, kd_71, rf_71_1, rf_71_3, rf_71_4, rf_71_5, rf_71_6, rf_71_11, rf_71_12, rf_71_14, n_0, n_1, nn_lt, nn_nlt, nn_le, nn_nle, nn_ne, nn_sub, nn_mul, nI_add, nn_neg, nm_eq, mn_eq, mm_eq, mn_lt, nm_lt, mn_le, nm_le, nn_sub0, nn_of, implies_true, nn_c, nn_in, nn_div, nat_rem, Nat.reduceMul, Nat.reduceSub, Nat.reduceDiv, Nat.reduceMod, pf_at, pf_ne, mk_s, mk_1, Classical.not_not, b2i_T, b2i_F, false_imp_iff, true_imp_iff, false_and, and_false, p_sw, Int.reduceAdd, Int.zero_add, Option.some.injEq, Value.int.injEq, Value.long.injEq, Value.ref.injEq, exists_eq_left', mk_I, mk_L, mk_wI, mk_wL, rf_s, rf_n, true_and, and_true, and_self, or_true, true_or, or_false, false_or, not_true_eq_false, not_false_eq_true, Option.toList_some, Option.toList_none, List.cons_append, List.nil_append, List.map_nil, List.map_cons, List.sum_nil, List.sum_cons, cat_i, cat_l, cat_r, cat_n, Nat.reduceLeDiff, Nat.reduceAdd, Nat.reduceEqDiff, Nat.zero_le, p_ent, p_u_ne, p_u_at, reduceIte, if_true, if_false, va_rf_c, bN_t, f4, g1, g2, g3, b1, b2, b3, P_ce s1, P_ce s2, P_ce s (rr _ _ _ _)]
end WM
