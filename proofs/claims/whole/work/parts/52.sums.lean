section SM2
variable {d Ls i : Nat} {I : Nat → Nat → Int32} {L : Nat → Nat → Int64} {R : Nat → Nat → Option Nat} {X : List pKd} {W : Nat → Int32} {o : Bool}
theorem sp_190w {k : Nat} {lv b : Bool} (hE : evH false I i W) (hk : k ≤ 1999) (h8 : 8 ≤ kC (I 125) i k) (h16 : kC (I 125) i k ≤ 16) : P_m (d + 3) 190 [.ref 123, .int (bI lv)] (p_mk Ls (EV I (400 * i + k) b) L R X) (fun v h' => v = some (.long (lI (rv lv b (some (W (wdi (kC (I 125) i k))).toInt)))) ∧ h' = p_mk Ls (EV I (400 * i + (k + 1)) b) L R X) := by
  have e9 : 400 * i + k + 1 = 400 * i + (k + 1) := by omega
  have h2 := hE.2.1
  have s1 := sp_186f (d := d + 1) (Ls := Ls) (L := L) (R := R) (X := X) (c := 191) (k := k) (b := b) hE (by omega) (by omega) (by omega)
  have s2 := sp_185 (d := d + 2) (Ls := Ls) (L := L) (R := R) (X := X) (g := 400 * i + k) (b := b) hE (k := k) (by omega)
  have eo := hE.2.2.2.1
  have hR := hE.2.2.2.2.1
  unfold envR at hR
  rw [if_neg (by decide)] at hR
  have ew := hR _ h8 h16
  generalize kC (I 125) i k = c at *
  have n50 : ¬ c = 50 := by omega
  cases lv <;> cases b <;> simp only [rv_f, rv_b, rv_t, Option.getD_some] <;> (simp -implicitDefEqProofs (disch := first | omega | decide) only [P_m, ↓P_run_eq _ 190 _ (p_bk 190 0), bk_190_0, pb_190_0, ↓P_run_eq _ 190 _ (p_bk 190 1), bk_190_1, pb_190_1, ↓P_run_eq _ 190 _ (p_bk 190 2), bk_190_2, pb_190_2, ↓P_run_eq _ 190 _ (p_bk 190 3), bk_190_3, pb_190_3, ↓P_run_eq _ 190 _ (p_bk 190 4), bk_190_4, pb_190_4, ↓P_run_eq _ 190 _ (p_bk 190 5), bk_190_5, pb_190_5, ↓P_run_eq _ 190 _ (p_bk 190 6), bk_190_6, pb_190_6, ↓P_run_eq _ 190 _ (p_bk 190 7), bk_190_7, pb_190_7, pw_aload_n0, pw_aloadN_n0, pw_bipush, bl_91, pw_is1, pw_iv2, pw_zeq, pw_iload_n1, pw_lstore_n2, ps_2, pe_2, po_i2, po_r2, po_n2, po_u2, ps_3, pe_3, po_i3, po_r3, po_n3, po_u3, pw_dupi, pw_dupr, pw_getI, pw_iconst, il_1, pw_iadd, pw_putI, pw_lload_n2, pw_lret, pw_istore_n2, il_0, pw_istore_n3, pw_iload_n2, bl_12, pw_cne, pw_getR, pw_sipush, sl_2864, pw_iald, pw_nop, pw_lconst, ll_0, bl_50, pw_isub, pw_i2l, pw_iload_n3, pw_iv3, pw_goto, bl_8, kd_123, rf_123_1, rf_123_2, rf_123_3, rf_123_4, rf_123_5, rf_123_7, rf_123_11, rf_123_12, rf_123_15, rf_123_16, rf_123_17, rf_123_26, rf_123_29, rf_123_30, rf_123_32, rf_123_34, rf_123_35, rf_123_45, kd_125, kd_135, n_0, n_1, n_8, n_12, n_50, n_91, n_2864, nn_lt, nn_nlt, nn_le, nn_nle, nn_ne, nn_sub, nn_mul, nI_add, nn_neg, nm_eq, mn_eq, mm_eq, mn_lt, nm_lt, mn_le, nm_le, nn_sub0, nn_of, implies_true, nn_c, nn_in, nn_div, nat_rem, Nat.reduceMul, Nat.reduceSub, Nat.reduceDiv, Nat.reduceMod, pf_at, pf_ne, mk_s, mk_1, Classical.not_not, b2i_T, b2i_F, false_imp_iff, true_imp_iff, false_and, and_false, p_sw, Int.reduceAdd, Int.zero_add, Option.some.injEq, Value.int.injEq, Value.long.injEq, Value.ref.injEq, exists_eq_left', mk_I, mk_L, mk_wI, mk_wL, rf_s, rf_n, true_and, and_true, and_self, or_true, true_or, or_false, false_or, not_true_eq_false, not_false_eq_true, Option.toList_some, Option.toList_none, List.cons_append, List.nil_append, List.map_nil, List.map_cons, List.sum_nil, List.sum_cons, cat_i, cat_l, cat_r, cat_n, Nat.reduceLeDiff, Nat.reduceAdd, Nat.reduceEqDiff, Nat.zero_le, p_ent, p_u_ne, p_u_at, reduceIte, if_true, if_false, ev_go, ev_ne, ev_f, ev_br, eo, e9, ew, lI_i, bI_t, bI_f, l_0, ev_wg, P_ce (sp_167 (c := 91)), P_ce s1, P_ce s2])
theorem ce_190w {k : Nat} {lv b : Bool} (hE : evH false I i W) (hk : k ≤ 1999) {yy : Nat} {rr : List pI} {kc ks : Nat} {lls st : List Value} {Q : Option Value → pHp → Prop} (h8 : 8 ≤ kC (I 125) i k) (h16 : kC (I 125) i k ≤ 16) : P_call (d + 3) yy 190 [.ref 123, .int (bI lv)] rr kc ks lls st (p_mk Ls (EV I (400 * i + k) b) L R X) Q = P_w ((d + 3) + 1) yy Q rr kc ks lls ((.long (lI (rv lv b (some (W (wdi (kC (I 125) i k))).toInt)))) :: st) (p_mk Ls (EV I (400 * i + (k + 1)) b) L R X) := P_ce (sp_190w hE hk h8 h16)
theorem sp_190o {k : Nat} {lv b : Bool} (hE : evH true I i W) (hk : k ≤ 1999) (h8 : 13 ≤ kC (I 125) i k) (h16 : kC (I 125) i k ≤ 18) : P_m (d + 4) 190 [.ref 123, .int (bI lv)] (p_mk Ls (EV I (400 * i + k) b) L R X) (fun v h' => v = some (.long (lI (rv lv b (some (W (wdi (kC (I 125) i k))).toInt)))) ∧ h' = p_mk Ls (EV I (400 * i + (k + 1)) b) L R X) := by
  have e9 : 400 * i + k + 1 = 400 * i + (k + 1) := by omega
  have h2 := hE.2.1
  have s1 := sp_186f (d := d + 2) (Ls := Ls) (L := L) (R := R) (X := X) (c := 191) (k := k) (b := b) hE (by omega) (by omega) (by omega)
  have s2 := sp_185 (d := d + 3) (Ls := Ls) (L := L) (R := R) (X := X) (g := 400 * i + k) (b := b) hE (k := k) (by omega)
  have eo := hE.2.2.2.1
  have s3 := sp_191w (d := d) (Ls := Ls) (L := L) (R := R) (X := X) (g := 400 * i + (k + 1)) (q := nI 0) (b := b) hE h8 h16
  generalize kC (I 125) i k = c at *
  have n50 : ¬ c = 50 := by omega
  have n12 : ¬ c = 12 := by omega
  cases lv <;> cases b <;> simp only [rv_f, rv_b, rv_t, Option.getD_some] <;> (simp -implicitDefEqProofs (disch := first | omega | decide) only [P_m, ↓P_run_eq _ 190 _ (p_bk 190 0), bk_190_0, pb_190_0, ↓P_run_eq _ 190 _ (p_bk 190 1), bk_190_1, pb_190_1, ↓P_run_eq _ 190 _ (p_bk 190 2), bk_190_2, pb_190_2, ↓P_run_eq _ 190 _ (p_bk 190 3), bk_190_3, pb_190_3, ↓P_run_eq _ 190 _ (p_bk 190 4), bk_190_4, pb_190_4, ↓P_run_eq _ 190 _ (p_bk 190 5), bk_190_5, pb_190_5, ↓P_run_eq _ 190 _ (p_bk 190 6), bk_190_6, pb_190_6, ↓P_run_eq _ 190 _ (p_bk 190 7), bk_190_7, pb_190_7, pw_aload_n0, pw_aloadN_n0, pw_bipush, bl_91, pw_is1, pw_iv2, pw_zeq, pw_iload_n1, pw_lstore_n2, ps_2, pe_2, po_i2, po_r2, po_n2, po_u2, ps_3, pe_3, po_i3, po_r3, po_n3, po_u3, pw_dupi, pw_dupr, pw_getI, pw_iconst, il_1, pw_iadd, pw_putI, pw_lload_n2, pw_lret, pw_istore_n2, il_0, pw_istore_n3, pw_iload_n2, bl_12, pw_cne, pw_getR, pw_sipush, sl_2864, pw_iald, pw_nop, pw_lconst, ll_0, bl_50, pw_isub, pw_i2l, pw_iload_n3, pw_iv3, pw_goto, bl_8, kd_123, rf_123_1, rf_123_2, rf_123_3, rf_123_4, rf_123_5, rf_123_7, rf_123_11, rf_123_12, rf_123_15, rf_123_16, rf_123_17, rf_123_26, rf_123_29, rf_123_30, rf_123_32, rf_123_34, rf_123_35, rf_123_45, kd_125, kd_135, n_0, n_1, n_8, n_12, n_50, n_91, n_2864, nn_lt, nn_nlt, nn_le, nn_nle, nn_ne, nn_sub, nn_mul, nI_add, nn_neg, nm_eq, mn_eq, mm_eq, mn_lt, nm_lt, mn_le, nm_le, nn_sub0, nn_of, implies_true, nn_c, nn_in, nn_div, nat_rem, Nat.reduceMul, Nat.reduceSub, Nat.reduceDiv, Nat.reduceMod, pf_at, pf_ne, mk_s, mk_1, Classical.not_not, b2i_T, b2i_F, false_imp_iff, true_imp_iff, false_and, and_false, p_sw, Int.reduceAdd, Int.zero_add, Option.some.injEq, Value.int.injEq, Value.long.injEq, Value.ref.injEq, exists_eq_left', mk_I, mk_L, mk_wI, mk_wL, rf_s, rf_n, true_and, and_true, and_self, or_true, true_or, or_false, false_or, not_true_eq_false, not_false_eq_true, Option.toList_some, Option.toList_none, List.cons_append, List.nil_append, List.map_nil, List.map_cons, List.sum_nil, List.sum_cons, cat_i, cat_l, cat_r, cat_n, Nat.reduceLeDiff, Nat.reduceAdd, Nat.reduceEqDiff, Nat.zero_le, p_ent, p_u_ne, p_u_at, reduceIte, if_true, if_false, ev_go, ev_ne, ev_f, ev_br, eo, e9, lI_i, bI_t, bI_f, l_0, ev_wg, P_ce (sp_167 (c := 91)), P_ce s1, P_ce s2, P_ce s3])
theorem ce_190o {k : Nat} {lv b : Bool} (hE : evH true I i W) (hk : k ≤ 1999) {yy : Nat} {rr : List pI} {kc ks : Nat} {lls st : List Value} {Q : Option Value → pHp → Prop} (h8 : 13 ≤ kC (I 125) i k) (h16 : kC (I 125) i k ≤ 18) : P_call (d + 4) yy 190 [.ref 123, .int (bI lv)] rr kc ks lls st (p_mk Ls (EV I (400 * i + k) b) L R X) Q = P_w ((d + 4) + 1) yy Q rr kc ks lls ((.long (lI (rv lv b (some (W (wdi (kC (I 125) i k))).toInt)))) :: st) (p_mk Ls (EV I (400 * i + (k + 1)) b) L R X) := P_ce (sp_190o hE hk h8 h16)
theorem sp_190q {k : Nat} {lv b : Bool} (hE : evH true I i W) (hk : k ≤ 1998) (h12 : kC (I 125) i k = 12) (h50 : kC (I 125) i (k + 1) = 50) (h7 : kV (I 125) i (k + 1) ≤ 7) : P_m (d + 4) 190 [.ref 123, .int (bI lv)] (p_mk Ls (EV I (400 * i + k) b) L R X) (fun v h' => v = some (.long (lI (rv lv b (some (W (11 + kV (I 125) i (k + 1))).toInt)))) ∧ h' = p_mk Ls (EV I (400 * i + (k + 2)) b) L R X) := by
  have e9 : 400 * i + k + 1 = 400 * i + (k + 1) := by omega
  have e8 : 400 * i + (k + 1) + 1 = 400 * i + (k + 2) := by omega
  have h2 := hE.2.1
  have s1 := sp_186f (d := d + 2) (Ls := Ls) (L := L) (R := R) (X := X) (c := 191) (k := k) (b := b) hE (by omega) (by omega) (by omega)
  have s2 := sp_185 (d := d + 3) (Ls := Ls) (L := L) (R := R) (X := X) (g := 400 * i + k) (b := b) hE (k := k) (by omega)
  rw [h12] at s2
  have eo := hE.2.2.2.1
  have s3 := sp_191q (d := d) (Ls := Ls) (L := L) (R := R) (X := X) (g := 400 * i + (k + 2)) (b := b) hE h7
  obtain ⟨T, hT, e1, hk'⟩ := hE.1
  have hkT : k + 1 < T := by
    rcases Nat.lt_or_ge (k + 1) T with h | h
    · exact h
    · rw [kC_0 e1 hT h] at h50; omega
  have ev := (hk' (k + 1) hkT).2.2.1
  rw [show 2864 + 400 * i + (k + 1) = 2864 + (400 * i + (k + 1)) by omega] at ev
  cases lv <;> cases b <;> simp only [rv_f, rv_b, rv_t, Option.getD_some] <;> (simp -implicitDefEqProofs (disch := first | omega | decide) only [P_m, ↓P_run_eq _ 190 _ (p_bk 190 0), bk_190_0, pb_190_0, ↓P_run_eq _ 190 _ (p_bk 190 1), bk_190_1, pb_190_1, ↓P_run_eq _ 190 _ (p_bk 190 2), bk_190_2, pb_190_2, ↓P_run_eq _ 190 _ (p_bk 190 3), bk_190_3, pb_190_3, ↓P_run_eq _ 190 _ (p_bk 190 4), bk_190_4, pb_190_4, ↓P_run_eq _ 190 _ (p_bk 190 5), bk_190_5, pb_190_5, ↓P_run_eq _ 190 _ (p_bk 190 6), bk_190_6, pb_190_6, ↓P_run_eq _ 190 _ (p_bk 190 7), bk_190_7, pb_190_7, pw_aload_n0, pw_aloadN_n0, pw_bipush, bl_91, pw_is1, pw_iv2, pw_zeq, pw_iload_n1, pw_lstore_n2, ps_2, pe_2, po_i2, po_r2, po_n2, po_u2, ps_3, pe_3, po_i3, po_r3, po_n3, po_u3, pw_dupi, pw_dupr, pw_getI, pw_iconst, il_1, pw_iadd, pw_putI, pw_lload_n2, pw_lret, pw_istore_n2, il_0, pw_istore_n3, pw_iload_n2, bl_12, pw_cne, pw_getR, pw_sipush, sl_2864, pw_iald, pw_nop, pw_lconst, ll_0, bl_50, pw_isub, pw_i2l, pw_iload_n3, pw_iv3, pw_goto, bl_8, kd_123, rf_123_1, rf_123_2, rf_123_3, rf_123_4, rf_123_5, rf_123_7, rf_123_11, rf_123_12, rf_123_15, rf_123_16, rf_123_17, rf_123_26, rf_123_29, rf_123_30, rf_123_32, rf_123_34, rf_123_35, rf_123_45, kd_125, kd_135, n_0, n_1, n_8, n_12, n_50, n_91, n_2864, nn_lt, nn_nlt, nn_le, nn_nle, nn_ne, nn_sub, nn_mul, nI_add, nn_neg, nm_eq, mn_eq, mm_eq, mn_lt, nm_lt, mn_le, nm_le, nn_sub0, nn_of, implies_true, nn_c, nn_in, nn_div, nat_rem, Nat.reduceMul, Nat.reduceSub, Nat.reduceDiv, Nat.reduceMod, pf_at, pf_ne, mk_s, mk_1, Classical.not_not, b2i_T, b2i_F, false_imp_iff, true_imp_iff, false_and, and_false, p_sw, Int.reduceAdd, Int.zero_add, Option.some.injEq, Value.int.injEq, Value.long.injEq, Value.ref.injEq, exists_eq_left', mk_I, mk_L, mk_wI, mk_wL, rf_s, rf_n, true_and, and_true, and_self, or_true, true_or, or_false, false_or, not_true_eq_false, not_false_eq_true, Option.toList_some, Option.toList_none, List.cons_append, List.nil_append, List.map_nil, List.map_cons, List.sum_nil, List.sum_cons, cat_i, cat_l, cat_r, cat_n, Nat.reduceLeDiff, Nat.reduceAdd, Nat.reduceEqDiff, Nat.zero_le, p_ent, p_u_ne, p_u_at, reduceIte, if_true, if_false, ev_go, ev_ne, ev_f, ev_br, eo, e9, e8, ev, lI_i, bI_t, bI_f, l_0, ev_wg, P_ce (sp_167 (c := 91)), P_ce s1, P_ce s2, P_ce s3])
theorem ce_190q {k : Nat} {lv b : Bool} (hE : evH true I i W) (hk : k ≤ 1998) {yy : Nat} {rr : List pI} {kc ks : Nat} {lls st : List Value} {Q : Option Value → pHp → Prop} (h12 : kC (I 125) i k = 12) (h50 : kC (I 125) i (k + 1) = 50) (h7 : kV (I 125) i (k + 1) ≤ 7) : P_call (d + 4) yy 190 [.ref 123, .int (bI lv)] rr kc ks lls st (p_mk Ls (EV I (400 * i + k) b) L R X) Q = P_w ((d + 4) + 1) yy Q rr kc ks lls ((.long (lI (rv lv b (some (W (11 + kV (I 125) i (k + 1))).toInt)))) :: st) (p_mk Ls (EV I (400 * i + (k + 2)) b) L R X) := P_ce (sp_190q hE hk h12 h50 h7)
theorem pLf_r {k l : Nat} {lv b : Bool} {r : Nat × Nat × tDS × tCd} (hE : evH o I i W) (h : pLf o (kC (I 125) i) (kV (I 125) i) k l = some (.ok r)) (hk : r.1 ≤ 1000) (h191 : ¬ kC (I 125) i k = 191) : P_m (d + 4) 190 [.ref 123, .int (bI lv)] (p_mk Ls (EV I (400 * i + k) b) L R X) (fun v h' => v = some (.long (lI (rv lv b (r.2.2.1 W)))) ∧ h' = p_mk Ls (EV I (400 * i + r.1) (rb lv b (r.2.2.1 W))) L R X) := by
  unfold pLf at h
  split at h
  · cases h
  split at h
  · cases h
  rename_i h1 h2
  have h1 : isLf o (kC (I 125) i k) (kV (I 125) i k) = true := by
    cases hh : isLf o (kC (I 125) i k) (kV (I 125) i k) with
    | true => rfl
    | false => exact absurd hh h1
  split at h
  · rename_i h3
    cases h
    dsimp only at *
    rw [rb_some]
    exact P_mup (sp_190n (d := d) hE (by omega) h3) (by omega)
  rename_i h3
  split at h
  · rename_i h4
    obtain ⟨rfl, h4⟩ := h4
    split at h
    · rename_i h5
      cases h
      dsimp only at *
      rw [rb_some]
      exact sp_190q hE (by omega) h4 h5.1 h5.2
    · cases h
  · rename_i h4
    cases h
    dsimp only at *
    rw [rb_some]
    unfold isLf at h1
    rw [decide_eq_false h3, Bool.false_and, Bool.false_or] at h1
    cases o with
    | false =>
      simp only [Bool.false_eq_true, if_false, Bool.and_eq_true, decide_eq_true_eq] at h1
      exact P_mup (sp_190w (d := d) hE (by omega) h1.1 h1.2) (by omega)
    | true =>
      simp only [if_true, Bool.and_eq_true, decide_eq_true_eq] at h1
      exact sp_190o hE (by omega) (by have : ¬ kC (I 125) i k = 12 := fun e => h4 ⟨rfl, e⟩; omega) h1.2
end SM2
/-- one operation, live or not -/
theorem rv_op {lv b : Bool} {p : Nat} {f g : tDS} {W : Nat → Int32} (hp : 5 ≤ p) (hp2 : p ≤ 9) (h1 : ∀ v, f W = some v → inB v) (h2 : ∀ v, g W = some v → inB v) :
    ∃ (x y : Int) (b1 b2 : Bool), x = rv lv b (f W) ∧ y = rv lv (rb lv b (f W)) (g W) ∧ b1 = rb lv (rb lv b (f W)) (g W) ∧ inB x ∧ inB y ∧ b2 = rb lv b (opS p f g W) ∧
      (lv = true → b1 = false → ((p < 8 ∨ y ≠ 0) → (b2 = (bd (if p = 5 then x + y else if p = 6 then x - y else if p = 7 then x * y else if p = 8 then x.tdiv y else x.tmod y)).isNone ∧ rv lv b (opS p f g W) = if b2 = true then 0 else (if p = 5 then x + y else if p = 6 then x - y else if p = 7 then x * y else if p = 8 then x.tdiv y else x.tmod y))) ∧ (8 ≤ p → y = 0 → b2 = true ∧ rv lv b (opS p f g W) = 0)) ∧
      (lv = false → x = 0 ∧ y = 0 ∧ b2 = b1 ∧ rv lv b (opS p f g W) = 0) ∧ (b1 = true → b2 = true ∧ rv lv b (opS p f g W) = 0 ∧ y = 0) := by
  refine ⟨_, _, _, _, rfl, rfl, rfl, ?_, ?_, rfl, ?_, ?_, ?_⟩
  · unfold rv
    split
    · cases e : f W with
      | none => unfold inB; rw [Option.getD_none]; omega
      | some v => exact h1 v e
    · unfold inB; omega
  · unfold rv
    split
    · cases e : g W with
      | none => unfold inB; rw [Option.getD_none]; omega
      | some v => exact h2 v e
    · unfold inB; omega
  · rintro rfl hb
    cases e1 : f W with
    | none => rw [e1] at hb; cases b <;> cases hb
    | some u =>
      rw [e1, rb_some] at hb
      cases e2 : g W with
      | none => rw [e2] at hb; cases b <;> cases hb
      | some w =>
        rw [e2, rb_some] at hb
        subst hb
        have eo : opS p f g W = opv p u w := by unfold opS; rw [e1, e2]; rfl
        rw [eo, rb_some, rv_t, rv_t, Option.getD_some, Option.getD_some]
        constructor
        · intro hh
          have e3 : opv p u w = bd (if p = 5 then u + w else if p = 6 then u - w else if p = 7 then u * w else if p = 8 then u.tdiv w else u.tmod w) := by
            unfold opv
            split
            · rfl
            split
            · rfl
            split
            · rfl
            rw [if_neg (by omega)]
            split <;> rfl
          rw [e3]
          generalize (if p = 5 then u + w else if p = 6 then u - w else if p = 7 then u * w else if p = 8 then u.tdiv w else u.tmod w) = z
          unfold rb
          rw [Bool.false_or, Bool.true_and]
          refine ⟨rfl, ?_⟩
          cases e4 : bd z with
          | none => rfl
          | some z' =>
            have := (bd_in e4).2
            subst this
            rfl
        · intro h8 hw
          have e3 : opv p u w = none := by
            unfold opv
            rw [if_neg (by omega), if_neg (by omega), if_neg (by omega), if_pos hw]
          rw [e3]
          exact ⟨rfl, rfl⟩
  · rintro rfl
    simp only [rv_f]
    unfold rb
    simp only [Bool.false_and, Bool.or_false, true_and, and_self]
  · intro hb
    cases b with
    | true =>
      simp only [rv_b]
      unfold rb
      simp only [Bool.true_or, true_and, rv_b]
    | false =>
      cases lv with
      | false => cases e1 : f W <;> cases e2 : g W <;> rw [e1, e2] at hb <;> cases hb
      | true =>
        cases e1 : f W with
        | none =>
          have eo : opS p f g W = none := by unfold opS; rw [e1]; rfl
          rw [eo]
          refine ⟨rfl, rfl, ?_⟩
          exact rv_b
        | some u =>
          cases e2 : g W with
          | none =>
            have eo : opS p f g W = none := by unfold opS; rw [e1, e2]; rfl
            rw [eo]
            exact ⟨rfl, rfl, rfl⟩
          | some w => rw [e1, e2] at hb; cases hb
