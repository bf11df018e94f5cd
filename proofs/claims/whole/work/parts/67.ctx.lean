/-! WHAT STANDS, as numbers -/
def kn (K : Nat → Int32) (j : Nat) : Nat := (K j).toNatClampNeg
theorem kn_e {K : Nat → Int32} {j : Nat} (hV : vld K) (h1 : 1 ≤ j) (h2 : j < 56) (h4 : j ≠ 4) : K j = nI (kn K j) ∧ kn K j ≤ mxk j := by
  obtain ⟨k, hk, e⟩ := (vld_iff.mp hV).1 j h1 h2 h4
  have : mxk j ≤ 65535 := by
    unfold mxk
    repeat' split
    all_goals omega
  unfold kn
  rw [e, nI_clamp (by omega)]
  exact ⟨rfl, hk⟩
theorem kn_52 {K : Nat → Int32} (hV : vld K) : K 52 = nI (kn K 52) ∧ kn K 52 ≤ 8 := kn_e hV (by omega) (by omega) (by omega)
theorem kn_53 {K : Nat → Int32} (hV : vld K) : K 53 = nI (kn K 53) ∧ kn K 53 ≤ 8 := kn_e hV (by omega) (by omega) (by omega)
theorem kn_54 {K : Nat → Int32} (hV : vld K) : K 54 = nI (kn K 54) ∧ kn K 54 ≤ 6 := kn_e hV (by omega) (by omega) (by omega)
theorem kn_0 {K : Nat → Int32} (hV : vld K) : K 0 = nI (kn K 0) ∧ kn K 0 < 2 ^ kn K 52 ∧ kn K 0 < 256 := by
  obtain ⟨s, hs, e⟩ := hV.2.2.2.1
  have h52 := (kn_52 hV).2
  have : 2 ^ kn K 52 ≤ 2 ^ 8 := Nat.pow_le_pow_right (by omega) h52
  replace hs : s < 2 ^ kn K 52 := hs
  have e2 : kn K 0 = s := by unfold kn; rw [e, nI_clamp (by omega)]
  rw [e2]
  exact ⟨e, hs, by omega⟩
theorem kn_37 {K : Nat → Int32} (hV : vld K) {q : Nat} (hq : q < 8) : K (37 + q) = nI (kn K (37 + q)) ∧ kn K (37 + q) ≤ 65535 := by
  have := kn_e hV (j := 37 + q) (by omega) (by omega) (by omega)
  rw [mx_37 q hq] at this
  exact this
theorem vld_env {K : Nat → Int32} (hV : vld K) {q : Nat} (hq : q < 8) : envOk K q := by
  obtain ⟨v1, v2, v3⟩ := hV
  obtain ⟨a1, a2, a3, a4, a5, a6⟩ := v2 q hq
  have mono : ∀ {x : Int32} {m m' : Nat}, m ≤ m' → bn x m → bn x m' := fun hm ⟨k, hk, e⟩ => ⟨k, Nat.le_trans hk hm, e⟩
  exact ⟨hq, a2, a3, mono (by omega) a5, v1.2.2.2.2.2.2.2, mono (by omega) v1.2.2.2.2.2.1, v1.2.2.2.2.1, v1.2.2.2.2.2.2.1⟩
/-- years, whether she answers one more, whether it is barred -/
def yv (c : Option (List tCl)) (K : Nat → Int32) (q lf : Nat) : Nat := (agF c (wEnv K q (nI lf))).toNat
def tv (c : Option (List tCl)) (K : Nat → Int32) (q lf : Nat) : Bool := hdF c (wEnv K q (nI lf)) 1
def bv (c : Option (List tCl)) (K : Nat → Int32) (q lf : Nat) : Bool := hdF c (wEnv K q (nI lf)) 2
theorem yv_e {c : Option (List tCl)} {K : Nat → Int32} {q lf : Nat} (h : envOk K q) (hl : lf ≤ 8) : zI (agF c (wEnv K q (nI lf))) = nI (yv c K q lf) ∧ yv c K q lf ≤ 99 := by
  obtain ⟨-, b1, b2⟩ := wEnv_b h hl
  obtain ⟨a1, a2⟩ := agF_in (c := c) b1 b2
  unfold yv
  refine ⟨?_, by omega⟩
  rw [← zI_n (agF c (wEnv K q (nI lf))).toNat, Int.toNat_of_nonneg a1]
def Cx (Ls : Nat) (I : Nat → Nat → Int32) (R : Nat → Nat → Option Nat) (X : List pKd) (c : Option (List tCl)) : Prop := hutR I 71 (I 125) ∧ txR R X 79 ∧ vld (I 125) ∧ lawOf (I 125) c ∧ clw Ls I R X (fRef R 71 (I 125)) c
theorem Inv_cx {Ls : Nat} {I : Nat → Nat → Int32} {R : Nat → Nat → Option Nat} {X : List pKd} (H : Inv I R X) : ∃ c, Cx Ls I R X c := by
  obtain ⟨-, -, -, -, -, -, h7, h8⟩ := H
  obtain ⟨c, c1, c2⟩ := hut_law (Ls := Ls) h7.2 h8.2.2 h8.1.2.2.2.1
  exact ⟨c, h7.1, h7.2.1, h8, c1, c2⟩
theorem Cx_fr {Ls : Nat} {I J : Nat → Nat → Int32} {R : Nat → Nat → Option Nat} {X : List pKd} {c : Option (List tCl)} (h : Cx Ls I R X c) (e1 : ∀ a, 71 ≤ a → a ≤ 78 → J a = I a) (e2 : J 125 = I 125) (e3 : ∀ a, 142 ≤ a → J a = I a) : Cx Ls J R X c := by
  obtain ⟨h1, h2, h3, h4, h5⟩ := h
  unfold Cx
  rw [e2]
  exact ⟨hutR_f h1 (fun b b1 b2 => e1 b b1 (by omega)), h2, h3, h4, clw_fr h5 e3⟩
def frJ (I J : Nat → Nat → Int32) : Prop := ∀ a, ¬ a = 46 → ¬ a = 47 → J a = I a
theorem frJ_rf {I : Nat → Nat → Int32} : frJ I I := fun _ _ _ => rfl
theorem frJ_tr {I J K : Nat → Nat → Int32} (h1 : frJ I J) (h2 : frJ J K) : frJ I K := fun a a1 a2 => (h2 a a1 a2).trans (h1 a a1 a2)
theorem Inv_J {I J : Nat → Nat → Int32} {R : Nat → Nat → Option Nat} {X : List pKd} (H : Inv I R X) (h : frJ I J) : Inv J R X := by
  refine Inv_sc H (fun a ha => ?_) (fun k _ => by rw [h 32 (by omega) (by omega)]) (fun k _ => by rw [h 123 (by omega) (by omega)])
  unfold kcell at ha
  exact h a (by omega) (by omega)
theorem Inv_E {I J : Nat → Nat → Int32} {R : Nat → Nat → Option Nat} {X : List pKd} (H : Inv I R X) (h : frE I J) : Inv J R X := by
  refine Inv_sc H (fun a ha => ?_) (fun k _ => by rw [h.1 32 (by omega) (by omega)]) (fun k hk => h.2 k (by omega) (by omega) (by omega) (by omega))
  unfold kcell at ha
  exact h.1 a (by omega) (by omega)
theorem Cx_J {Ls : Nat} {I J : Nat → Nat → Int32} {R : Nat → Nat → Option Nat} {X : List pKd} {c : Option (List tCl)} (h : Cx Ls I R X c) (e : frJ I J) : Cx Ls J R X c := Cx_fr h (fun a _ _ => e a (by omega) (by omega)) (e 125 (by omega) (by omega)) (fun a _ => e a (by omega) (by omega))
theorem Cx_E {Ls : Nat} {I J : Nat → Nat → Int32} {R : Nat → Nat → Option Nat} {X : List pKd} {c : Option (List tCl)} (h : Cx Ls I R X c) (e : frE I J) : Cx Ls J R X c := Cx_fr h (fun a _ _ => e.1 a (by omega) (by omega)) (e.1 125 (by omega) (by omega)) (fun a _ => e.1 a (by omega) (by omega))
theorem sw_n (w : Int32) (m : Nat) : (∃ k, k ≤ m ∧ w = nI k) ∨ (w.toInt < 0 ∨ (m : Int) < w.toInt) := by
  by_cases h : w.toInt < 0 ∨ (m : Int) < w.toInt
  · exact Or.inr h
  · left
    obtain ⟨k, hk, e⟩ := nI_of (x := w) (by rw [Int32.lt_iff_toInt_lt]; simp only [Int32.reduceToInt]; omega)
    refine ⟨k, ?_, e⟩
    rw [e, nI_toInt hk] at h
    omega
theorem rg_n (w : Int32) {m : Nat} (hm : m < 65536) : (∃ k, k < m ∧ w = nI k) ∨ (¬ (0 ≤ w ∧ w < nI m) ∧ ¬ (0 ≤ w ∧ w ≤ nI m - 1)) := by
  by_cases h : 0 ≤ w ∧ w < nI m
  · obtain ⟨k, hk, e⟩ := nI_of (x := w) (Int32.not_lt.mpr h.1)
    rw [e] at h
    exact Or.inl ⟨k, (nI_ltI hk (by omega)).mp h.2, e⟩
  · exact Or.inr ⟨h, fun h2 => h ((lt_pred hm).mpr h2)⟩
theorem rg_t {k m : Nat} (h : k < m) (hm : m < 65536) : (0 ≤ nI k ∧ nI k < nI m) ∧ (0 ≤ nI k ∧ nI k ≤ nI m - 1) := by
  have : 0 ≤ nI k ∧ nI k < nI m := ⟨nI_pos' (by omega), nI_lt h (by omega)⟩
  exact ⟨this, (lt_pred hm).mp this⟩
section CY
variable {Ls : Nat} {I : Nat → Nat → Int32} {L : Nat → Nat → Int64} {R : Nat → Nat → Option Nat} {X : List pKd} {c : Option (List tCl)}
theorem sp_8 {d : Nat} (n : Int32) : P_m d 8 [.ref 71, .int n] (p_mk Ls I L R X) (fun v h' => v = some (.int (b2i (0 ≤ n ∧ n < I 71 2))) ∧ h' = p_mk Ls I L R X) := by
  simp -implicitDefEqProofs only [P_m, ↓P_run_eq _ 8 _ (p_bk 8 0), bk_8_0, pb_8_0, ↓P_run_eq _ 8 _ (p_bk 8 1), bk_8_1, pb_8_1, ↓P_run_eq _ 8 _ (p_bk 8 2), bk_8_2, pb_8_2, pw_iload_n1, pw_zlt, pw_aload_n0, pw_aloadN_n0, pw_getI, pw_cge, pw_iconst, il_1, pw_goto, il_0, pw_nop, pw_ret1, kd_71, rf_71_1, rf_71_3, rf_71_4, rf_71_5, rf_71_6, rf_71_11, rf_71_12, rf_71_14, Classical.not_not, implies_true, mk_s, mk_1, pf_at, pf_ne, b2i_T, b2i_F, false_imp_iff, true_imp_iff, ne_10, ne_01, ne_m10, ne_0m1, ne_m11, ne_1m1, false_and, and_false, p_sw, Int.reduceAdd, Int.zero_add, Option.some.injEq, Value.int.injEq, Value.long.injEq, Value.ref.injEq, exists_eq_left',  mk_I, mk_L, mk_wI, mk_wL, rf_s, rf_n, true_and, and_true, and_self, or_true, true_or, or_false, false_or, not_true_eq_false, not_false_eq_true, Option.toList_some, Option.toList_none, List.cons_append, List.nil_append, List.map_nil, List.map_cons, List.sum_nil, List.sum_cons, cat_i, cat_l, cat_r, cat_n, Nat.reduceLeDiff, Nat.reduceAdd, Nat.reduceEqDiff, Nat.zero_le, p_ent, Int32.reduceToNatClampNeg, Int32.reduceLT, Int32.reduceLE, vin_l, p_u_ne, p_u_at, reduceIte, if_true, if_false, Int32.reduceToInt, Int.zero_le_ofNat, Int.cast_ofNat_Int, Int.reduceLT, Int.reduceLE, not_false_eq_true]
  repeat' (first | apply And.intro | intro)
  all_goals first | rfl | (symm; apply b2i_f; (simp only [Int32.lt_iff_toInt_lt, Int32.le_iff_toInt_le, ← Int32.toInt_inj, Int32.reduceToInt] at *; omega)) | (symm; apply b2i_t; (simp only [Int32.lt_iff_toInt_lt, Int32.le_iff_toInt_le, ← Int32.toInt_inj, Int32.reduceToInt] at *; omega)) | (exfalso; (simp only [Int32.lt_iff_toInt_lt, Int32.le_iff_toInt_le, ← Int32.toInt_inj, Int32.reduceToInt] at *; omega))
/-- a look at a question of now: the words behind it -/
theorem look_n {D q : Nat} (h : Cx Ls I R X c) (hq : q < 8) (hD : 2 ≤ D) : ∃ J, frJ I J ∧ J 47 = I 47 ∧ w9 (J 46) (wEnv (I 125) q (nI (pc (kn (I 125) 0)))) ∧ P_m D 24 [.ref 45, .ref 71, .int (nI q)] (p_mk Ls I L R X) (fun v h' => v = none ∧ h' = p_mk Ls J L R X) := by
  obtain ⟨D', rfl⟩ : ∃ D', D = D' + 2 := ⟨D - 2, by omega⟩
  obtain ⟨h1, h2, h3, h4, h5⟩ := h
  obtain ⟨k1, k2, k3⟩ := kn_0 h3
  have s := sp_24n (d := D') (Ls := Ls) (L := L) (R := R) (X := X) hq h1 k3 k1
  refine ⟨_, fun a a1 a2 => pf_ne a1, pf_ne (by omega), ?_, s⟩
  rw [pf_at]
  exact lkW_9
theorem yn_c {D q : Nat} (h : Cx Ls I R X c) (hq : q < 8) (hw : w9 (I 46) (wEnv (I 125) q (nI (pc (kn (I 125) 0))))) (hD : 2 ≤ D) : ∃ J, frJ I J ∧ J 46 = I 46 ∧ P_m D 27 [.ref 45, va_rf (fRef R 71 (I 125))] (p_mk Ls I L R X) (fun v h' => v = some (.int (nI (yv c (I 125) q (pc (kn (I 125) 0))))) ∧ h' = p_mk Ls J L R X) := by
  obtain ⟨h1, h2, h3, h4, h5⟩ := h
  have he := vld_env h3 hq
  obtain ⟨b1, b2⟩ := wEnv_b he (pc_le (kn (I 125) 0))
  obtain ⟨S', s⟩ := years_c (L := L) (D := D) h5 (bW_9 hw b1) (by rw [hw 1 (by omega)]; exact b2) hD
  rw [agF_c hw (lawOf_c h4), (yv_e he (pc_le _)).1] at s
  exact ⟨_, fun a a1 a2 => pf_ne a2, pf_ne (by omega), s⟩
theorem hn_c {D q kd : Nat} (h : Cx Ls I R X c) (hq : q < 8) (hk : kd ≤ 3) (hw : w9 (I 46) (wEnv (I 125) q (nI (pc (kn (I 125) 0))))) (hD : 2 ≤ D) : ∃ J, frJ I J ∧ J 46 = I 46 ∧ P_m D 28 [.ref 45, va_rf (fRef R 71 (I 125)), .int (nI kd)] (p_mk Ls I L R X) (fun v h' => v = some (.int (bI (hdF c (wEnv (I 125) q (nI (pc (kn (I 125) 0)))) kd))) ∧ h' = p_mk Ls J L R X) := by
  obtain ⟨h1, h2, h3, h4, h5⟩ := h
  have he := vld_env h3 hq
  obtain ⟨b1, b2⟩ := wEnv_b he (pc_le (kn (I 125) 0))
  obtain ⟨S', s⟩ := holds_c (L := L) (D := D) (kd := kd) h5 (bW_9 hw b1) hk hD
  rw [hdF_c hw (lawOf_c h4)] at s
  exact ⟨_, fun a a1 a2 => pf_ne a2, pf_ne (by omega), s⟩
theorem fc_n {d : Nat} (h : Cx Ls I R X c) : P_m (d + 1) 10 [.ref 71] (p_mk Ls I L R X) (fun v h' => v = some (va_rf (fRef R 71 (I 125))) ∧ h' = p_mk Ls I L R X) := sp_10n h.1 h.2.1 h.2.2.1.2.2 h.2.2.1.1.2.2.2.1
theorem va_rf_c (r : Option Nat) : (va_rf r).category = 1 := by cases r <;> rfl
/-- the years of a question now -/
theorem sp_123 {D q : Nat} (h : Cx Ls I R X c) (hq : q < 8) (hD : 4 ≤ D) : ∃ J, frJ I J ∧ P_m D 123 [.ref 32, .int (nI q)] (p_mk Ls I L R X) (fun v h' => v = some (.int (nI (yv c (I 125) q (pc (kn (I 125) 0))))) ∧ h' = p_mk Ls J L R X) := by
  obtain ⟨D', rfl⟩ : ∃ D', D = D' + 4 := ⟨D - 4, by omega⟩
  obtain ⟨J1, f1, -, w1, s1⟩ := look_n (L := L) (D := D' + 3) h hq (by omega)
  have e1 : J1 125 = I 125 := f1 125 (by omega) (by omega)
  have h1 := Cx_J h f1
  rw [← e1] at w1
  obtain ⟨J2, f2, -, s2⟩ := yn_c (L := L) (D := D' + 3) h1 hq w1 (by omega)
  have s3 := fc_n (d := D' + 2) (L := L) h1
  rw [e1] at s2 s3
  refine ⟨J2, frJ_tr f1 f2, ?_⟩
  have rr : ∀ r : Option Nat, p_cats [.ref 45, va_rf r] ≤ p_mx 27 := fun r => by cases r <;> exact Nat.le_of_ble_eq_true rfl
  simp -implicitDefEqProofs (disch := first | omega | decide) only [P_m, ↓P_run_eq _ 123 _ (p_bk 123 0), bk_123_0, pb_123_0, pw_aload_n0, pw_aloadN_n0, pw_getR, pw_iload_n1, pw_iv3, pw_iv1, pw_iv2, pw_ret0, kd_32, rf_32_0, rf_32_1, rf_32_2, rf_32_3, rf_32_4, rf_32_5, rf_32_6, rf_32_7, rf_32_8, rf_32_9, rf_32_11, rf_32_12, rf_32_13, kd_45, rf_45_0, rf_45_1, kd_71, rf_71_1, rf_71_3, rf_71_4, rf_71_5, rf_71_6, rf_71_11, rf_71_12, rf_71_14, n_0, n_1, nn_lt, nn_nlt, nn_le, nn_nle, nn_ne, nn_sub, nn_mul, nI_add, nn_neg, nm_eq, mn_eq, mm_eq, mn_lt, nm_lt, mn_le, nm_le, nn_sub0, nn_of, implies_true, nn_c, nn_in, nn_div, nat_rem, Nat.reduceMul, Nat.reduceSub, Nat.reduceDiv, Nat.reduceMod, pf_at, pf_ne, mk_s, mk_1, Classical.not_not, b2i_T, b2i_F, false_imp_iff, true_imp_iff, false_and, and_false, p_sw, Int.reduceAdd, Int.zero_add, Option.some.injEq, Value.int.injEq, Value.long.injEq, Value.ref.injEq, exists_eq_left', mk_I, mk_L, mk_wI, mk_wL, rf_s, rf_n, true_and, and_true, and_self, or_true, true_or, or_false, false_or, not_true_eq_false, not_false_eq_true, Option.toList_some, Option.toList_none, List.cons_append, List.nil_append, List.map_nil, List.map_cons, List.sum_nil, List.sum_cons, cat_i, cat_l, cat_r, cat_n, Nat.reduceLeDiff, Nat.reduceAdd, Nat.reduceEqDiff, Nat.zero_le, p_ent, p_u_ne, p_u_at, reduceIte, if_true, if_false, va_rf_c, P_ce s1, P_ce s3, P_ce s2 (rr _)]
end CY
