section ACn
variable {Ls : Nat} {I : Nat → Nat → Int32} {L : Nat → Nat → Int64} {R : Nat → Nat → Option Nat} {X : List pKd} {c : Option (List tCl)} {K : Nat → Int32}
def frn (I J : Nat → Nat → Int32) : Prop := ∀ a, (a < 71 ∨ 78 < a) → ¬ a = 46 → ¬ a = 47 → J a = I a
def Can (Ls : Nat) (I : Nat → Nat → Int32) (R : Nat → Nat → Option Nat) (X : List pKd) (K : Nat → Int32) (c : Option (List tCl)) : Prop := hutR I 71 K ∧ txR R X 79 ∧ vld K ∧ lawOf K c ∧ clw Ls I R X (fRef R 71 K) c
theorem Ca_Jn {J : Nat → Nat → Int32} (h : Can Ls I R X K c) (e : frJ I J) : Can Ls J R X K c := ⟨hutR_f h.1 (fun b b1 b2 => e b (by omega) (by omega)), h.2.1, h.2.2.1, h.2.2.2.1, clw_fr h.2.2.2.2 (fun a ha => e a (by omega) (by omega))⟩
theorem sp_7tn {d n : Nat} (v : Int32) (e : I 71 0 = nI n) : P_m d 7 [.ref 71, .int v] (p_mk Ls I L R X) (fun w h' => w = some (.int (b2i (0 ≤ v ∧ v < nI n))) ∧ h' = p_mk Ls I L R X) := by
  simp -implicitDefEqProofs only [P_m, ↓P_run_eq _ 7 _ (p_bk 7 0), bk_7_0, pb_7_0, ↓P_run_eq _ 7 _ (p_bk 7 1), bk_7_1, pb_7_1, ↓P_run_eq _ 7 _ (p_bk 7 2), bk_7_2, pb_7_2, pw_iload_n1, pw_zlt, pw_aload_n0, pw_aloadN_n0, pw_getI, pw_cge, pw_iconst, il_1, pw_goto, il_0, pw_nop, pw_ret1, kd_71, rf_71_1, rf_71_3, rf_71_4, rf_71_5, rf_71_6, rf_71_11, rf_71_12, rf_71_14, Classical.not_not, implies_true, mk_s, mk_1, pf_at, pf_ne, b2i_T, b2i_F, false_imp_iff, true_imp_iff, ne_10, ne_01, ne_m10, ne_0m1, ne_m11, ne_1m1, false_and, and_false, p_sw, Int.reduceAdd, Int.zero_add, Option.some.injEq, Value.int.injEq, Value.long.injEq, Value.ref.injEq, exists_eq_left',  mk_I, mk_L, mk_wI, mk_wL, rf_s, rf_n, true_and, and_true, and_self, or_true, true_or, or_false, false_or, not_true_eq_false, not_false_eq_true, Option.toList_some, Option.toList_none, List.cons_append, List.nil_append, List.map_nil, List.map_cons, List.sum_nil, List.sum_cons, cat_i, cat_l, cat_r, cat_n, Nat.reduceLeDiff, Nat.reduceAdd, Nat.reduceEqDiff, Nat.zero_le, p_ent, Int32.reduceToNatClampNeg, Int32.reduceLT, Int32.reduceLE, vin_l, p_u_ne, p_u_at, reduceIte, if_true, if_false, Int32.reduceToInt, Int.zero_le_ofNat, Int.cast_ofNat_Int, Int.reduceLT, Int.reduceLE, not_false_eq_true, e]
  repeat' (first | apply And.intro | intro)
  all_goals first | rfl | (symm; apply b2i_f; (simp only [Int32.lt_iff_toInt_lt, Int32.le_iff_toInt_le, ← Int32.toInt_inj, Int32.reduceToInt] at *; omega)) | (symm; apply b2i_t; (simp only [Int32.lt_iff_toInt_lt, Int32.le_iff_toInt_le, ← Int32.toInt_inj, Int32.reduceToInt] at *; omega)) | (exfalso; (simp only [Int32.lt_iff_toInt_lt, Int32.le_iff_toInt_le, ← Int32.toInt_inj, Int32.reduceToInt] at *; omega))
theorem sp_8tn {d n : Nat} (v : Int32) (e : I 71 2 = nI n) : P_m d 8 [.ref 71, .int v] (p_mk Ls I L R X) (fun w h' => w = some (.int (b2i (0 ≤ v ∧ v < nI n))) ∧ h' = p_mk Ls I L R X) := by
  simp -implicitDefEqProofs only [P_m, ↓P_run_eq _ 8 _ (p_bk 8 0), bk_8_0, pb_8_0, ↓P_run_eq _ 8 _ (p_bk 8 1), bk_8_1, pb_8_1, ↓P_run_eq _ 8 _ (p_bk 8 2), bk_8_2, pb_8_2, pw_iload_n1, pw_zlt, pw_aload_n0, pw_aloadN_n0, pw_getI, pw_cge, pw_iconst, il_1, pw_goto, il_0, pw_nop, pw_ret1, kd_71, rf_71_1, rf_71_3, rf_71_4, rf_71_5, rf_71_6, rf_71_11, rf_71_12, rf_71_14, Classical.not_not, implies_true, mk_s, mk_1, pf_at, pf_ne, b2i_T, b2i_F, false_imp_iff, true_imp_iff, ne_10, ne_01, ne_m10, ne_0m1, ne_m11, ne_1m1, false_and, and_false, p_sw, Int.reduceAdd, Int.zero_add, Option.some.injEq, Value.int.injEq, Value.long.injEq, Value.ref.injEq, exists_eq_left',  mk_I, mk_L, mk_wI, mk_wL, rf_s, rf_n, true_and, and_true, and_self, or_true, true_or, or_false, false_or, not_true_eq_false, not_false_eq_true, Option.toList_some, Option.toList_none, List.cons_append, List.nil_append, List.map_nil, List.map_cons, List.sum_nil, List.sum_cons, cat_i, cat_l, cat_r, cat_n, Nat.reduceLeDiff, Nat.reduceAdd, Nat.reduceEqDiff, Nat.zero_le, p_ent, Int32.reduceToNatClampNeg, Int32.reduceLT, Int32.reduceLE, vin_l, p_u_ne, p_u_at, reduceIte, if_true, if_false, Int32.reduceToInt, Int.zero_le_ofNat, Int.cast_ofNat_Int, Int.reduceLT, Int.reduceLE, not_false_eq_true, e]
  repeat' (first | apply And.intro | intro)
  all_goals first | rfl | (symm; apply b2i_f; (simp only [Int32.lt_iff_toInt_lt, Int32.le_iff_toInt_le, ← Int32.toInt_inj, Int32.reduceToInt] at *; omega)) | (symm; apply b2i_t; (simp only [Int32.lt_iff_toInt_lt, Int32.le_iff_toInt_le, ← Int32.toInt_inj, Int32.reduceToInt] at *; omega)) | (exfalso; (simp only [Int32.lt_iff_toInt_lt, Int32.le_iff_toInt_le, ← Int32.toInt_inj, Int32.reduceToInt] at *; omega))
theorem lookn {D q : Nat} (h : Can Ls I R X K c) (hq : q < 8) (hD : 2 ≤ D) : ∃ J, frJ I J ∧ w9 (J 46) (wEnv K q (nI (pc (kn K 0)))) ∧ P_m D 24 [.ref 45, .ref 71, .int (nI q)] (p_mk Ls I L R X) (fun v h' => v = none ∧ h' = p_mk Ls J L R X) := by
  obtain ⟨D', rfl⟩ : ∃ D', D = D' + 2 := ⟨D - 2, by omega⟩
  obtain ⟨h1, h2, h3, h4, h5⟩ := h
  obtain ⟨k1, k2, k3⟩ := kn_0 h3
  have s := sp_24n (d := D') (Ls := Ls) (L := L) (R := R) (X := X) hq h1 k3 k1
  refine ⟨_, fun a a1 a2 => pf_ne a1, ?_, s⟩
  rw [pf_at]
  exact lkW_9
theorem yrn {D q : Nat} (h : Can Ls I R X K c) (hq : q < 8) (hw : w9 (I 46) (wEnv K q (nI (pc (kn K 0))))) (hD : 2 ≤ D) : ∃ J, frJ I J ∧ J 46 = I 46 ∧ P_m D 27 [.ref 45, va_rf (fRef R 71 K)] (p_mk Ls I L R X) (fun v h' => v = some (.int (nI (yv c K q (pc (kn K 0))))) ∧ h' = p_mk Ls J L R X) := by
  obtain ⟨h1, h2, h3, h4, h5⟩ := h
  have he := vld_env h3 hq
  obtain ⟨b1, b2⟩ := wEnv_b he (pc_le (kn K 0))
  obtain ⟨S', s⟩ := years_c (L := L) (D := D) h5 (bW_9 hw b1) (by rw [hw 1 (by omega)]; exact b2) hD
  rw [agF_c hw (lawOf_c h4), (yv_e he (pc_le _)).1] at s
  exact ⟨_, fun a a1 a2 => pf_ne a2, pf_ne (by omega), s⟩
theorem hln {D q kd : Nat} (h : Can Ls I R X K c) (hq : q < 8) (hk : kd ≤ 3) (hw : w9 (I 46) (wEnv K q (nI (pc (kn K 0))))) (hD : 2 ≤ D) : ∃ J, frJ I J ∧ J 46 = I 46 ∧ P_m D 28 [.ref 45, va_rf (fRef R 71 K), .int (nI kd)] (p_mk Ls I L R X) (fun v h' => v = some (.int (bI (hdF c (wEnv K q (nI (pc (kn K 0)))) kd))) ∧ h' = p_mk Ls J L R X) := by
  obtain ⟨h1, h2, h3, h4, h5⟩ := h
  have he := vld_env h3 hq
  obtain ⟨b1, b2⟩ := wEnv_b he (pc_le (kn K 0))
  obtain ⟨S', s⟩ := holds_c (L := L) (D := D) (kd := kd) h5 (bW_9 hw b1) hk hD
  rw [hdF_c hw (lawOf_c h4)] at s
  exact ⟨_, fun a a1 a2 => pf_ne a2, pf_ne (by omega), s⟩
theorem fr_Jn {J : Nat → Nat → Int32} (h : frJ I J) : frn I J := fun a _ a2 a3 => h a a2 a3
theorem sp_19n {D : Nat} (v : Int32) (h : Can Ls I R X K c) (e9 : I 1 2 = nI 9999) (hD : 6 ≤ D) : ∃ J, frn I J ∧ hutR J 71 (updL K (actW c K 0 v).2) ∧ P_m D 19 [.ref 71, .ref 45, .int v] (p_mk Ls I L R X) (fun w h' => w = some (.int (actW c K 0 v).1) ∧ h' = p_mk Ls J L R X) := by
  obtain ⟨D', rfl⟩ : ∃ D', D = D' + 6 := ⟨D - 6, by omega⟩
  have hV := h.2.2.1
  obtain ⟨m1, m2⟩ := kn_53 hV
  obtain ⟨t1, t2⟩ := kn_52 hV
  obtain ⟨k1, k2, k3⟩ := kn_0 hV
  have g2 : K 2 = nI (kn K 2) ∧ kn K 2 ≤ 9999 := kn_e hV (by omega) (by omega) (by omega)
  obtain ⟨⟨r1, r2, r3, r4, r5, r6, r7, r8⟩, ⟨u0, u1, u2⟩, ra, -⟩ := hutR_at h.1
  have r2' := r2.trans m1
  have r1' := r1.trans t1
  have r4' := r4.trans k1
  have u2' := u2.trans g2.1
  have s8 := sp_8tn (d := D' + 5) (Ls := Ls) (L := L) (R := R) (X := X) v r2'
  have aw : actW c K 0 v = (if isQ K v = true then (if canA c K v.toNatClampNeg = true then (askA c K v.toNatClampNeg, askW c K v.toNatClampNeg) else (-3, [])) else (-2, [])) := rfl
  rw [aw]
  unfold isQ
  rw [m1]
  rcases rg_n v (m := kn K 53) (by omega) with ⟨q, hq, rfl⟩ | ⟨n1, -⟩
  · have hq8 : q < 8 := by omega
    obtain ⟨g1, -⟩ := rg_t hq (by omega)
    rw [if_pos (by rw [decide_eq_true g1.1, decide_eq_true g1.2]; rfl), nI_clamp (by omega)]
    rw [show b2i (0 ≤ nI q ∧ nI q < nI (kn K 53)) = nI 1 from b2i_t g1] at s8
    have s10 := sp_10n (d := D' + 4) (Ls := Ls) (L := L) (R := R) (X := X) h.1 h.2.1 hV.2.2 hV.1.2.2.2.1
    obtain ⟨J1, f1, w1, s1⟩ := lookn (L := L) (D := D' + 5) h hq8 (by omega)
    have h1 := Ca_Jn h f1
    obtain ⟨J2, f2, j2, s2⟩ := yrn (L := L) (D := D' + 5) h1 hq8 w1 (by omega)
    have h2 := Ca_Jn h1 f2
    have w2 : w9 (J2 46) (wEnv K q (nI (pc (kn K 0)))) := by rw [j2]; exact w1
    have f12 := frJ_tr f1 f2
    obtain ⟨J3, f3, j3, s3⟩ := hln (L := L) (D := D' + 5) (kd := 2) h2 hq8 (by omega) w2 (by omega)
    have h3 := Ca_Jn h2 f3
    have w3 : w9 (J3 46) (wEnv K q (nI (pc (kn K 0)))) := by rw [j3]; exact w2
    have f13 := frJ_tr f12 f3
    obtain ⟨J4, f4, j4, s4⟩ := hln (L := L) (D := D' + 5) (kd := 1) h3 hq8 (by omega) w3 (by omega)
    have h4 := Ca_Jn h3 f4
    have f14 := frJ_tr f13 f4
    have yle := (yv_e (c := c) (vld_env hV hq8) (pc_le (kn K 0))).2
    have a1 : J1 78 2 = nI (kn K 2) := by rw [f1 78 (by omega) (by omega)]; exact u2'
    have b1 : J2 71 7 = K 4 := by rw [f12 71 (by omega) (by omega)]; exact r3
    have b2 : J3 1 2 = nI 9999 := by rw [f13 1 (by omega) (by omega)]; exact e9
    have b3 : J3 71 7 = K 4 := by rw [f13 71 (by omega) (by omega)]; exact r3
    have b4 : J4 71 8 = nI (kn K 0) := by rw [f14 71 (by omega) (by omega)]; exact r4'
    have s7 := sp_7tn (d := D' + 5) (Ls := Ls) (I := J2) (L := L) (R := R) (X := X) (K 4) (n := kn K 52) (by rw [f12 71 (by omega) (by omega)]; exact r1')
    generalize hrr : fRef R 71 K = rr at s10 s2 s3 s4
    cases rr <;> simp only [va_rn, va_rs] at s10 s2 s3 s4
    all_goals
      unfold canA
      rcases hV.2.2.1 with e4 | ⟨t, ht, e4⟩
      · rw [decide_eq_false (fun hh => hh e4), Bool.false_and, if_neg (by decide)]
        refine ⟨J2, fr_Jn f12, h2.1, ?_⟩
        rw [e4] at s7 b1
        rw [show b2i ((0 : Int32) ≤ -1 ∧ -1 < nI (kn K 52)) = nI 0 from b2i_f (fun hh => absurd hh.1 (by decide))] at s7
        have b1 : J2 71 7 = mI 1 := b1
        have s7 : P_m (D' + 5) 7 [.ref 71, .int (mI 1)] (p_mk Ls J2 L R X) (fun w h' => w = some (.int (nI 0)) ∧ h' = p_mk Ls J2 L R X) := s7
        generalize yv c K q (pc (kn K 0)) = Y at *
        simp -implicitDefEqProofs (disch := first | omega | decide) only [P_m, ↓P_run_eq _ 19 _ (p_bk 19 0), bk_19_0, pb_19_0, ↓P_run_eq _ 19 _ (p_bk 19 1), bk_19_1, pb_19_1, ↓P_run_eq _ 19 _ (p_bk 19 2), bk_19_2, pb_19_2, pw_aload_n0, pw_aloadN_n0, pw_iload_n2, pw_iv2, pw_zne, pw_bipush, bl_m2, pw_ret0, pw_iv1, pw_astore_n3, pw_astoreN_n3, ps_3, pe_3, po_i3, po_r3, po_n3, po_u3, pw_aload_n1, pw_aloadN_n1, pw_iv3, pw_getR, pw_iconst, il_2, pw_iald, pw_aload_n3, pw_aloadN_n3, pw_iadd, pw_istore, ps_4, pe_4, po_i4, po_r4, po_n4, po_u4, pw_getI, pw_zeq, pw_iload_4, pw_getsR, pw_cle, pw_nop, bl_m3, kd_1, rf_30_1, rf_30_2, kd_45, rf_45_0, rf_45_1, kd_71, rf_71_1, rf_71_3, rf_71_4, rf_71_5, rf_71_6, rf_71_11, rf_71_12, rf_71_14, kd_78, n_0, n_1, n_2, nn_lt, nn_nlt, nn_le, nn_nle, nn_ne, nn_sub, nn_mul, nI_add, nn_neg, nm_eq, mn_eq, mm_eq, mn_lt, nm_lt, mn_le, nm_le, nn_sub0, nn_of, implies_true, nn_c, nn_in, nn_div, nat_rem, Nat.reduceMul, Nat.reduceSub, Nat.reduceDiv, Nat.reduceMod, pf_at, pf_ne, mk_s, mk_1, Classical.not_not, b2i_T, b2i_F, false_imp_iff, true_imp_iff, false_and, and_false, p_sw, Int.reduceAdd, Int.zero_add, Option.some.injEq, Value.int.injEq, Value.long.injEq, Value.ref.injEq, exists_eq_left', mk_I, mk_L, mk_wI, mk_wL, rf_s, rf_n, true_and, and_true, and_self, or_true, true_or, or_false, false_or, not_true_eq_false, not_false_eq_true, Option.toList_some, Option.toList_none, List.cons_append, List.nil_append, List.map_nil, List.map_cons, List.sum_nil, List.sum_cons, cat_i, cat_l, cat_r, cat_n, Nat.reduceLeDiff, Nat.reduceAdd, Nat.reduceEqDiff, Nat.zero_le, p_ent, p_u_ne, p_u_at, reduceIte, if_true, if_false, P_ce s8, P_ce s10, P_ce s1, a1, P_ce s2, b1, P_ce s7, n_3]
      · have ht' : t < kn K 52 := ht
        have ne4 : ¬ K 4 = -1 := by
          rw [e4]
          intro h9
          have := congrArg Int32.toInt h9
          rw [nI_toInt (by omega)] at this
          have e2 : (-1 : Int32).toInt = -1 := by decide
          omega
        have kt : kn K 4 = t := by unfold kn; rw [e4, nI_clamp (by omega)]
        rw [decide_eq_true ne4, Bool.true_and]
        rw [e4] at s7 b1 b3
        rw [show b2i (0 ≤ nI t ∧ nI t < nI (kn K 52)) = nI 1 from b2i_t (rg_t ht' (by omega)).1] at s7
        unfold bv
        cases hb : hdF c (wEnv K q (nI (pc (kn K 0)))) 2 with
        | true =>
          rw [Bool.not_true, Bool.false_and, if_neg (by decide)]
          refine ⟨J3, fr_Jn f13, h3.1, ?_⟩
          rw [hb, bI_t] at s3
          generalize yv c K q (pc (kn K 0)) = Y at *
          simp -implicitDefEqProofs (disch := first | omega | decide) only [P_m, ↓P_run_eq _ 19 _ (p_bk 19 0), bk_19_0, pb_19_0, ↓P_run_eq _ 19 _ (p_bk 19 1), bk_19_1, pb_19_1, ↓P_run_eq _ 19 _ (p_bk 19 2), bk_19_2, pb_19_2, pw_aload_n0, pw_aloadN_n0, pw_iload_n2, pw_iv2, pw_zne, pw_bipush, bl_m2, pw_ret0, pw_iv1, pw_astore_n3, pw_astoreN_n3, ps_3, pe_3, po_i3, po_r3, po_n3, po_u3, pw_aload_n1, pw_aloadN_n1, pw_iv3, pw_getR, pw_iconst, il_2, pw_iald, pw_aload_n3, pw_aloadN_n3, pw_iadd, pw_istore, ps_4, pe_4, po_i4, po_r4, po_n4, po_u4, pw_getI, pw_zeq, pw_iload_4, pw_getsR, pw_cle, pw_nop, bl_m3, kd_1, rf_30_1, rf_30_2, kd_45, rf_45_0, rf_45_1, kd_71, rf_71_1, rf_71_3, rf_71_4, rf_71_5, rf_71_6, rf_71_11, rf_71_12, rf_71_14, kd_78, n_0, n_1, n_2, nn_lt, nn_nlt, nn_le, nn_nle, nn_ne, nn_sub, nn_mul, nI_add, nn_neg, nm_eq, mn_eq, mm_eq, mn_lt, nm_lt, mn_le, nm_le, nn_sub0, nn_of, implies_true, nn_c, nn_in, nn_div, nat_rem, Nat.reduceMul, Nat.reduceSub, Nat.reduceDiv, Nat.reduceMod, pf_at, pf_ne, mk_s, mk_1, Classical.not_not, b2i_T, b2i_F, false_imp_iff, true_imp_iff, false_and, and_false, p_sw, Int.reduceAdd, Int.zero_add, Option.some.injEq, Value.int.injEq, Value.long.injEq, Value.ref.injEq, exists_eq_left', mk_I, mk_L, mk_wI, mk_wL, rf_s, rf_n, true_and, and_true, and_self, or_true, true_or, or_false, false_or, not_true_eq_false, not_false_eq_true, Option.toList_some, Option.toList_none, List.cons_append, List.nil_append, List.map_nil, List.map_cons, List.sum_nil, List.sum_cons, cat_i, cat_l, cat_r, cat_n, Nat.reduceLeDiff, Nat.reduceAdd, Nat.reduceEqDiff, Nat.zero_le, p_ent, p_u_ne, p_u_at, reduceIte, if_true, if_false, P_ce s8, P_ce s10, P_ce s1, a1, P_ce s2, b1, P_ce s7, P_ce s3, n_3]
        | false =>
          rw [hb, bI_f] at s3
          rw [Bool.not_false, Bool.true_and]
          by_cases hag : kn K 2 + yv c K q (pc (kn K 0)) ≤ 9999
          · rw [if_pos (decide_eq_true hag)]
            obtain ⟨wok, -⟩ := askW_ok (c := c) hV hq8 hag
            obtain ⟨y1, y2⟩ := kn_37 hV hq8
            obtain ⟨q1, q2, q3, q4, q5⟩ := ra q hq8
            have h5q : K (5 + q) = nI (kn K (5 + q)) ∧ kn K (5 + q) ≤ 999 := by
              have := kn_e hV (j := 5 + q) (by omega) (by omega) (by omega)
              rw [mx_5 q hq8] at this
              exact this
            have z1 := sp_14n (d := D' + 5) (Ls := Ls) (I := J3) (L := L) (R := R) (X := X) (q := q) (t := t) hq8 (by omega) y2 (by rw [f13 75 (by omega) (by omega)]; exact q4.trans y1)
            have z2 := sp_15n (d := D' + 4) (Ls := Ls) (I := J4) (L := L) (R := R) (X := X) (q := q) (n := kn K 52) (x := an (kn K (37 + q)) t) hq8 t2 (an_lt _ _) y2 (by rw [f14 75 (by omega) (by omega)]; exact q4.trans y1) (by rw [f14 71 (by omega) (by omega)]; exact r1')
            have z3 := alk_and (a := kn K (37 + q)) (n := kn K 52) (s := kn K 0) (x := an (kn K (37 + q)) t) t2 k3
            have b5 : J4 76 q = nI (kn K (5 + q)) := by rw [f14 76 (by omega) (by omega)]; exact q5.trans h5q.1
            have al := an_lt (kn K (37 + q)) t
            refine ⟨wC 71 J4 (askW c K q), fun a a1 a2 a3 => ?_, updL_hR _ wok h4.1, ?_⟩
            · rw [wC_fr _ _ wok (by omega), f14 a a2 a3]
            · have pl : plA K q = an (kn K (37 + q)) t := by unfold plA; rw [kt]
              have mn : ∀ k, k ≤ 999 → (if nI (k + 1) < nI 999 then nI (k + 1) else nI 999) = nI (min (k + 1) 999) ∧ (if nI 999 < nI (k + 1) then nI 999 else nI (k + 1)) = nI (min (k + 1) 999) := fun k hk => by
                rcases Nat.lt_or_ge (k + 1) 999 with h | h
                · rw [if_pos (nI_lt h (by omega)), if_neg (nI_nlt (by omega) (by omega)), show min (k + 1) 999 = k + 1 by omega]; exact ⟨rfl, rfl⟩
                · rw [if_neg (nI_nlt h (by omega)), show min (k + 1) 999 = 999 by omega]
                  refine ⟨rfl, ?_⟩
                  rcases Nat.lt_or_ge 999 (k + 1) with h2 | h2
                  · rw [if_pos (nI_lt h2 (by omega))]
                  · rw [if_neg (nI_nlt h2 (by omega)), show k + 1 = 999 by omega]
              have mn' := (mn (kn K (5 + q)) h5q.2).2
              have w5 := (da_5 q hq8).1
              have w6 := (da_5 q hq8).2
              have ew : wC 71 J4 (askW c K q) = p_u (p_u (p_u J4 71 8 (nI (alk (kn K (37 + q)) (kn K 52) (kn K 0) (an (kn K (37 + q)) t)))) 78 2 (nI (kn K 2 + yv c K q (pc (kn K 0))))) 76 q (nI (min (kn K (5 + q) + 1) 999)) := by
                unfold askW
                rw [pl]
                simp only [wC, w5, w6]
                rfl
              rw [ew]
              unfold askA tv
              rw [pl]
              generalize hY : yv c K q (pc (kn K 0)) = Y at *
              generalize hP : an (kn K (37 + q)) t = P at *
              have P4 : P = 0 ∨ P = 1 ∨ P = 2 ∨ P = 3 := by omega
              cases hT : hdF c (wEnv K q (nI (pc (kn K 0)))) 1 with
              | true =>
                rw [hT, bI_t] at s4
                rw [if_pos rfl]
                simp -implicitDefEqProofs (disch := first | omega | decide) only [P_m, ↓P_run_eq _ 19 _ (p_bk 19 0), bk_19_0, pb_19_0, ↓P_run_eq _ 19 _ (p_bk 19 1), bk_19_1, pb_19_1, ↓P_run_eq _ 19 _ (p_bk 19 2), bk_19_2, pb_19_2, ↓P_run_eq _ 19 _ (p_bk 19 3), bk_19_3, pb_19_3, ↓P_run_eq _ 19 _ (p_bk 19 4), bk_19_4, pb_19_4, ↓P_run_eq _ 19 _ (p_bk 19 5), bk_19_5, pb_19_5, pw_aload_n0, pw_aloadN_n0, pw_iload_n2, pw_iv2, pw_zne, pw_bipush, bl_m2, pw_ret0, pw_iv1, pw_astore_n3, pw_astoreN_n3, ps_3, pe_3, po_i3, po_r3, po_n3, po_u3, pw_aload_n1, pw_aloadN_n1, pw_iv3, pw_getR, pw_iconst, il_2, pw_iald, pw_aload_n3, pw_aloadN_n3, pw_iadd, pw_istore, ps_4, pe_4, po_i4, po_r4, po_n4, po_u4, pw_getI, pw_zeq, pw_iload_4, pw_getsR, pw_cle, pw_nop, bl_m3, ps_5, pe_5, po_i5, po_r5, po_n5, po_u5, il_1, pw_goto, il_0, ps_6, pe_6, po_i6, po_r6, po_n6, po_u6, pw_dupi, pw_dupr, pw_iload_5, pw_iand, pw_putI, pw_iast, pw_sipush, sl_999, pw_min, pw_iload_6, il_3, kd_1, rf_30_1, rf_30_2, kd_45, rf_45_0, rf_45_1, kd_71, rf_71_1, rf_71_3, rf_71_4, rf_71_5, rf_71_6, rf_71_11, rf_71_12, rf_71_14, kd_75, kd_76, kd_78, n_0, n_1, n_2, n_3, n_999, nn_lt, nn_nlt, nn_le, nn_nle, nn_ne, nn_sub, nn_mul, nI_add, nn_neg, nm_eq, mn_eq, mm_eq, mn_lt, nm_lt, mn_le, nm_le, nn_sub0, nn_of, implies_true, nn_c, nn_in, nn_div, nat_rem, Nat.reduceMul, Nat.reduceSub, Nat.reduceDiv, Nat.reduceMod, pf_at, pf_ne, mk_s, mk_1, Classical.not_not, b2i_T, b2i_F, false_imp_iff, true_imp_iff, false_and, and_false, p_sw, Int.reduceAdd, Int.zero_add, Option.some.injEq, Value.int.injEq, Value.long.injEq, Value.ref.injEq, exists_eq_left', mk_I, mk_L, mk_wI, mk_wL, rf_s, rf_n, true_and, and_true, and_self, or_true, true_or, or_false, false_or, not_true_eq_false, not_false_eq_true, Option.toList_some, Option.toList_none, List.cons_append, List.nil_append, List.map_nil, List.map_cons, List.sum_nil, List.sum_cons, cat_i, cat_l, cat_r, cat_n, Nat.reduceLeDiff, Nat.reduceAdd, Nat.reduceEqDiff, Nat.zero_le, p_ent, p_u_ne, p_u_at, reduceIte, if_true, if_false, P_ce s8, P_ce s10, P_ce s1, a1, P_ce s2, b1, b2, b3, P_ce s7, P_ce s3, P_ce z1, P_ce s4, b4, P_ce z2, nn_and, z3, b5, mn']
                rcases P4 with rfl | rfl | rfl | rfl <;> rfl
              | false =>
                rw [hT, bI_f] at s4
                rw [if_neg (by decide)]
                simp -implicitDefEqProofs (disch := first | omega | decide) only [P_m, ↓P_run_eq _ 19 _ (p_bk 19 0), bk_19_0, pb_19_0, ↓P_run_eq _ 19 _ (p_bk 19 1), bk_19_1, pb_19_1, ↓P_run_eq _ 19 _ (p_bk 19 2), bk_19_2, pb_19_2, ↓P_run_eq _ 19 _ (p_bk 19 3), bk_19_3, pb_19_3, ↓P_run_eq _ 19 _ (p_bk 19 4), bk_19_4, pb_19_4, ↓P_run_eq _ 19 _ (p_bk 19 5), bk_19_5, pb_19_5, pw_aload_n0, pw_aloadN_n0, pw_iload_n2, pw_iv2, pw_zne, pw_bipush, bl_m2, pw_ret0, pw_iv1, pw_astore_n3, pw_astoreN_n3, ps_3, pe_3, po_i3, po_r3, po_n3, po_u3, pw_aload_n1, pw_aloadN_n1, pw_iv3, pw_getR, pw_iconst, il_2, pw_iald, pw_aload_n3, pw_aloadN_n3, pw_iadd, pw_istore, ps_4, pe_4, po_i4, po_r4, po_n4, po_u4, pw_getI, pw_zeq, pw_iload_4, pw_getsR, pw_cle, pw_nop, bl_m3, ps_5, pe_5, po_i5, po_r5, po_n5, po_u5, il_1, pw_goto, il_0, ps_6, pe_6, po_i6, po_r6, po_n6, po_u6, pw_dupi, pw_dupr, pw_iload_5, pw_iand, pw_putI, pw_iast, pw_sipush, sl_999, pw_min, pw_iload_6, il_3, kd_1, rf_30_1, rf_30_2, kd_45, rf_45_0, rf_45_1, kd_71, rf_71_1, rf_71_3, rf_71_4, rf_71_5, rf_71_6, rf_71_11, rf_71_12, rf_71_14, kd_75, kd_76, kd_78, n_0, n_1, n_2, n_3, n_999, nn_lt, nn_nlt, nn_le, nn_nle, nn_ne, nn_sub, nn_mul, nI_add, nn_neg, nm_eq, mn_eq, mm_eq, mn_lt, nm_lt, mn_le, nm_le, nn_sub0, nn_of, implies_true, nn_c, nn_in, nn_div, nat_rem, Nat.reduceMul, Nat.reduceSub, Nat.reduceDiv, Nat.reduceMod, pf_at, pf_ne, mk_s, mk_1, Classical.not_not, b2i_T, b2i_F, false_imp_iff, true_imp_iff, false_and, and_false, p_sw, Int.reduceAdd, Int.zero_add, Option.some.injEq, Value.int.injEq, Value.long.injEq, Value.ref.injEq, exists_eq_left', mk_I, mk_L, mk_wI, mk_wL, rf_s, rf_n, true_and, and_true, and_self, or_true, true_or, or_false, false_or, not_true_eq_false, not_false_eq_true, Option.toList_some, Option.toList_none, List.cons_append, List.nil_append, List.map_nil, List.map_cons, List.sum_nil, List.sum_cons, cat_i, cat_l, cat_r, cat_n, Nat.reduceLeDiff, Nat.reduceAdd, Nat.reduceEqDiff, Nat.zero_le, p_ent, p_u_ne, p_u_at, reduceIte, if_true, if_false, P_ce s8, P_ce s10, P_ce s1, a1, P_ce s2, b1, b2, b3, P_ce s7, P_ce s3, P_ce z1, P_ce s4, b4, P_ce z2, nn_and, z3, b5, mn']
                rcases P4 with rfl | rfl | rfl | rfl <;> rfl
          · rw [if_neg (by rw [decide_eq_false hag]; decide)]
            refine ⟨J3, fr_Jn f13, h3.1, ?_⟩
            generalize yv c K q (pc (kn K 0)) = Y at *
            simp -implicitDefEqProofs (disch := first | omega | decide) only [P_m, ↓P_run_eq _ 19 _ (p_bk 19 0), bk_19_0, pb_19_0, ↓P_run_eq _ 19 _ (p_bk 19 1), bk_19_1, pb_19_1, ↓P_run_eq _ 19 _ (p_bk 19 2), bk_19_2, pb_19_2, pw_aload_n0, pw_aloadN_n0, pw_iload_n2, pw_iv2, pw_zne, pw_bipush, bl_m2, pw_ret0, pw_iv1, pw_astore_n3, pw_astoreN_n3, ps_3, pe_3, po_i3, po_r3, po_n3, po_u3, pw_aload_n1, pw_aloadN_n1, pw_iv3, pw_getR, pw_iconst, il_2, pw_iald, pw_aload_n3, pw_aloadN_n3, pw_iadd, pw_istore, ps_4, pe_4, po_i4, po_r4, po_n4, po_u4, pw_getI, pw_zeq, pw_iload_4, pw_getsR, pw_cle, pw_nop, bl_m3, kd_1, rf_30_1, rf_30_2, kd_45, rf_45_0, rf_45_1, kd_71, rf_71_1, rf_71_3, rf_71_4, rf_71_5, rf_71_6, rf_71_11, rf_71_12, rf_71_14, kd_78, n_0, n_1, n_2, nn_lt, nn_nlt, nn_le, nn_nle, nn_ne, nn_sub, nn_mul, nI_add, nn_neg, nm_eq, mn_eq, mm_eq, mn_lt, nm_lt, mn_le, nm_le, nn_sub0, nn_of, implies_true, nn_c, nn_in, nn_div, nat_rem, Nat.reduceMul, Nat.reduceSub, Nat.reduceDiv, Nat.reduceMod, pf_at, pf_ne, mk_s, mk_1, Classical.not_not, b2i_T, b2i_F, false_imp_iff, true_imp_iff, false_and, and_false, p_sw, Int.reduceAdd, Int.zero_add, Option.some.injEq, Value.int.injEq, Value.long.injEq, Value.ref.injEq, exists_eq_left', mk_I, mk_L, mk_wI, mk_wL, rf_s, rf_n, true_and, and_true, and_self, or_true, true_or, or_false, false_or, not_true_eq_false, not_false_eq_true, Option.toList_some, Option.toList_none, List.cons_append, List.nil_append, List.map_nil, List.map_cons, List.sum_nil, List.sum_cons, cat_i, cat_l, cat_r, cat_n, Nat.reduceLeDiff, Nat.reduceAdd, Nat.reduceEqDiff, Nat.zero_le, p_ent, p_u_ne, p_u_at, reduceIte, if_true, if_false, P_ce s8, P_ce s10, P_ce s1, a1, P_ce s2, b1, b2, P_ce s7, P_ce s3, n_3]
  · rw [if_neg (by
      intro hh
      simp only [Bool.and_eq_true, decide_eq_true_eq] at hh
      exact n1 hh)]
    rw [show b2i (0 ≤ v ∧ v < nI (kn K 53)) = nI 0 from b2i_f n1] at s8
    refine ⟨I, fun a _ _ _ => rfl, h.1, ?_⟩
    simp -implicitDefEqProofs (disch := first | omega | decide) only [P_m, ↓P_run_eq _ 19 _ (p_bk 19 0), bk_19_0, pb_19_0, pw_aload_n0, pw_aloadN_n0, pw_iload_n2, pw_iv2, pw_zne, pw_bipush, bl_m2, pw_ret0, kd_71, rf_71_1, rf_71_3, rf_71_4, rf_71_5, rf_71_6, rf_71_11, rf_71_12, rf_71_14, n_0, n_1, nn_lt, nn_nlt, nn_le, nn_nle, nn_ne, nn_sub, nn_mul, nI_add, nn_neg, nm_eq, mn_eq, mm_eq, mn_lt, nm_lt, mn_le, nm_le, nn_sub0, nn_of, implies_true, nn_c, nn_in, nn_div, nat_rem, Nat.reduceMul, Nat.reduceSub, Nat.reduceDiv, Nat.reduceMod, pf_at, pf_ne, mk_s, mk_1, Classical.not_not, b2i_T, b2i_F, false_imp_iff, true_imp_iff, false_and, and_false, p_sw, Int.reduceAdd, Int.zero_add, Option.some.injEq, Value.int.injEq, Value.long.injEq, Value.ref.injEq, exists_eq_left', mk_I, mk_L, mk_wI, mk_wL, rf_s, rf_n, true_and, and_true, and_self, or_true, true_or, or_false, false_or, not_true_eq_false, not_false_eq_true, Option.toList_some, Option.toList_none, List.cons_append, List.nil_append, List.map_nil, List.map_cons, List.sum_nil, List.sum_cons, cat_i, cat_l, cat_r, cat_n, Nat.reduceLeDiff, Nat.reduceAdd, Nat.reduceEqDiff, Nat.zero_le, p_ent, p_u_ne, p_u_at, reduceIte, if_true, if_false, P_ce s8, n_2]
end ACn
section ACh
variable {Ls : Nat} {I : Nat → Nat → Int32} {L : Nat → Nat → Int64} {R : Nat → Nat → Option Nat} {X : List pKd} {c : Option (List tCl)} {K : Nat → Int32}
def frh (I J : Nat → Nat → Int32) : Prop := ∀ a, (a < 93 ∨ 100 < a) → ¬ a = 46 → ¬ a = 47 → J a = I a
def Cah (Ls : Nat) (I : Nat → Nat → Int32) (R : Nat → Nat → Option Nat) (X : List pKd) (K : Nat → Int32) (c : Option (List tCl)) : Prop := hutR I 93 K ∧ txR R X 101 ∧ vld K ∧ lawOf K c ∧ clw Ls I R X (fRef R 93 K) c
theorem Ca_Jh {J : Nat → Nat → Int32} (h : Cah Ls I R X K c) (e : frJ I J) : Cah Ls J R X K c := ⟨hutR_f h.1 (fun b b1 b2 => e b (by omega) (by omega)), h.2.1, h.2.2.1, h.2.2.2.1, clw_fr h.2.2.2.2 (fun a ha => e a (by omega) (by omega))⟩
theorem sp_7th {d n : Nat} (v : Int32) (e : I 93 0 = nI n) : P_m d 7 [.ref 93, .int v] (p_mk Ls I L R X) (fun w h' => w = some (.int (b2i (0 ≤ v ∧ v < nI n))) ∧ h' = p_mk Ls I L R X) := by
  simp -implicitDefEqProofs only [P_m, ↓P_run_eq _ 7 _ (p_bk 7 0), bk_7_0, pb_7_0, ↓P_run_eq _ 7 _ (p_bk 7 1), bk_7_1, pb_7_1, ↓P_run_eq _ 7 _ (p_bk 7 2), bk_7_2, pb_7_2, pw_iload_n1, pw_zlt, pw_aload_n0, pw_aloadN_n0, pw_getI, pw_cge, pw_iconst, il_1, pw_goto, il_0, pw_nop, pw_ret1, kd_93, rf_93_1, rf_93_3, rf_93_4, rf_93_5, rf_93_6, rf_93_11, rf_93_12, rf_93_14, Classical.not_not, implies_true, mk_s, mk_1, pf_at, pf_ne, b2i_T, b2i_F, false_imp_iff, true_imp_iff, ne_10, ne_01, ne_m10, ne_0m1, ne_m11, ne_1m1, false_and, and_false, p_sw, Int.reduceAdd, Int.zero_add, Option.some.injEq, Value.int.injEq, Value.long.injEq, Value.ref.injEq, exists_eq_left',  mk_I, mk_L, mk_wI, mk_wL, rf_s, rf_n, true_and, and_true, and_self, or_true, true_or, or_false, false_or, not_true_eq_false, not_false_eq_true, Option.toList_some, Option.toList_none, List.cons_append, List.nil_append, List.map_nil, List.map_cons, List.sum_nil, List.sum_cons, cat_i, cat_l, cat_r, cat_n, Nat.reduceLeDiff, Nat.reduceAdd, Nat.reduceEqDiff, Nat.zero_le, p_ent, Int32.reduceToNatClampNeg, Int32.reduceLT, Int32.reduceLE, vin_l, p_u_ne, p_u_at, reduceIte, if_true, if_false, Int32.reduceToInt, Int.zero_le_ofNat, Int.cast_ofNat_Int, Int.reduceLT, Int.reduceLE, not_false_eq_true, e]
  repeat' (first | apply And.intro | intro)
  all_goals first | rfl | (symm; apply b2i_f; (simp only [Int32.lt_iff_toInt_lt, Int32.le_iff_toInt_le, ← Int32.toInt_inj, Int32.reduceToInt] at *; omega)) | (symm; apply b2i_t; (simp only [Int32.lt_iff_toInt_lt, Int32.le_iff_toInt_le, ← Int32.toInt_inj, Int32.reduceToInt] at *; omega)) | (exfalso; (simp only [Int32.lt_iff_toInt_lt, Int32.le_iff_toInt_le, ← Int32.toInt_inj, Int32.reduceToInt] at *; omega))
theorem sp_8th {d n : Nat} (v : Int32) (e : I 93 2 = nI n) : P_m d 8 [.ref 93, .int v] (p_mk Ls I L R X) (fun w h' => w = some (.int (b2i (0 ≤ v ∧ v < nI n))) ∧ h' = p_mk Ls I L R X) := by
  simp -implicitDefEqProofs only [P_m, ↓P_run_eq _ 8 _ (p_bk 8 0), bk_8_0, pb_8_0, ↓P_run_eq _ 8 _ (p_bk 8 1), bk_8_1, pb_8_1, ↓P_run_eq _ 8 _ (p_bk 8 2), bk_8_2, pb_8_2, pw_iload_n1, pw_zlt, pw_aload_n0, pw_aloadN_n0, pw_getI, pw_cge, pw_iconst, il_1, pw_goto, il_0, pw_nop, pw_ret1, kd_93, rf_93_1, rf_93_3, rf_93_4, rf_93_5, rf_93_6, rf_93_11, rf_93_12, rf_93_14, Classical.not_not, implies_true, mk_s, mk_1, pf_at, pf_ne, b2i_T, b2i_F, false_imp_iff, true_imp_iff, ne_10, ne_01, ne_m10, ne_0m1, ne_m11, ne_1m1, false_and, and_false, p_sw, Int.reduceAdd, Int.zero_add, Option.some.injEq, Value.int.injEq, Value.long.injEq, Value.ref.injEq, exists_eq_left',  mk_I, mk_L, mk_wI, mk_wL, rf_s, rf_n, true_and, and_true, and_self, or_true, true_or, or_false, false_or, not_true_eq_false, not_false_eq_true, Option.toList_some, Option.toList_none, List.cons_append, List.nil_append, List.map_nil, List.map_cons, List.sum_nil, List.sum_cons, cat_i, cat_l, cat_r, cat_n, Nat.reduceLeDiff, Nat.reduceAdd, Nat.reduceEqDiff, Nat.zero_le, p_ent, Int32.reduceToNatClampNeg, Int32.reduceLT, Int32.reduceLE, vin_l, p_u_ne, p_u_at, reduceIte, if_true, if_false, Int32.reduceToInt, Int.zero_le_ofNat, Int.cast_ofNat_Int, Int.reduceLT, Int.reduceLE, not_false_eq_true, e]
  repeat' (first | apply And.intro | intro)
  all_goals first | rfl | (symm; apply b2i_f; (simp only [Int32.lt_iff_toInt_lt, Int32.le_iff_toInt_le, ← Int32.toInt_inj, Int32.reduceToInt] at *; omega)) | (symm; apply b2i_t; (simp only [Int32.lt_iff_toInt_lt, Int32.le_iff_toInt_le, ← Int32.toInt_inj, Int32.reduceToInt] at *; omega)) | (exfalso; (simp only [Int32.lt_iff_toInt_lt, Int32.le_iff_toInt_le, ← Int32.toInt_inj, Int32.reduceToInt] at *; omega))
theorem lookh {D q : Nat} (h : Cah Ls I R X K c) (hq : q < 8) (hD : 2 ≤ D) : ∃ J, frJ I J ∧ w9 (J 46) (wEnv K q (nI (pc (kn K 0)))) ∧ P_m D 24 [.ref 45, .ref 93, .int (nI q)] (p_mk Ls I L R X) (fun v h' => v = none ∧ h' = p_mk Ls J L R X) := by
  obtain ⟨D', rfl⟩ : ∃ D', D = D' + 2 := ⟨D - 2, by omega⟩
  obtain ⟨h1, h2, h3, h4, h5⟩ := h
  obtain ⟨k1, k2, k3⟩ := kn_0 h3
  have s := sp_24h (d := D') (Ls := Ls) (L := L) (R := R) (X := X) hq h1 k3 k1
  refine ⟨_, fun a a1 a2 => pf_ne a1, ?_, s⟩
  rw [pf_at]
  exact lkW_9
theorem yrh {D q : Nat} (h : Cah Ls I R X K c) (hq : q < 8) (hw : w9 (I 46) (wEnv K q (nI (pc (kn K 0))))) (hD : 2 ≤ D) : ∃ J, frJ I J ∧ J 46 = I 46 ∧ P_m D 27 [.ref 45, va_rf (fRef R 93 K)] (p_mk Ls I L R X) (fun v h' => v = some (.int (nI (yv c K q (pc (kn K 0))))) ∧ h' = p_mk Ls J L R X) := by
  obtain ⟨h1, h2, h3, h4, h5⟩ := h
  have he := vld_env h3 hq
  obtain ⟨b1, b2⟩ := wEnv_b he (pc_le (kn K 0))
  obtain ⟨S', s⟩ := years_c (L := L) (D := D) h5 (bW_9 hw b1) (by rw [hw 1 (by omega)]; exact b2) hD
  rw [agF_c hw (lawOf_c h4), (yv_e he (pc_le _)).1] at s
  exact ⟨_, fun a a1 a2 => pf_ne a2, pf_ne (by omega), s⟩
theorem hlh {D q kd : Nat} (h : Cah Ls I R X K c) (hq : q < 8) (hk : kd ≤ 3) (hw : w9 (I 46) (wEnv K q (nI (pc (kn K 0))))) (hD : 2 ≤ D) : ∃ J, frJ I J ∧ J 46 = I 46 ∧ P_m D 28 [.ref 45, va_rf (fRef R 93 K), .int (nI kd)] (p_mk Ls I L R X) (fun v h' => v = some (.int (bI (hdF c (wEnv K q (nI (pc (kn K 0)))) kd))) ∧ h' = p_mk Ls J L R X) := by
  obtain ⟨h1, h2, h3, h4, h5⟩ := h
  have he := vld_env h3 hq
  obtain ⟨b1, b2⟩ := wEnv_b he (pc_le (kn K 0))
  obtain ⟨S', s⟩ := holds_c (L := L) (D := D) (kd := kd) h5 (bW_9 hw b1) hk hD
  rw [hdF_c hw (lawOf_c h4)] at s
  exact ⟨_, fun a a1 a2 => pf_ne a2, pf_ne (by omega), s⟩
theorem fr_Jh {J : Nat → Nat → Int32} (h : frJ I J) : frh I J := fun a _ a2 a3 => h a a2 a3
theorem sp_19h {D : Nat} (v : Int32) (h : Cah Ls I R X K c) (e9 : I 1 2 = nI 9999) (hD : 6 ≤ D) : ∃ J, frh I J ∧ hutR J 93 (updL K (actW c K 0 v).2) ∧ P_m D 19 [.ref 93, .ref 45, .int v] (p_mk Ls I L R X) (fun w h' => w = some (.int (actW c K 0 v).1) ∧ h' = p_mk Ls J L R X) := by
  obtain ⟨D', rfl⟩ : ∃ D', D = D' + 6 := ⟨D - 6, by omega⟩
  have hV := h.2.2.1
  obtain ⟨m1, m2⟩ := kn_53 hV
  obtain ⟨t1, t2⟩ := kn_52 hV
  obtain ⟨k1, k2, k3⟩ := kn_0 hV
  have g2 : K 2 = nI (kn K 2) ∧ kn K 2 ≤ 9999 := kn_e hV (by omega) (by omega) (by omega)
  obtain ⟨⟨r1, r2, r3, r4, r5, r6, r7, r8⟩, ⟨u0, u1, u2⟩, ra, -⟩ := hutR_at h.1
  have r2' := r2.trans m1
  have r1' := r1.trans t1
  have r4' := r4.trans k1
  have u2' := u2.trans g2.1
  have s8 := sp_8th (d := D' + 5) (Ls := Ls) (L := L) (R := R) (X := X) v r2'
  have aw : actW c K 0 v = (if isQ K v = true then (if canA c K v.toNatClampNeg = true then (askA c K v.toNatClampNeg, askW c K v.toNatClampNeg) else (-3, [])) else (-2, [])) := rfl
  rw [aw]
  unfold isQ
  rw [m1]
  rcases rg_n v (m := kn K 53) (by omega) with ⟨q, hq, rfl⟩ | ⟨n1, -⟩
  · have hq8 : q < 8 := by omega
    obtain ⟨g1, -⟩ := rg_t hq (by omega)
    rw [if_pos (by rw [decide_eq_true g1.1, decide_eq_true g1.2]; rfl), nI_clamp (by omega)]
    rw [show b2i (0 ≤ nI q ∧ nI q < nI (kn K 53)) = nI 1 from b2i_t g1] at s8
    have s10 := sp_10h (d := D' + 4) (Ls := Ls) (L := L) (R := R) (X := X) h.1 h.2.1 hV.2.2 hV.1.2.2.2.1
    obtain ⟨J1, f1, w1, s1⟩ := lookh (L := L) (D := D' + 5) h hq8 (by omega)
    have h1 := Ca_Jh h f1
    obtain ⟨J2, f2, j2, s2⟩ := yrh (L := L) (D := D' + 5) h1 hq8 w1 (by omega)
    have h2 := Ca_Jh h1 f2
    have w2 : w9 (J2 46) (wEnv K q (nI (pc (kn K 0)))) := by rw [j2]; exact w1
    have f12 := frJ_tr f1 f2
    obtain ⟨J3, f3, j3, s3⟩ := hlh (L := L) (D := D' + 5) (kd := 2) h2 hq8 (by omega) w2 (by omega)
    have h3 := Ca_Jh h2 f3
    have w3 : w9 (J3 46) (wEnv K q (nI (pc (kn K 0)))) := by rw [j3]; exact w2
    have f13 := frJ_tr f12 f3
    obtain ⟨J4, f4, j4, s4⟩ := hlh (L := L) (D := D' + 5) (kd := 1) h3 hq8 (by omega) w3 (by omega)
    have h4 := Ca_Jh h3 f4
    have f14 := frJ_tr f13 f4
    have yle := (yv_e (c := c) (vld_env hV hq8) (pc_le (kn K 0))).2
    have a1 : J1 100 2 = nI (kn K 2) := by rw [f1 100 (by omega) (by omega)]; exact u2'
    have b1 : J2 93 7 = K 4 := by rw [f12 93 (by omega) (by omega)]; exact r3
    have b2 : J3 1 2 = nI 9999 := by rw [f13 1 (by omega) (by omega)]; exact e9
    have b3 : J3 93 7 = K 4 := by rw [f13 93 (by omega) (by omega)]; exact r3
    have b4 : J4 93 8 = nI (kn K 0) := by rw [f14 93 (by omega) (by omega)]; exact r4'
    have s7 := sp_7th (d := D' + 5) (Ls := Ls) (I := J2) (L := L) (R := R) (X := X) (K 4) (n := kn K 52) (by rw [f12 93 (by omega) (by omega)]; exact r1')
    generalize hrr : fRef R 93 K = rr at s10 s2 s3 s4
    cases rr <;> simp only [va_rn, va_rs] at s10 s2 s3 s4
    all_goals
      unfold canA
      rcases hV.2.2.1 with e4 | ⟨t, ht, e4⟩
      · rw [decide_eq_false (fun hh => hh e4), Bool.false_and, if_neg (by decide)]
        refine ⟨J2, fr_Jh f12, h2.1, ?_⟩
        rw [e4] at s7 b1
        rw [show b2i ((0 : Int32) ≤ -1 ∧ -1 < nI (kn K 52)) = nI 0 from b2i_f (fun hh => absurd hh.1 (by decide))] at s7
        have b1 : J2 93 7 = mI 1 := b1
        have s7 : P_m (D' + 5) 7 [.ref 93, .int (mI 1)] (p_mk Ls J2 L R X) (fun w h' => w = some (.int (nI 0)) ∧ h' = p_mk Ls J2 L R X) := s7
        generalize yv c K q (pc (kn K 0)) = Y at *
        simp -implicitDefEqProofs (disch := first | omega | decide) only [P_m, ↓P_run_eq _ 19 _ (p_bk 19 0), bk_19_0, pb_19_0, ↓P_run_eq _ 19 _ (p_bk 19 1), bk_19_1, pb_19_1, ↓P_run_eq _ 19 _ (p_bk 19 2), bk_19_2, pb_19_2, pw_aload_n0, pw_aloadN_n0, pw_iload_n2, pw_iv2, pw_zne, pw_bipush, bl_m2, pw_ret0, pw_iv1, pw_astore_n3, pw_astoreN_n3, ps_3, pe_3, po_i3, po_r3, po_n3, po_u3, pw_aload_n1, pw_aloadN_n1, pw_iv3, pw_getR, pw_iconst, il_2, pw_iald, pw_aload_n3, pw_aloadN_n3, pw_iadd, pw_istore, ps_4, pe_4, po_i4, po_r4, po_n4, po_u4, pw_getI, pw_zeq, pw_iload_4, pw_getsR, pw_cle, pw_nop, bl_m3, kd_1, rf_30_1, rf_30_2, kd_45, rf_45_0, rf_45_1, kd_93, rf_93_1, rf_93_3, rf_93_4, rf_93_5, rf_93_6, rf_93_11, rf_93_12, rf_93_14, kd_100, n_0, n_1, n_2, nn_lt, nn_nlt, nn_le, nn_nle, nn_ne, nn_sub, nn_mul, nI_add, nn_neg, nm_eq, mn_eq, mm_eq, mn_lt, nm_lt, mn_le, nm_le, nn_sub0, nn_of, implies_true, nn_c, nn_in, nn_div, nat_rem, Nat.reduceMul, Nat.reduceSub, Nat.reduceDiv, Nat.reduceMod, pf_at, pf_ne, mk_s, mk_1, Classical.not_not, b2i_T, b2i_F, false_imp_iff, true_imp_iff, false_and, and_false, p_sw, Int.reduceAdd, Int.zero_add, Option.some.injEq, Value.int.injEq, Value.long.injEq, Value.ref.injEq, exists_eq_left', mk_I, mk_L, mk_wI, mk_wL, rf_s, rf_n, true_and, and_true, and_self, or_true, true_or, or_false, false_or, not_true_eq_false, not_false_eq_true, Option.toList_some, Option.toList_none, List.cons_append, List.nil_append, List.map_nil, List.map_cons, List.sum_nil, List.sum_cons, cat_i, cat_l, cat_r, cat_n, Nat.reduceLeDiff, Nat.reduceAdd, Nat.reduceEqDiff, Nat.zero_le, p_ent, p_u_ne, p_u_at, reduceIte, if_true, if_false, P_ce s8, P_ce s10, P_ce s1, a1, P_ce s2, b1, P_ce s7, n_3]
      · have ht' : t < kn K 52 := ht
        have ne4 : ¬ K 4 = -1 := by
          rw [e4]
          intro h9
          have := congrArg Int32.toInt h9
          rw [nI_toInt (by omega)] at this
          have e2 : (-1 : Int32).toInt = -1 := by decide
          omega
        have kt : kn K 4 = t := by unfold kn; rw [e4, nI_clamp (by omega)]
        rw [decide_eq_true ne4, Bool.true_and]
        rw [e4] at s7 b1 b3
        rw [show b2i (0 ≤ nI t ∧ nI t < nI (kn K 52)) = nI 1 from b2i_t (rg_t ht' (by omega)).1] at s7
        unfold bv
        cases hb : hdF c (wEnv K q (nI (pc (kn K 0)))) 2 with
        | true =>
          rw [Bool.not_true, Bool.false_and, if_neg (by decide)]
          refine ⟨J3, fr_Jh f13, h3.1, ?_⟩
          rw [hb, bI_t] at s3
          generalize yv c K q (pc (kn K 0)) = Y at *
          simp -implicitDefEqProofs (disch := first | omega | decide) only [P_m, ↓P_run_eq _ 19 _ (p_bk 19 0), bk_19_0, pb_19_0, ↓P_run_eq _ 19 _ (p_bk 19 1), bk_19_1, pb_19_1, ↓P_run_eq _ 19 _ (p_bk 19 2), bk_19_2, pb_19_2, pw_aload_n0, pw_aloadN_n0, pw_iload_n2, pw_iv2, pw_zne, pw_bipush, bl_m2, pw_ret0, pw_iv1, pw_astore_n3, pw_astoreN_n3, ps_3, pe_3, po_i3, po_r3, po_n3, po_u3, pw_aload_n1, pw_aloadN_n1, pw_iv3, pw_getR, pw_iconst, il_2, pw_iald, pw_aload_n3, pw_aloadN_n3, pw_iadd, pw_istore, ps_4, pe_4, po_i4, po_r4, po_n4, po_u4, pw_getI, pw_zeq, pw_iload_4, pw_getsR, pw_cle, pw_nop, bl_m3, kd_1, rf_30_1, rf_30_2, kd_45, rf_45_0, rf_45_1, kd_93, rf_93_1, rf_93_3, rf_93_4, rf_93_5, rf_93_6, rf_93_11, rf_93_12, rf_93_14, kd_100, n_0, n_1, n_2, nn_lt, nn_nlt, nn_le, nn_nle, nn_ne, nn_sub, nn_mul, nI_add, nn_neg, nm_eq, mn_eq, mm_eq, mn_lt, nm_lt, mn_le, nm_le, nn_sub0, nn_of, implies_true, nn_c, nn_in, nn_div, nat_rem, Nat.reduceMul, Nat.reduceSub, Nat.reduceDiv, Nat.reduceMod, pf_at, pf_ne, mk_s, mk_1, Classical.not_not, b2i_T, b2i_F, false_imp_iff, true_imp_iff, false_and, and_false, p_sw, Int.reduceAdd, Int.zero_add, Option.some.injEq, Value.int.injEq, Value.long.injEq, Value.ref.injEq, exists_eq_left', mk_I, mk_L, mk_wI, mk_wL, rf_s, rf_n, true_and, and_true, and_self, or_true, true_or, or_false, false_or, not_true_eq_false, not_false_eq_true, Option.toList_some, Option.toList_none, List.cons_append, List.nil_append, List.map_nil, List.map_cons, List.sum_nil, List.sum_cons, cat_i, cat_l, cat_r, cat_n, Nat.reduceLeDiff, Nat.reduceAdd, Nat.reduceEqDiff, Nat.zero_le, p_ent, p_u_ne, p_u_at, reduceIte, if_true, if_false, P_ce s8, P_ce s10, P_ce s1, a1, P_ce s2, b1, P_ce s7, P_ce s3, n_3]
        | false =>
          rw [hb, bI_f] at s3
          rw [Bool.not_false, Bool.true_and]
          by_cases hag : kn K 2 + yv c K q (pc (kn K 0)) ≤ 9999
          · rw [if_pos (decide_eq_true hag)]
            obtain ⟨wok, -⟩ := askW_ok (c := c) hV hq8 hag
            obtain ⟨y1, y2⟩ := kn_37 hV hq8
            obtain ⟨q1, q2, q3, q4, q5⟩ := ra q hq8
            have h5q : K (5 + q) = nI (kn K (5 + q)) ∧ kn K (5 + q) ≤ 999 := by
              have := kn_e hV (j := 5 + q) (by omega) (by omega) (by omega)
              rw [mx_5 q hq8] at this
              exact this
            have z1 := sp_14h (d := D' + 5) (Ls := Ls) (I := J3) (L := L) (R := R) (X := X) (q := q) (t := t) hq8 (by omega) y2 (by rw [f13 97 (by omega) (by omega)]; exact q4.trans y1)
            have z2 := sp_15h (d := D' + 4) (Ls := Ls) (I := J4) (L := L) (R := R) (X := X) (q := q) (n := kn K 52) (x := an (kn K (37 + q)) t) hq8 t2 (an_lt _ _) y2 (by rw [f14 97 (by omega) (by omega)]; exact q4.trans y1) (by rw [f14 93 (by omega) (by omega)]; exact r1')
            have z3 := alk_and (a := kn K (37 + q)) (n := kn K 52) (s := kn K 0) (x := an (kn K (37 + q)) t) t2 k3
            have b5 : J4 98 q = nI (kn K (5 + q)) := by rw [f14 98 (by omega) (by omega)]; exact q5.trans h5q.1
            have al := an_lt (kn K (37 + q)) t
            refine ⟨wC 93 J4 (askW c K q), fun a a1 a2 a3 => ?_, updL_hR _ wok h4.1, ?_⟩
            · rw [wC_fr _ _ wok (by omega), f14 a a2 a3]
            · have pl : plA K q = an (kn K (37 + q)) t := by unfold plA; rw [kt]
              have mn : ∀ k, k ≤ 999 → (if nI (k + 1) < nI 999 then nI (k + 1) else nI 999) = nI (min (k + 1) 999) ∧ (if nI 999 < nI (k + 1) then nI 999 else nI (k + 1)) = nI (min (k + 1) 999) := fun k hk => by
                rcases Nat.lt_or_ge (k + 1) 999 with h | h
                · rw [if_pos (nI_lt h (by omega)), if_neg (nI_nlt (by omega) (by omega)), show min (k + 1) 999 = k + 1 by omega]; exact ⟨rfl, rfl⟩
                · rw [if_neg (nI_nlt h (by omega)), show min (k + 1) 999 = 999 by omega]
                  refine ⟨rfl, ?_⟩
                  rcases Nat.lt_or_ge 999 (k + 1) with h2 | h2
                  · rw [if_pos (nI_lt h2 (by omega))]
                  · rw [if_neg (nI_nlt h2 (by omega)), show k + 1 = 999 by omega]
              have mn' := (mn (kn K (5 + q)) h5q.2).2
              have w5 := (da_5 q hq8).1
              have w6 := (da_5 q hq8).2
              have ew : wC 93 J4 (askW c K q) = p_u (p_u (p_u J4 93 8 (nI (alk (kn K (37 + q)) (kn K 52) (kn K 0) (an (kn K (37 + q)) t)))) 100 2 (nI (kn K 2 + yv c K q (pc (kn K 0))))) 98 q (nI (min (kn K (5 + q) + 1) 999)) := by
                unfold askW
                rw [pl]
                simp only [wC, w5, w6]
                rfl
              rw [ew]
              unfold askA tv
              rw [pl]
              generalize hY : yv c K q (pc (kn K 0)) = Y at *
              generalize hP : an (kn K (37 + q)) t = P at *
              have P4 : P = 0 ∨ P = 1 ∨ P = 2 ∨ P = 3 := by omega
              cases hT : hdF c (wEnv K q (nI (pc (kn K 0)))) 1 with
              | true =>
                rw [hT, bI_t] at s4
                rw [if_pos rfl]
                simp -implicitDefEqProofs (disch := first | omega | decide) only [P_m, ↓P_run_eq _ 19 _ (p_bk 19 0), bk_19_0, pb_19_0, ↓P_run_eq _ 19 _ (p_bk 19 1), bk_19_1, pb_19_1, ↓P_run_eq _ 19 _ (p_bk 19 2), bk_19_2, pb_19_2, ↓P_run_eq _ 19 _ (p_bk 19 3), bk_19_3, pb_19_3, ↓P_run_eq _ 19 _ (p_bk 19 4), bk_19_4, pb_19_4, ↓P_run_eq _ 19 _ (p_bk 19 5), bk_19_5, pb_19_5, pw_aload_n0, pw_aloadN_n0, pw_iload_n2, pw_iv2, pw_zne, pw_bipush, bl_m2, pw_ret0, pw_iv1, pw_astore_n3, pw_astoreN_n3, ps_3, pe_3, po_i3, po_r3, po_n3, po_u3, pw_aload_n1, pw_aloadN_n1, pw_iv3, pw_getR, pw_iconst, il_2, pw_iald, pw_aload_n3, pw_aloadN_n3, pw_iadd, pw_istore, ps_4, pe_4, po_i4, po_r4, po_n4, po_u4, pw_getI, pw_zeq, pw_iload_4, pw_getsR, pw_cle, pw_nop, bl_m3, ps_5, pe_5, po_i5, po_r5, po_n5, po_u5, il_1, pw_goto, il_0, ps_6, pe_6, po_i6, po_r6, po_n6, po_u6, pw_dupi, pw_dupr, pw_iload_5, pw_iand, pw_putI, pw_iast, pw_sipush, sl_999, pw_min, pw_iload_6, il_3, kd_1, rf_30_1, rf_30_2, kd_45, rf_45_0, rf_45_1, kd_93, rf_93_1, rf_93_3, rf_93_4, rf_93_5, rf_93_6, rf_93_11, rf_93_12, rf_93_14, kd_97, kd_98, kd_100, n_0, n_1, n_2, n_3, n_999, nn_lt, nn_nlt, nn_le, nn_nle, nn_ne, nn_sub, nn_mul, nI_add, nn_neg, nm_eq, mn_eq, mm_eq, mn_lt, nm_lt, mn_le, nm_le, nn_sub0, nn_of, implies_true, nn_c, nn_in, nn_div, nat_rem, Nat.reduceMul, Nat.reduceSub, Nat.reduceDiv, Nat.reduceMod, pf_at, pf_ne, mk_s, mk_1, Classical.not_not, b2i_T, b2i_F, false_imp_iff, true_imp_iff, false_and, and_false, p_sw, Int.reduceAdd, Int.zero_add, Option.some.injEq, Value.int.injEq, Value.long.injEq, Value.ref.injEq, exists_eq_left', mk_I, mk_L, mk_wI, mk_wL, rf_s, rf_n, true_and, and_true, and_self, or_true, true_or, or_false, false_or, not_true_eq_false, not_false_eq_true, Option.toList_some, Option.toList_none, List.cons_append, List.nil_append, List.map_nil, List.map_cons, List.sum_nil, List.sum_cons, cat_i, cat_l, cat_r, cat_n, Nat.reduceLeDiff, Nat.reduceAdd, Nat.reduceEqDiff, Nat.zero_le, p_ent, p_u_ne, p_u_at, reduceIte, if_true, if_false, P_ce s8, P_ce s10, P_ce s1, a1, P_ce s2, b1, b2, b3, P_ce s7, P_ce s3, P_ce z1, P_ce s4, b4, P_ce z2, nn_and, z3, b5, mn']
                rcases P4 with rfl | rfl | rfl | rfl <;> rfl
              | false =>
                rw [hT, bI_f] at s4
                rw [if_neg (by decide)]
                simp -implicitDefEqProofs (disch := first | omega | decide) only [P_m, ↓P_run_eq _ 19 _ (p_bk 19 0), bk_19_0, pb_19_0, ↓P_run_eq _ 19 _ (p_bk 19 1), bk_19_1, pb_19_1, ↓P_run_eq _ 19 _ (p_bk 19 2), bk_19_2, pb_19_2, ↓P_run_eq _ 19 _ (p_bk 19 3), bk_19_3, pb_19_3, ↓P_run_eq _ 19 _ (p_bk 19 4), bk_19_4, pb_19_4, ↓P_run_eq _ 19 _ (p_bk 19 5), bk_19_5, pb_19_5, pw_aload_n0, pw_aloadN_n0, pw_iload_n2, pw_iv2, pw_zne, pw_bipush, bl_m2, pw_ret0, pw_iv1, pw_astore_n3, pw_astoreN_n3, ps_3, pe_3, po_i3, po_r3, po_n3, po_u3, pw_aload_n1, pw_aloadN_n1, pw_iv3, pw_getR, pw_iconst, il_2, pw_iald, pw_aload_n3, pw_aloadN_n3, pw_iadd, pw_istore, ps_4, pe_4, po_i4, po_r4, po_n4, po_u4, pw_getI, pw_zeq, pw_iload_4, pw_getsR, pw_cle, pw_nop, bl_m3, ps_5, pe_5, po_i5, po_r5, po_n5, po_u5, il_1, pw_goto, il_0, ps_6, pe_6, po_i6, po_r6, po_n6, po_u6, pw_dupi, pw_dupr, pw_iload_5, pw_iand, pw_putI, pw_iast, pw_sipush, sl_999, pw_min, pw_iload_6, il_3, kd_1, rf_30_1, rf_30_2, kd_45, rf_45_0, rf_45_1, kd_93, rf_93_1, rf_93_3, rf_93_4, rf_93_5, rf_93_6, rf_93_11, rf_93_12, rf_93_14, kd_97, kd_98, kd_100, n_0, n_1, n_2, n_3, n_999, nn_lt, nn_nlt, nn_le, nn_nle, nn_ne, nn_sub, nn_mul, nI_add, nn_neg, nm_eq, mn_eq, mm_eq, mn_lt, nm_lt, mn_le, nm_le, nn_sub0, nn_of, implies_true, nn_c, nn_in, nn_div, nat_rem, Nat.reduceMul, Nat.reduceSub, Nat.reduceDiv, Nat.reduceMod, pf_at, pf_ne, mk_s, mk_1, Classical.not_not, b2i_T, b2i_F, false_imp_iff, true_imp_iff, false_and, and_false, p_sw, Int.reduceAdd, Int.zero_add, Option.some.injEq, Value.int.injEq, Value.long.injEq, Value.ref.injEq, exists_eq_left', mk_I, mk_L, mk_wI, mk_wL, rf_s, rf_n, true_and, and_true, and_self, or_true, true_or, or_false, false_or, not_true_eq_false, not_false_eq_true, Option.toList_some, Option.toList_none, List.cons_append, List.nil_append, List.map_nil, List.map_cons, List.sum_nil, List.sum_cons, cat_i, cat_l, cat_r, cat_n, Nat.reduceLeDiff, Nat.reduceAdd, Nat.reduceEqDiff, Nat.zero_le, p_ent, p_u_ne, p_u_at, reduceIte, if_true, if_false, P_ce s8, P_ce s10, P_ce s1, a1, P_ce s2, b1, b2, b3, P_ce s7, P_ce s3, P_ce z1, P_ce s4, b4, P_ce z2, nn_and, z3, b5, mn']
                rcases P4 with rfl | rfl | rfl | rfl <;> rfl
          · rw [if_neg (by rw [decide_eq_false hag]; decide)]
            refine ⟨J3, fr_Jh f13, h3.1, ?_⟩
            generalize yv c K q (pc (kn K 0)) = Y at *
            simp -implicitDefEqProofs (disch := first | omega | decide) only [P_m, ↓P_run_eq _ 19 _ (p_bk 19 0), bk_19_0, pb_19_0, ↓P_run_eq _ 19 _ (p_bk 19 1), bk_19_1, pb_19_1, ↓P_run_eq _ 19 _ (p_bk 19 2), bk_19_2, pb_19_2, pw_aload_n0, pw_aloadN_n0, pw_iload_n2, pw_iv2, pw_zne, pw_bipush, bl_m2, pw_ret0, pw_iv1, pw_astore_n3, pw_astoreN_n3, ps_3, pe_3, po_i3, po_r3, po_n3, po_u3, pw_aload_n1, pw_aloadN_n1, pw_iv3, pw_getR, pw_iconst, il_2, pw_iald, pw_aload_n3, pw_aloadN_n3, pw_iadd, pw_istore, ps_4, pe_4, po_i4, po_r4, po_n4, po_u4, pw_getI, pw_zeq, pw_iload_4, pw_getsR, pw_cle, pw_nop, bl_m3, kd_1, rf_30_1, rf_30_2, kd_45, rf_45_0, rf_45_1, kd_93, rf_93_1, rf_93_3, rf_93_4, rf_93_5, rf_93_6, rf_93_11, rf_93_12, rf_93_14, kd_100, n_0, n_1, n_2, nn_lt, nn_nlt, nn_le, nn_nle, nn_ne, nn_sub, nn_mul, nI_add, nn_neg, nm_eq, mn_eq, mm_eq, mn_lt, nm_lt, mn_le, nm_le, nn_sub0, nn_of, implies_true, nn_c, nn_in, nn_div, nat_rem, Nat.reduceMul, Nat.reduceSub, Nat.reduceDiv, Nat.reduceMod, pf_at, pf_ne, mk_s, mk_1, Classical.not_not, b2i_T, b2i_F, false_imp_iff, true_imp_iff, false_and, and_false, p_sw, Int.reduceAdd, Int.zero_add, Option.some.injEq, Value.int.injEq, Value.long.injEq, Value.ref.injEq, exists_eq_left', mk_I, mk_L, mk_wI, mk_wL, rf_s, rf_n, true_and, and_true, and_self, or_true, true_or, or_false, false_or, not_true_eq_false, not_false_eq_true, Option.toList_some, Option.toList_none, List.cons_append, List.nil_append, List.map_nil, List.map_cons, List.sum_nil, List.sum_cons, cat_i, cat_l, cat_r, cat_n, Nat.reduceLeDiff, Nat.reduceAdd, Nat.reduceEqDiff, Nat.zero_le, p_ent, p_u_ne, p_u_at, reduceIte, if_true, if_false, P_ce s8, P_ce s10, P_ce s1, a1, P_ce s2, b1, b2, P_ce s7, P_ce s3, n_3]
  · rw [if_neg (by
      intro hh
      simp only [Bool.and_eq_true, decide_eq_true_eq] at hh
      exact n1 hh)]
    rw [show b2i (0 ≤ v ∧ v < nI (kn K 53)) = nI 0 from b2i_f n1] at s8
    refine ⟨I, fun a _ _ _ => rfl, h.1, ?_⟩
    simp -implicitDefEqProofs (disch := first | omega | decide) only [P_m, ↓P_run_eq _ 19 _ (p_bk 19 0), bk_19_0, pb_19_0, pw_aload_n0, pw_aloadN_n0, pw_iload_n2, pw_iv2, pw_zne, pw_bipush, bl_m2, pw_ret0, kd_93, rf_93_1, rf_93_3, rf_93_4, rf_93_5, rf_93_6, rf_93_11, rf_93_12, rf_93_14, n_0, n_1, nn_lt, nn_nlt, nn_le, nn_nle, nn_ne, nn_sub, nn_mul, nI_add, nn_neg, nm_eq, mn_eq, mm_eq, mn_lt, nm_lt, mn_le, nm_le, nn_sub0, nn_of, implies_true, nn_c, nn_in, nn_div, nat_rem, Nat.reduceMul, Nat.reduceSub, Nat.reduceDiv, Nat.reduceMod, pf_at, pf_ne, mk_s, mk_1, Classical.not_not, b2i_T, b2i_F, false_imp_iff, true_imp_iff, false_and, and_false, p_sw, Int.reduceAdd, Int.zero_add, Option.some.injEq, Value.int.injEq, Value.long.injEq, Value.ref.injEq, exists_eq_left', mk_I, mk_L, mk_wI, mk_wL, rf_s, rf_n, true_and, and_true, and_self, or_true, true_or, or_false, false_or, not_true_eq_false, not_false_eq_true, Option.toList_some, Option.toList_none, List.cons_append, List.nil_append, List.map_nil, List.map_cons, List.sum_nil, List.sum_cons, cat_i, cat_l, cat_r, cat_n, Nat.reduceLeDiff, Nat.reduceAdd, Nat.reduceEqDiff, Nat.zero_le, p_ent, p_u_ne, p_u_at, reduceIte, if_true, if_false, P_ce s8, n_2]
end ACh
