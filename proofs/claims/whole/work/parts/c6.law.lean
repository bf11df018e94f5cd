/-! LAW -/
/-- as Same, but for cells and slots that are made -/
def SameA (d yc ym : Nat) (vs : List Value) (Ls : Nat) (h : pHp) : Prop := ∃ kc ks, kc ≤ 8 ∧ ks ≤ 900 ∧ P_run d yc (p_bk yc 0) kc ks (p_ent (.ref 32 :: vs)) [] h (fun v h1 => ∃ r : Int32, v = some (.int r) ∧ P_m d ym (.ref 123 :: vs) h1 (fun v2 h2 => v2 = some (.int r) ∧ InvH Ls h2))
section LW
variable {d Ls : Nat} {I : Nat → Nat → Int32} {L : Nat → Nat → Int64} {R : Nat → Nat → Option Nat} {X : List pKd} {h : pHp}
theorem inv_flt {f : Int32} (H : Inv I R X) : Inv (p_u (p_u I 32 15 f) 123 14 f) R X := by
  have H' := H
  obtain ⟨h1, h2, h3, h4, h5, h6, h7, h8⟩ := H
  have e : ∀ a, ¬ a = 32 → ¬ a = 123 → p_u (p_u I 32 15 f) 123 14 f a = I a := fun a a1 a2 => by rw [p_u_ne a2, p_u_ne a1]
  have e32 : ∀ k, ¬ k = 15 → p_u (p_u I 32 15 f) 123 14 f 32 k = I 32 k := fun k hk => by rw [p_u_ne (by omega), p_u_at, if_neg hk]
  have e123 : ∀ k, ¬ k = 14 → p_u (p_u I 32 15 f) 123 14 f 123 k = I 123 k := fun k hk => by rw [p_u_at, if_neg hk, p_u_ne (by omega)]
  have f1 : p_u (p_u I 32 15 f) 123 14 f 32 15 = f := by rw [p_u_ne (by omega), p_u_at, if_pos rfl]
  have f2 : p_u (p_u I 32 15 f) 123 14 f 123 14 = f := by rw [p_u_at, if_pos rfl]
  refine Inv_mv2 H' (fun a ha => e a (by unfold kcell at ha; omega) (by unfold kcell at ha; omega)) (e32 10 (by omega)) (e123 46 (by omega)) (e123 13 (by omega)) ?_ ?_ ?_ ?_ ?_ ?_
  · unfold invC
    rw [e 122 (by omega) (by omega), e 124 (by omega) (by omega), e32 14 (by omega), e123 0 (by omega), f1, f2, e32 16 (by omega), e123 37 (by omega), e32 17 (by omega), e123 6 (by omega)]
    exact ⟨h2.1, h2.2.1, rfl, h2.2.2.2⟩
  · unfold invU
    rw [e 80 (by omega) (by omega), e123 31 (by omega), e 81 (by omega) (by omega), e 136 (by omega) (by omega), e 125 (by omega) (by omega)]
    exact h4
  · rw [e 125 (by omega) (by omega)]
    exact hutR_f h7.1 (fun b b1 b2 => e b (by omega) (by omega))
  · rw [e 125 (by omega) (by omega)]; exact h8
  · intro k _ _; rw [e 125 (by omega) (by omega)]
  · rw [e 125 (by omega) (by omega)]
theorem inv_S (H : Inv I R X) : invS I := by
  obtain ⟨-, -, h3, h4, -⟩ := H.1
  exact ⟨h3, fun j hj => ⟨(h4 j hj).1, (h4 j hj).2⟩⟩
/-- the bytes that are told, for both -/
theorem inv_B (H : Inv I R X) : ∃ B T, T ≤ 400 ∧ I 33 1 = nI T ∧ I 123 13 = nI T ∧ (∀ k, k < T → I 34 k = nI (B k) ∧ B k < 256) ∧ mB B T I := by
  obtain ⟨⟨T, hT, e⟩, e2, e3⟩ := H.2.2.1
  have ec : (I 33 1).toNatClampNeg = T := by rw [e, nI_clamp (by omega)]
  rw [ec] at e3
  have hB : ∀ k, k < T → I 34 k = nI ((I 34 k).toNatClampNeg) ∧ (I 34 k).toNatClampNeg < 256 := fun k hk => by
    obtain ⟨⟨b, hb, eb⟩, -⟩ := e3 k hk
    rw [eb, nI_clamp (by omega)]
    exact ⟨rfl, by omega⟩
  refine ⟨fun k => (I 34 k).toNatClampNeg, T, hT, e, e2.trans e, hB, hT, fun k hk => ⟨?_, (hB k hk).2⟩, H.1.2.2.2.2⟩
  rw [(e3 k hk).2, (hB k hk).1]
  rfl
/-- no room for a law -/
theorem law_full (H : Inv I R X) (h6 : kn (I 125) 55 = 6) : Same (d + 60) 90 181 [] Ls (p_mk Ls I L R X) := by
  have hV := H.2.2.2.2.2.2.2
  have e55 := kn_e hV (j := 55) (by omega) (by omega) (by omega)
  have j13 : I 71 13 = nI 6 := by rw [(hutR_at H.2.2.2.2.2.2.1.1).1.2.2.2.2.2.2.1, e55.1, h6]
  obtain ⟨B, T, hT, t1, t2, -⟩ := inv_B H
  have le0 : nI 0 ≤ I 33 1 := by rw [t1, Int32.le_iff_toInt_le, nI_toInt (by omega), nI_toInt (by omega)]; omega
  have H2 := inv_no (-5) 5 (by decide) (inv_end (n := nI 0) H (by decide) le0)
  have k55 : p_u (p_u (p_u I 33 1 (nI 0)) 32 14 (-5)) 122 5 (p_u I 33 1 (nI 0) 122 5 + 1) 125 55 = nI 6 := by rw [p_u_ne (by omega), p_u_ne (by omega), p_u_ne (by omega), e55.1, h6]
  unfold Same
  generalize hF : p_u (p_u (p_u I 33 1 (nI 0)) 32 14 (-5)) 122 5 (p_u I 33 1 (nI 0) 122 5 + 1) = F at *
  have s1 := rc_5 (d := d + 59) (Ls := Ls) (I := p_u I 33 1 (nI 0)) (L := L) (R := R) (X := X)
  rw [hF] at s1
  have s2 := rm_5 (d := d + 59) (Ls := Ls) (I := p_u F 123 13 (nI 0)) (L := L) (R := R) (X := X)
  have cl : P_m (d + 60) 90 [.ref 32] (p_mk Ls I L R X) (fun v h' => v = some (.int (-5)) ∧ h' = p_mk Ls F L R X) := by
    simp -implicitDefEqProofs (disch := first | omega | decide) only [P_m, ↓P_run_eq _ 90 _ (p_bk 90 0), bk_90_0, pb_90_0, pw_aload_n0, pw_aloadN_n0, pw_getR, pw_getI, pw_bipush, bl_6, pw_clt, pw_iconst, il_0, pw_putI, bl_m5, pw_iv2, pw_ret0, kd_32, rf_32_0, rf_32_1, rf_32_2, rf_32_3, rf_32_4, rf_32_5, rf_32_6, rf_32_7, rf_32_8, rf_32_9, rf_32_11, rf_32_12, rf_32_13, kd_33, rf_33_0, kd_71, rf_71_1, rf_71_3, rf_71_4, rf_71_5, rf_71_6, rf_71_11, rf_71_12, rf_71_14, n_0, n_1, n_6, nn_lt, nn_nlt, nn_le, nn_nle, nn_ne, nn_sub, nn_mul, nI_add, nn_neg, nm_eq, mn_eq, mm_eq, mn_lt, nm_lt, mn_le, nm_le, nn_sub0, nn_of, implies_true, nn_c, nn_in, nn_div, nat_rem, Nat.reduceMul, Nat.reduceSub, Nat.reduceDiv, Nat.reduceMod, pf_at, pf_ne, mk_s, mk_1, Classical.not_not, b2i_T, b2i_F, false_imp_iff, true_imp_iff, false_and, and_false, p_sw, Int.reduceAdd, Int.zero_add, Option.some.injEq, Value.int.injEq, Value.long.injEq, Value.ref.injEq, exists_eq_left', mk_I, mk_L, mk_wI, mk_wL, rf_s, rf_n, true_and, and_true, and_self, or_true, true_or, or_false, false_or, not_true_eq_false, not_false_eq_true, Option.toList_some, Option.toList_none, List.cons_append, List.nil_append, List.map_nil, List.map_cons, List.sum_nil, List.sum_cons, cat_i, cat_l, cat_r, cat_n, Nat.reduceLeDiff, Nat.reduceAdd, Nat.reduceEqDiff, Nat.zero_le, p_ent, p_u_ne, p_u_at, reduceIte, if_true, if_false, j13, P_ce s1]
  refine p_run_Q cl ?_
  rintro _ _ ⟨rfl, rfl⟩
  refine ⟨-5, rfl, ?_⟩
  have rf : P_m (d + 60) 181 [.ref 123] (p_mk Ls F L R X) (fun v h' => v = some (.int (-5)) ∧ h' = p_mk Ls (p_u (p_u (p_u F 123 13 (nI 0)) 123 0 (-5)) 124 5 (p_u F 123 13 (nI 0) 124 5 + 1)) L R X) := by
    simp -implicitDefEqProofs (disch := first | omega | decide) only [P_m, ↓P_run_eq _ 181 _ (p_bk 181 0), bk_181_0, pb_181_0, pw_aload_n0, pw_aloadN_n0, pw_getR, pw_bipush, bl_55, pw_iald, bl_6, pw_cne, pw_iconst, il_0, pw_putI, bl_m5, pw_iv2, pw_ret0, kd_123, rf_123_1, rf_123_2, rf_123_3, rf_123_4, rf_123_5, rf_123_7, rf_123_11, rf_123_12, rf_123_15, rf_123_16, rf_123_17, rf_123_26, rf_123_29, rf_123_30, rf_123_32, rf_123_34, rf_123_35, rf_123_45, kd_125, n_0, n_1, n_6, n_55, nn_lt, nn_nlt, nn_le, nn_nle, nn_ne, nn_sub, nn_mul, nI_add, nn_neg, nm_eq, mn_eq, mm_eq, mn_lt, nm_lt, mn_le, nm_le, nn_sub0, nn_of, implies_true, nn_c, nn_in, nn_div, nat_rem, Nat.reduceMul, Nat.reduceSub, Nat.reduceDiv, Nat.reduceMod, pf_at, pf_ne, mk_s, mk_1, Classical.not_not, b2i_T, b2i_F, false_imp_iff, true_imp_iff, false_and, and_false, p_sw, Int.reduceAdd, Int.zero_add, Option.some.injEq, Value.int.injEq, Value.long.injEq, Value.ref.injEq, exists_eq_left', mk_I, mk_L, mk_wI, mk_wL, rf_s, rf_n, true_and, and_true, and_self, or_true, true_or, or_false, false_or, not_true_eq_false, not_false_eq_true, Option.toList_some, Option.toList_none, List.cons_append, List.nil_append, List.map_nil, List.map_cons, List.sum_nil, List.sum_cons, cat_i, cat_l, cat_r, cat_n, Nat.reduceLeDiff, Nat.reduceAdd, Nat.reduceEqDiff, Nat.zero_le, p_ent, p_u_ne, p_u_at, reduceIte, if_true, if_false, k55, P_ce s2]
  refine p_run_Q rf ?_
  rintro _ _ ⟨rfl, rfl⟩
  refine ⟨rfl, _, _, _, _, rfl, ?_⟩
  have E : p_u (p_u (p_u F 123 13 (nI 0)) 123 0 (-5)) 124 5 (p_u F 123 13 (nI 0) 124 5 + 1) = p_u (p_u (p_u (p_u (p_u (p_u I 33 1 (nI 0)) 123 13 (nI 0)) 32 14 (-5)) 122 5 (p_u (p_u I 33 1 (nI 0)) 123 13 (nI 0) 122 5 + 1)) 123 0 (-5)) 124 5 (p_u (p_u I 33 1 (nI 0)) 123 13 (nI 0) 124 5 + 1) := by
    have c1 : p_u (p_u I 33 1 (nI 0)) 123 13 (nI 0) 122 5 = p_u I 33 1 (nI 0) 122 5 := by rw [p_u_ne (by omega)]
    have c2 : p_u F 123 13 (nI 0) 124 5 = p_u (p_u I 33 1 (nI 0)) 123 13 (nI 0) 124 5 := by rw [← hF, p_u_ne (by omega), p_u_ne (by omega), p_u_ne (by omega), p_u_ne (by omega), p_u_ne (by omega), p_u_ne (by omega)]
    rw [c2, c1, ← hF, pu_cm (show ¬ 122 = 123 by omega), pu_cm (show ¬ 32 = 123 by omega)]
  rw [E]
  exact H2
/-- what both leave of a text that is no law: the invariant -/
theorem law_invF {J1 J2 : Nat → Nat → Int32} {f : Int32} (H : Inv I R X) (f1 : ∀ a, a < 35 ∨ 43 < a → J1 a = I a) (f2 : frRd (p_u (p_u (p_u (p_u J1 32 15 f) 33 1 (nI 0)) 32 14 (-6)) 122 6 (I 122 6 + 1)) J2) (e13 : J2 123 13 = nI 0) (e14 : J2 123 14 = f) : Inv (p_u (p_u J2 123 0 (-6)) 124 6 (J2 124 6 + 1)) (rdR R) X := by
  obtain ⟨B, T, hT, t1, t2, -⟩ := inv_B H
  have le0 : nI 0 ≤ I 33 1 := by rw [t1, Int32.le_iff_toInt_le, nI_toInt (by omega), nI_toInt (by omega)]; omega
  have H2 := inv_no (-6) 6 (by decide) (inv_flt (f := f) (inv_end (n := nI 0) H (by decide) le0))
  have g : ∀ a, ¬ a = 123 → ¬ a = 132 → ¬ a = 133 → ¬ a = 134 → J2 a = p_u (p_u (p_u (p_u J1 32 15 f) 33 1 (nI 0)) 32 14 (-6)) 122 6 (I 122 6 + 1) a := f2.1
  have ga : ∀ a, ¬ a = 32 → ¬ a = 33 → ¬ a = 122 → ¬ a = 123 → ¬ a = 132 → ¬ a = 133 → ¬ a = 134 → (a < 35 ∨ 43 < a) → J2 a = I a := fun a a1 a2 a3 a4 a5 a6 a7 a8 => by
    rw [g a a4 a5 a6 a7, p_u_ne a3, p_u_ne a1, p_u_ne a2, p_u_ne a1]; exact f1 a a8
  refine Inv_R (Inv_sc H2 (fun a ha => ?_) (fun k hk => ?_) (fun k hk => ?_)) (fun a ha => rdR_ne (by omega))
  · by_cases a124 : a = 124
    · subst a124
      funext j
      have e : J2 124 = I 124 := ga 124 (by omega) (by omega) (by omega) (by omega) (by omega) (by omega) (by omega) (by omega)
      have x1 : p_u (p_u (p_u (p_u I 33 1 (nI 0)) 123 13 (nI 0)) 32 15 f) 123 14 f 124 = I 124 := by rw [p_u_ne (by omega), p_u_ne (by omega), p_u_ne (by omega), p_u_ne (by omega)]
      have y1 : p_u J2 123 0 (-6) 124 = I 124 := by rw [p_u_ne (by omega)]; exact e
      have y2 : ∀ c, p_u (p_u (p_u (p_u (p_u (p_u (p_u I 33 1 (nI 0)) 123 13 (nI 0)) 32 15 f) 123 14 f) 32 14 (-6)) 122 6 c) 123 0 (-6) 124 = I 124 := fun c => by rw [p_u_ne (by omega), p_u_ne (by omega), p_u_ne (by omega)]; exact x1
      rw [p_u_at, p_u_at, y1, y2, x1, e]
    · have a123 : ¬ a = 123 := by unfold kcell at ha; omega
      have a32 : ¬ a = 32 := by unfold kcell at ha; omega
      rw [p_u_ne a124, p_u_ne a123, p_u_ne a124, p_u_ne a123]
      by_cases a122 : a = 122
      · subst a122
        funext j
        rw [g 122 (by omega) (by omega) (by omega) (by omega), p_u_at, p_u_at]
        rw [p_u_ne (show ¬ 122 = 32 by omega), p_u_ne (show ¬ 122 = 33 by omega), p_u_ne (show ¬ 122 = 32 by omega), f1 122 (by omega), p_u_ne (show ¬ 122 = 32 by omega), p_u_ne (show ¬ 122 = 123 by omega), p_u_ne (show ¬ 122 = 32 by omega), p_u_ne (show ¬ 122 = 123 by omega), p_u_ne (show ¬ 122 = 33 by omega)]
      · rw [p_u_ne a122, p_u_ne a32, p_u_ne a123, p_u_ne a32, p_u_ne a123]
        by_cases a33 : a = 33
        · subst a33
          funext j
          rw [g 33 (by omega) (by omega) (by omega) (by omega), p_u_ne (show ¬ 33 = 122 by omega), p_u_ne (show ¬ 33 = 32 by omega), p_u_at, p_u_ne (show ¬ 33 = 32 by omega), f1 33 (by omega), p_u_at]
        · rw [p_u_ne a33]
          exact ga a a32 a33 a122 a123 (by unfold kcell at ha; omega) (by unfold kcell at ha; omega) (by unfold kcell at ha; omega) (by unfold kcell at ha; omega)
  · rw [p_u_ne (show ¬ 32 = 124 by omega), p_u_ne (show ¬ 32 = 123 by omega), g 32 (by omega) (by omega) (by omega) (by omega), p_u_ne (show ¬ 32 = 122 by omega), p_u_at, p_u_ne (show ¬ 32 = 33 by omega), p_u_at, f1 32 (by omega)]
    rw [p_u_ne (show ¬ 32 = 124 by omega), p_u_ne (show ¬ 32 = 123 by omega), p_u_ne (show ¬ 32 = 122 by omega), p_u_at, p_u_ne (show ¬ 32 = 123 by omega), p_u_at, p_u_ne (show ¬ 32 = 123 by omega), p_u_ne (show ¬ 32 = 33 by omega)]
  · rw [p_u_ne (show ¬ 123 = 124 by omega), p_u_at, p_u_ne (show ¬ 123 = 124 by omega), p_u_at]
    by_cases k0 : k = 0
    · rw [if_pos k0, if_pos k0]
    · rw [if_neg k0, if_neg k0, p_u_ne (show ¬ 123 = 122 by omega), p_u_ne (show ¬ 123 = 32 by omega), p_u_at]
      by_cases k14 : k = 14
      · rw [if_pos k14, k14]; exact e14
      · rw [if_neg k14, p_u_ne (show ¬ 123 = 32 by omega), p_u_at]
        by_cases k13 : k = 13
        · rw [if_pos k13, k13]; exact e13
        · rw [if_neg k13, p_u_ne (show ¬ 123 = 33 by omega), f2.2 k (by omega) (by omega) (by omega) k13 k14 (by omega) (by omega) (by omega) (by omega), p_u_ne (show ¬ 123 = 122 by omega), p_u_ne (show ¬ 123 = 32 by omega), p_u_ne (show ¬ 123 = 33 by omega), p_u_ne (show ¬ 123 = 32 by omega), f1 123 (by omega)]
/-- a text that is no law -/
theorem law_bad {B : Nat → Nat} {T N e : Nat} (H : Inv I R X) (h6 : kn (I 125) 55 < 6) (hT : T ≤ 400) (t1 : I 33 1 = nI T) (t2 : I 123 13 = nI T) (hB : ∀ k, k < T → I 34 k = nI (B k) ∧ B k < 256) (hM : mB B T I) (hN : tkN B T N) (hr : RX false (tC B T) (tV B T) N 0 0 0 0 [] = some (.error e)) : Same (d + 60) 90 181 [] Ls (p_mk Ls I L R X) := by
  have hV := H.2.2.2.2.2.2.2
  have e55 := kn_e hV (j := 55) (by omega) (by omega) (by omega)
  have j13 : I 71 13 = nI (kn (I 125) 55) := by rw [(hutR_at H.2.2.2.2.2.2.1.1).1.2.2.2.2.2.2.1, e55.1]
  obtain ⟨J1, f1, s58⟩ := pl_58 (x := d + 3) (Ls := Ls) (L := L) (R := R) (X := X) (inv_S H) t1 hT hB hN hr
  have f1 : ∀ a, a < 35 ∨ 43 < a → J1 a = I a := f1
  have tb := tS_b (B := B) (T := T) e
  replace s58 : P_m (d + 59) 58 [.ref 35, .ref 33, .int (nI 0)] (p_mk Ls I L R X) (fun v h' => v = some (.int (nI (tS B T e))) ∧ h' = p_mk Ls J1 L (rdR R) X) := s58
  have s6 := rc_6 (d := d + 59) (Ls := Ls) (I := p_u (p_u J1 32 15 (nI (tS B T e))) 33 1 (nI 0)) (L := L) (R := rdR R) (X := X)
  have c122 : p_u (p_u J1 32 15 (nI (tS B T e))) 33 1 (nI 0) 122 6 = I 122 6 := by rw [p_u_ne (by omega), p_u_ne (by omega), f1 122 (by omega)]
  rw [c122] at s6
  have e15 : p_u (p_u J1 32 15 (nI (tS B T e))) 33 1 (nI 0) 32 15 = nI (tS B T e) := by rw [p_u_ne (by omega), p_u_at, if_pos rfl]
  have gF : ∀ a, ¬ a = 32 → ¬ a = 33 → ¬ a = 122 → (a < 35 ∨ 43 < a) → p_u (p_u (p_u (p_u J1 32 15 (nI (tS B T e))) 33 1 (nI 0)) 32 14 (-6)) 122 6 (I 122 6 + 1) a = I a := fun a a1 a2 a3 a4 => by rw [p_u_ne a3, p_u_ne a1, p_u_ne a2, p_u_ne a1]; exact f1 a a4
  obtain ⟨J2, ⟨f2, g13, g14, -, -⟩, s179⟩ := pl_179 (x := d + 22) (Ls := Ls) (I := p_u (p_u (p_u (p_u J1 32 15 (nI (tS B T e))) 33 1 (nI 0)) 32 14 (-6)) 122 6 (I 122 6 + 1)) (L := L) (R := rdR R) (X := X) (o := false) ⟨hM.1, fun k hk => by rw [gF 130 (by omega) (by omega) (by omega) (by omega)]; exact hM.2.1 k hk, by rw [gF 129 (by omega) (by omega) (by omega) (by omega)]; exact hM.2.2⟩ hN (by rw [gF 123 (by omega) (by omega) (by omega) (by omega)]; exact t2) hr
  have hI := law_invF H f1 f2 g13 g14
  have k55 : p_u (p_u (p_u (p_u J1 32 15 (nI (tS B T e))) 33 1 (nI 0)) 32 14 (-6)) 122 6 (I 122 6 + 1) 125 55 = nI (kn (I 125) 55) := by rw [gF 125 (by omega) (by omega) (by omega) (by omega)]; exact e55.1
  have s7 := rm_6 (d := d + 59) (Ls := Ls) (I := J2) (L := L) (R := rdR R) (X := X)
  replace s179 : P_m (d + 59) 179 [.ref 123, .int (nI 0)] (p_mk Ls (p_u (p_u (p_u (p_u J1 32 15 (nI (tS B T e))) 33 1 (nI 0)) 32 14 (-6)) 122 6 (I 122 6 + 1)) L (rdR R) X) (fun v h' => v = some (.int (nI 0)) ∧ h' = p_mk Ls J2 L (rdR R) X) := s179
  clear f2 g13 g14 gF c122
  generalize hF : p_u (p_u (p_u (p_u J1 32 15 (nI (tS B T e))) 33 1 (nI 0)) 32 14 (-6)) 122 6 (I 122 6 + 1) = F at *
  generalize hG : p_u (p_u J1 32 15 (nI (tS B T e))) 33 1 (nI 0) = G at *
  generalize tS B T e = p at *
  generalize kn (I 125) 55 = c5 at *
  generalize rdR R = RR at *
  have m6 : (-6 : Int32) = mI 6 := rfl
  have n1 : (1 : Int32) = nI 1 := rfl
  rw [m6] at s6 s7
  rw [n1] at s7
  have cl : P_m (d + 60) 90 [.ref 32] (p_mk Ls I L R X) (fun v h' => v = some (.int (-6)) ∧ h' = p_mk Ls F L RR X) := by
    simp -implicitDefEqProofs (disch := first | omega | decide) only [P_m, ↓P_run_eq _ 90 _ (p_bk 90 0), bk_90_0, pb_90_0, ↓P_run_eq _ 90 _ (p_bk 90 1), bk_90_1, pb_90_1, pw_aload_n0, pw_aloadN_n0, pw_getR, pw_getI, pw_bipush, bl_6, pw_clt, pw_iconst, il_0, pw_putI, bl_m5, pw_iv2, pw_ret0, pw_iv3, il_m1, pw_ceq, bl_m6, kd_32, rf_32_0, rf_32_1, rf_32_2, rf_32_3, rf_32_4, rf_32_5, rf_32_6, rf_32_7, rf_32_8, rf_32_9, rf_32_11, rf_32_12, rf_32_13, kd_33, rf_33_0, kd_35, rf_35_0, rf_35_1, kd_71, rf_71_1, rf_71_3, rf_71_4, rf_71_5, rf_71_6, rf_71_11, rf_71_12, rf_71_14, n_0, n_1, n_6, nn_lt, nn_nlt, nn_le, nn_nle, nn_ne, nn_sub, nn_mul, nI_add, nn_neg, nm_eq, mn_eq, mm_eq, mn_lt, nm_lt, mn_le, nm_le, nn_sub0, nn_of, implies_true, nn_c, nn_in, nn_div, nat_rem, Nat.reduceMul, Nat.reduceSub, Nat.reduceDiv, Nat.reduceMod, pf_at, pf_ne, mk_s, mk_1, Classical.not_not, b2i_T, b2i_F, false_imp_iff, true_imp_iff, false_and, and_false, p_sw, Int.reduceAdd, Int.zero_add, Option.some.injEq, Value.int.injEq, Value.long.injEq, Value.ref.injEq, exists_eq_left', mk_I, mk_L, mk_wI, mk_wL, rf_s, rf_n, true_and, and_true, and_self, or_true, true_or, or_false, false_or, not_true_eq_false, not_false_eq_true, Option.toList_some, Option.toList_none, List.cons_append, List.nil_append, List.map_nil, List.map_cons, List.sum_nil, List.sum_cons, cat_i, cat_l, cat_r, cat_n, Nat.reduceLeDiff, Nat.reduceAdd, Nat.reduceEqDiff, Nat.zero_le, p_ent, p_u_ne, p_u_at, reduceIte, if_true, if_false, j13, hG, e15, P_ce s58, P_ce s6]
  unfold Same
  refine p_run_Q cl ?_
  rintro _ _ ⟨rfl, rfl⟩
  refine ⟨-6, rfl, ?_⟩
  have rf : P_m (d + 60) 181 [.ref 123] (p_mk Ls F L RR X) (fun v h' => v = some (.int (-6)) ∧ h' = p_mk Ls (p_u (p_u J2 123 0 (-6)) 124 6 (J2 124 6 + 1)) L RR X) := by
    simp -implicitDefEqProofs (disch := first | omega | decide) only [P_m, ↓P_run_eq _ 181 _ (p_bk 181 0), bk_181_0, pb_181_0, ↓P_run_eq _ 181 _ (p_bk 181 1), bk_181_1, pb_181_1, pw_aload_n0, pw_aloadN_n0, pw_getR, pw_bipush, bl_55, pw_iald, bl_6, pw_cne, pw_iconst, il_0, pw_putI, bl_m5, pw_iv2, pw_ret0, pw_zne, bl_m6, kd_123, rf_123_1, rf_123_2, rf_123_3, rf_123_4, rf_123_5, rf_123_7, rf_123_11, rf_123_12, rf_123_15, rf_123_16, rf_123_17, rf_123_26, rf_123_29, rf_123_30, rf_123_32, rf_123_34, rf_123_35, rf_123_45, kd_125, n_0, n_1, n_6, n_55, nn_lt, nn_nlt, nn_le, nn_nle, nn_ne, nn_sub, nn_mul, nI_add, nn_neg, nm_eq, mn_eq, mm_eq, mn_lt, nm_lt, mn_le, nm_le, nn_sub0, nn_of, implies_true, nn_c, nn_in, nn_div, nat_rem, Nat.reduceMul, Nat.reduceSub, Nat.reduceDiv, Nat.reduceMod, pf_at, pf_ne, mk_s, mk_1, Classical.not_not, b2i_T, b2i_F, false_imp_iff, true_imp_iff, false_and, and_false, p_sw, Int.reduceAdd, Int.zero_add, Option.some.injEq, Value.int.injEq, Value.long.injEq, Value.ref.injEq, exists_eq_left', mk_I, mk_L, mk_wI, mk_wL, rf_s, rf_n, true_and, and_true, and_self, or_true, true_or, or_false, false_or, not_true_eq_false, not_false_eq_true, Option.toList_some, Option.toList_none, List.cons_append, List.nil_append, List.map_nil, List.map_cons, List.sum_nil, List.sum_cons, cat_i, cat_l, cat_r, cat_n, Nat.reduceLeDiff, Nat.reduceAdd, Nat.reduceEqDiff, Nat.zero_le, p_ent, p_u_ne, p_u_at, reduceIte, if_true, if_false, k55, P_ce s179, P_ce s7]
  refine p_run_Q rf ?_
  rintro _ _ ⟨rfl, rfl⟩
  exact ⟨rfl, _, _, _, _, rfl, hI⟩
end LW
