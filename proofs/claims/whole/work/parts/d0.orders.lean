/-! ORDERS -/
section OO
variable {d Ls : Nat} {I : Nat → Nat → Int32} {L : Nat → Nat → Int64} {R : Nat → Nat → Option Nat} {X : List pKd}
theorem inv_stp {f : Int32} (H : Inv I R X) : Inv (p_u (p_u I 32 16 f) 123 37 f) R X := by
  have H' := H
  obtain ⟨h1, h2, h3, h4, h5, h6, h7, h8⟩ := H
  have e : ∀ a, ¬ a = 32 → ¬ a = 123 → p_u (p_u I 32 16 f) 123 37 f a = I a := fun a a1 a2 => by rw [p_u_ne a2, p_u_ne a1]
  have e32 : ∀ k, ¬ k = 16 → p_u (p_u I 32 16 f) 123 37 f 32 k = I 32 k := fun k hk => by rw [p_u_ne (by omega), p_u_at, if_neg hk]
  have e123 : ∀ k, ¬ k = 37 → p_u (p_u I 32 16 f) 123 37 f 123 k = I 123 k := fun k hk => by rw [p_u_at, if_neg hk, p_u_ne (by omega)]
  have f1 : p_u (p_u I 32 16 f) 123 37 f 32 16 = f := by rw [p_u_ne (by omega), p_u_at, if_pos rfl]
  have f2 : p_u (p_u I 32 16 f) 123 37 f 123 37 = f := by rw [p_u_at, if_pos rfl]
  refine Inv_mv2 H' (fun a ha => e a (by unfold kcell at ha; omega) (by unfold kcell at ha; omega)) (e32 10 (by omega)) (e123 46 (by omega)) (e123 13 (by omega)) ?_ ?_ ?_ ?_ ?_ ?_
  · unfold invC
    rw [e 122 (by omega) (by omega), e 124 (by omega) (by omega), e32 14 (by omega), e123 0 (by omega), f1, f2, e32 15 (by omega), e123 14 (by omega), e32 17 (by omega), e123 6 (by omega)]
    exact ⟨h2.1, h2.2.1, h2.2.2.1, rfl, h2.2.2.2.2⟩
  · unfold invU
    rw [e 80 (by omega) (by omega), e123 31 (by omega), e 81 (by omega) (by omega), e 136 (by omega) (by omega), e 125 (by omega) (by omega)]
    exact h4
  · rw [e 125 (by omega) (by omega)]
    exact hutR_f h7.1 (fun b b1 b2 => e b (by omega) (by omega))
  · rw [e 125 (by omega) (by omega)]; exact h8
  · intro k _ _; rw [e 125 (by omega) (by omega)]
  · rw [e 125 (by omega) (by omega)]
/-- a text that is no orders -/
theorem orders_bad {B : Nat → Nat} {T N e : Nat} (H : Inv I R X) (hT : T ≤ 400) (t1 : I 33 1 = nI T) (t2 : I 123 13 = nI T) (hB : ∀ k, k < T → I 34 k = nI (B k) ∧ B k < 256) (hM : mB B T I) (hN : tkN B T N) (hr : RX true (tC B T) (tV B T) N 0 0 0 0 [] = some (.error e)) : Same (d + 60) 91 253 [] Ls (p_mk Ls I L R X) := by
  have H2 := inv_stp (f := mI 1) H
  have iS : invS (p_u I 32 16 (mI 1)) := invS_fr (inv_S H) (fun a ha => p_u_ne (by omega))
  obtain ⟨J1, f1, s58⟩ := pl_58 (x := d + 3) (Ls := Ls) (I := p_u I 32 16 (mI 1)) (L := L) (R := R) (X := X) iS (by rw [p_u_ne (by omega)]; exact t1) hT (fun k hk => by rw [p_u_ne (by omega)]; exact hB k hk) hN hr
  have f1 : ∀ a, a < 35 ∨ 43 < a → J1 a = p_u I 32 16 (mI 1) a := f1
  have tb := tS_b (B := B) (T := T) e
  replace s58 : P_m (d + 59) 58 [.ref 35, .ref 33, .int (nI 1)] (p_mk Ls (p_u I 32 16 (mI 1)) L R X) (fun v h' => v = some (.int (nI (tS B T e))) ∧ h' = p_mk Ls J1 L (rdR R) X) := s58
  have s6 := rc_6 (d := d + 59) (Ls := Ls) (I := p_u (p_u J1 32 15 (nI (tS B T e))) 33 1 (nI 0)) (L := L) (R := rdR R) (X := X)
  have c122 : p_u (p_u J1 32 15 (nI (tS B T e))) 33 1 (nI 0) 122 6 = I 122 6 := by rw [p_u_ne (by omega), p_u_ne (by omega), f1 122 (by omega), p_u_ne (by omega)]
  rw [c122] at s6
  have e15 : p_u (p_u J1 32 15 (nI (tS B T e))) 33 1 (nI 0) 32 15 = nI (tS B T e) := by rw [p_u_ne (by omega), p_u_at, if_pos rfl]
  have f1' : ∀ a, a < 35 ∨ 43 < a → p_u J1 123 37 (mI 1) a = p_u (p_u I 32 16 (mI 1)) 123 37 (mI 1) a := fun a ha => by
    by_cases ea : a = 123
    · subst ea
      funext j
      rw [p_u_at, p_u_at, f1 123 (by omega)]
    · rw [p_u_ne ea, p_u_ne ea]; exact f1 a ha
  have i122 : p_u (p_u I 32 16 (mI 1)) 123 37 (mI 1) 122 6 = I 122 6 := by rw [p_u_ne (by omega), p_u_ne (by omega)]
  have gF : ∀ a, ¬ a = 32 → ¬ a = 33 → ¬ a = 122 → ¬ a = 123 → (a < 35 ∨ 43 < a) → p_u (p_u (p_u (p_u (p_u J1 123 37 (mI 1)) 32 15 (nI (tS B T e))) 33 1 (nI 0)) 32 14 (-6)) 122 6 (I 122 6 + 1) a = I a := fun a a1 a2 a3 a4 a5 => by rw [p_u_ne a3, p_u_ne a1, p_u_ne a2, p_u_ne a1, f1' a a5, p_u_ne a4, p_u_ne a1]
  have g13' : p_u (p_u (p_u (p_u (p_u J1 123 37 (mI 1)) 32 15 (nI (tS B T e))) 33 1 (nI 0)) 32 14 (-6)) 122 6 (I 122 6 + 1) 123 13 = nI T := by rw [p_u_ne (by omega), p_u_ne (by omega), p_u_ne (by omega), p_u_ne (by omega), f1' 123 (by omega), p_u_at, if_neg (by omega), p_u_ne (by omega)]; exact t2
  obtain ⟨J2, ⟨f2, g13, g14, -, -⟩, s179⟩ := pl_179 (x := d + 22) (Ls := Ls) (I := p_u (p_u (p_u (p_u (p_u J1 123 37 (mI 1)) 32 15 (nI (tS B T e))) 33 1 (nI 0)) 32 14 (-6)) 122 6 (I 122 6 + 1)) (L := L) (R := rdR R) (X := X) (o := true) ⟨hM.1, fun k hk => by rw [gF 130 (by omega) (by omega) (by omega) (by omega) (by omega)]; exact hM.2.1 k hk, by rw [gF 129 (by omega) (by omega) (by omega) (by omega) (by omega)]; exact hM.2.2⟩ hN g13' hr
  have hI := law_invF (J1 := p_u J1 123 37 (mI 1)) (J2 := J2) (f := nI (tS B T e)) H2 f1' (by rw [i122]; exact f2) g13 g14
  have s7 := rm_6 (d := d + 59) (Ls := Ls) (I := J2) (L := L) (R := rdR R) (X := X)
  replace s179 : P_m (d + 59) 179 [.ref 123, .int (nI 1)] (p_mk Ls (p_u (p_u (p_u (p_u (p_u J1 123 37 (mI 1)) 32 15 (nI (tS B T e))) 33 1 (nI 0)) 32 14 (-6)) 122 6 (I 122 6 + 1)) L (rdR R) X) (fun v h' => v = some (.int (nI 0)) ∧ h' = p_mk Ls J2 L (rdR R) X) := s179
  have eF : p_u (p_u (p_u (p_u (p_u J1 32 15 (nI (tS B T e))) 33 1 (nI 0)) 32 14 (-6)) 122 6 (I 122 6 + 1)) 123 37 (mI 1) = p_u (p_u (p_u (p_u (p_u J1 123 37 (mI 1)) 32 15 (nI (tS B T e))) 33 1 (nI 0)) 32 14 (-6)) 122 6 (I 122 6 + 1) := by
    rw [pu_cm (show ¬ 122 = 123 by omega), pu_cm (show ¬ 32 = 123 by omega), pu_cm (show ¬ 33 = 123 by omega), pu_cm (show ¬ 32 = 123 by omega)]
  rw [← eF] at s179
  clear f2 g13 g14 gF c122 g13' f1' eF i122
  generalize hF : p_u (p_u (p_u (p_u J1 32 15 (nI (tS B T e))) 33 1 (nI 0)) 32 14 (-6)) 122 6 (I 122 6 + 1) = F at *
  generalize hG : p_u (p_u J1 32 15 (nI (tS B T e))) 33 1 (nI 0) = G at *
  generalize tS B T e = p at *
  generalize rdR R = RR at *
  have n1 : (1 : Int32) = nI 1 := rfl
  rw [n1] at s7
  have cl : P_m (d + 60) 91 [.ref 32] (p_mk Ls I L R X) (fun v h' => v = some (.int (-6)) ∧ h' = p_mk Ls F L RR X) := by
    simp -implicitDefEqProofs (disch := first | omega | decide) only [P_m, ↓P_run_eq _ 91 _ (p_bk 91 0), bk_91_0, pb_91_0, pw_aload_n0, pw_aloadN_n0, pw_iconst, il_m1, pw_putI, pw_getR, il_1, pw_iv3, il_0, pw_getI, pw_ceq, pw_bipush, bl_m6, pw_iv2, pw_ret0, kd_32, rf_32_0, rf_32_1, rf_32_2, rf_32_3, rf_32_4, rf_32_5, rf_32_6, rf_32_7, rf_32_8, rf_32_9, rf_32_11, rf_32_12, rf_32_13, kd_33, rf_33_0, kd_35, rf_35_0, rf_35_1, n_0, n_1, nn_lt, nn_nlt, nn_le, nn_nle, nn_ne, nn_sub, nn_mul, nI_add, nn_neg, nm_eq, mn_eq, mm_eq, mn_lt, nm_lt, mn_le, nm_le, nn_sub0, nn_of, implies_true, nn_c, nn_in, nn_div, nat_rem, Nat.reduceMul, Nat.reduceSub, Nat.reduceDiv, Nat.reduceMod, pf_at, pf_ne, mk_s, mk_1, Classical.not_not, b2i_T, b2i_F, false_imp_iff, true_imp_iff, false_and, and_false, p_sw, Int.reduceAdd, Int.zero_add, Option.some.injEq, Value.int.injEq, Value.long.injEq, Value.ref.injEq, exists_eq_left', mk_I, mk_L, mk_wI, mk_wL, rf_s, rf_n, true_and, and_true, and_self, or_true, true_or, or_false, false_or, not_true_eq_false, not_false_eq_true, Option.toList_some, Option.toList_none, List.cons_append, List.nil_append, List.map_nil, List.map_cons, List.sum_nil, List.sum_cons, cat_i, cat_l, cat_r, cat_n, Nat.reduceLeDiff, Nat.reduceAdd, Nat.reduceEqDiff, Nat.zero_le, p_ent, p_u_ne, p_u_at, reduceIte, if_true, if_false, hG, e15, P_ce s58, P_ce s6]
  unfold Same
  refine p_run_Q cl ?_
  rintro _ _ ⟨rfl, rfl⟩
  refine ⟨-6, rfl, ?_⟩
  have rf : P_m (d + 60) 253 [.ref 123] (p_mk Ls F L RR X) (fun v h' => v = some (.int (-6)) ∧ h' = p_mk Ls (p_u (p_u J2 123 0 (-6)) 124 6 (J2 124 6 + 1)) L RR X) := by
    simp -implicitDefEqProofs (disch := first | omega | decide) only [P_m, ↓P_run_eq _ 253 _ (p_bk 253 0), bk_253_0, pb_253_0, pw_aload_n0, pw_aloadN_n0, pw_iconst, il_m1, pw_putI, il_1, pw_iv2, pw_zne, pw_bipush, bl_m6, pw_ret0, kd_123, rf_123_1, rf_123_2, rf_123_3, rf_123_4, rf_123_5, rf_123_7, rf_123_11, rf_123_12, rf_123_15, rf_123_16, rf_123_17, rf_123_26, rf_123_29, rf_123_30, rf_123_32, rf_123_34, rf_123_35, rf_123_45, n_0, n_1, nn_lt, nn_nlt, nn_le, nn_nle, nn_ne, nn_sub, nn_mul, nI_add, nn_neg, nm_eq, mn_eq, mm_eq, mn_lt, nm_lt, mn_le, nm_le, nn_sub0, nn_of, implies_true, nn_c, nn_in, nn_div, nat_rem, Nat.reduceMul, Nat.reduceSub, Nat.reduceDiv, Nat.reduceMod, pf_at, pf_ne, mk_s, mk_1, Classical.not_not, b2i_T, b2i_F, false_imp_iff, true_imp_iff, false_and, and_false, p_sw, Int.reduceAdd, Int.zero_add, Option.some.injEq, Value.int.injEq, Value.long.injEq, Value.ref.injEq, exists_eq_left', mk_I, mk_L, mk_wI, mk_wL, rf_s, rf_n, true_and, and_true, and_self, or_true, true_or, or_false, false_or, not_true_eq_false, not_false_eq_true, Option.toList_some, Option.toList_none, List.cons_append, List.nil_append, List.map_nil, List.map_cons, List.sum_nil, List.sum_cons, cat_i, cat_l, cat_r, cat_n, Nat.reduceLeDiff, Nat.reduceAdd, Nat.reduceEqDiff, Nat.zero_le, p_ent, p_u_ne, p_u_at, reduceIte, if_true, if_false, P_ce s179, P_ce s7]
  refine p_run_Q rf ?_
  rintro _ _ ⟨rfl, rfl⟩
  exact ⟨rfl, _, _, _, _, rfl, hI⟩
end OO
