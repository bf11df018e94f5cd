section LP
variable {d Ls : Nat} {I : Nat → Nat → Int32} {L : Nat → Nat → Int64} {R : Nat → Nat → Option Nat} {X : List pKd}
/-- a law -/
theorem law_ok {B : Nat → Nat} {T N : Nat} {CL : List tCl} (H : Inv I R X) (h6 : kn (I 125) 55 < 6) (hT : T ≤ 400) (t1 : I 33 1 = nI T) (t2 : I 123 13 = nI T) (hB : ∀ k, k < T → I 34 k = nI (B k) ∧ B k < 256) (hM : mB B T I) (hN : tkN B T N) (hr : RX false (tC B T) (tV B T) N 0 0 0 0 [] = some (.ok CL)) : SameA (d + 60) 90 181 [] Ls (p_mk Ls I L R X) := by
  have hV := H.2.2.2.2.2.2.2
  have e55 := kn_e hV (j := 55) (by omega) (by omega) (by omega)
  have j13 : I 71 13 = nI (kn (I 125) 55) := by rw [(hutR_at H.2.2.2.2.2.2.1.1).1.2.2.2.2.2.2.1, e55.1]
  have pg := pX_g (o := false) (C := tC B T) (V := tV B T) (T := N) 2200 0 0 0 0 [] CL (by omega) rfl (by omega) rfl (Nat.le_refl 0) (fun j cl hj => by cases hj) hr
  have N4 : N ≤ 400 := by have := hN.1; omega
  have D4 : (clCode CL).length ≤ 400 := by rw [clCode_len]; omega
  have m12 := pg.2.2.1
  obtain ⟨J1, ⟨f1, tx1⟩, s58⟩ := pl_58 (x := d + 3) (Ls := Ls) (L := L) (R := R) (X := X) (inv_S H) t1 hT hB hN hr
  replace s58 : P_m (d + 59) 58 [.ref 35, .ref 33, .int (nI 0)] (p_mk Ls I L R X) (fun v h' => v = some (.int (mI 1)) ∧ h' = p_mk Ls J1 L (rdR R) X) := s58
  have e15 : p_u (p_u J1 32 15 (mI 1)) 33 1 (nI 0) 32 15 = mI 1 := by rw [p_u_ne (by omega), p_u_at, if_pos rfl]
  have gG : ∀ a, ¬ a = 32 → ¬ a = 33 → p_u (p_u J1 32 15 (mI 1)) 33 1 (nI 0) a = J1 a := fun a a1 a2 => by rw [p_u_ne a2, p_u_ne a1]
  have txG : txC (p_u (p_u J1 32 15 (mI 1)) 33 1 (nI 0)) CL := by
    unfold txC txA at *
    rw [gG 36 (by omega) (by omega), gG 37 (by omega) (by omega), gG 38 (by omega) (by omega), gG 39 (by omega) (by omega), gG 40 (by omega) (by omega), gG 41 (by omega) (by omega), gG 42 (by omega) (by omega), gG 43 (by omega) (by omega)]
    exact tx1
  have g71 : p_u (p_u J1 32 15 (mI 1)) 33 1 (nI 0) 71 13 = nI (kn (I 125) 55) := by rw [gG 71 (by omega) (by omega), f1 71 (by omega)]; exact j13
  have a76 := al_76 (d := d + 58) (Ls := Ls) (L := L) (R := rdR R) (X := X) txG m12 D4
  refine ⟨8, 9 + (5 * CL.length + 2 * (clCode CL).length), Nat.le_refl 8, by omega, ?_⟩
  generalize hG : p_u (p_u J1 32 15 (mI 1)) 33 1 (nI 0) = G at *
  have gG15 : G 32 15 = mI 1 := e15
  have gGI : ∀ a, ¬ a = 32 → ¬ a = 33 → (a < 35 ∨ 43 < a) → G a = I a := fun a a1 a2 a3 => (gG a a1 a2).trans (f1 a a3)
  have gG33 : G 33 1 = nI 0 := by rw [← hG, p_u_at, if_pos rfl]
  have gG32 : ∀ k, ¬ k = 15 → G 32 k = I 32 k := fun k hk => by rw [← hG, p_u_ne (by omega), p_u_at, if_neg hk, f1 32 (by omega)]
  generalize h55 : kn (I 125) 55 = c5 at *
  simp -implicitDefEqProofs (disch := first | omega | decide) only [P_m, ↓P_run_eq _ 90 _ (p_bk 90 0), bk_90_0, pb_90_0, ↓P_run_eq _ 90 _ (p_bk 90 1), bk_90_1, pb_90_1, ↓P_run_eq _ 90 _ (p_bk 90 2), bk_90_2, pb_90_2, pw_aload_n0, pw_aloadN_n0, pw_getR, pw_getI, pw_bipush, bl_6, pw_clt, pw_iconst, il_0, pw_putI, bl_m5, pw_iv2, pw_ret0, pw_iv3, il_m1, pw_ceq, bl_m6, pw_iv1, pw_aast, pw_aastN, pw_dupi, pw_dupr, il_1, pw_iadd, pw_isub, kd_32, rf_32_0, rf_32_1, rf_32_2, rf_32_3, rf_32_4, rf_32_5, rf_32_6, rf_32_7, rf_32_8, rf_32_9, rf_32_11, rf_32_12, rf_32_13, kd_33, rf_33_0, kd_35, rf_35_0, rf_35_1, kd_36, rf_36_1, rf_36_2, rf_36_3, rf_36_4, rf_36_5, rf_36_7, rf_36_8, kd_71, rf_71_1, rf_71_3, rf_71_4, rf_71_5, rf_71_6, rf_71_11, rf_71_12, rf_71_14, n_0, n_1, n_6, nn_lt, nn_nlt, nn_le, nn_nle, nn_ne, nn_sub, nn_mul, nI_add, nn_neg, nm_eq, mn_eq, mm_eq, mn_lt, nm_lt, mn_le, nm_le, nn_sub0, nn_of, implies_true, nn_c, nn_in, nn_div, nat_rem, Nat.reduceMul, Nat.reduceSub, Nat.reduceDiv, Nat.reduceMod, pf_at, pf_ne, mk_s, mk_1, Classical.not_not, b2i_T, b2i_F, false_imp_iff, true_imp_iff, false_and, and_false, p_sw, Int.reduceAdd, Int.zero_add, Option.some.injEq, Value.int.injEq, Value.long.injEq, Value.ref.injEq, exists_eq_left', mk_I, mk_L, mk_wI, mk_wL, rf_s, rf_n, true_and, and_true, and_self, or_true, true_or, or_false, false_or, not_true_eq_false, not_false_eq_true, Option.toList_some, Option.toList_none, List.cons_append, List.nil_append, List.map_nil, List.map_cons, List.sum_nil, List.sum_cons, cat_i, cat_l, cat_r, cat_n, Nat.reduceLeDiff, Nat.reduceAdd, Nat.reduceEqDiff, Nat.zero_le, p_ent, p_u_ne, p_u_at, reduceIte, if_true, if_false, j13, hG, e15, g71, P_ce s58]
  refine ⟨Nat.le_of_ble_eq_true rfl, 8, 9 + (5 * CL.length + 2 * (clCode CL).length), _, Nat.le_refl 8, Nat.le_refl _, a76, ?_⟩
  rintro _ _ ⟨rfl, J, M, S, rfl, jJ, sS, rS, jt, jx⟩
  rw [Nat.sub_self, Nat.sub_self]
  refine P_go ?_
  have u71 : J 71 13 = nI c5 := by rw [jJ 71 (by omega)]; exact g71
  -- the reference
  have fF : ∀ a, ¬ a = 32 → ¬ a = 71 → p_u (p_u J 71 13 (nI (c5 + 1))) 32 14 0 a = J a := fun a a1 a2 => by rw [p_u_ne a1, p_u_ne a2]
  have fJ : ∀ a, ¬ a = 32 → ¬ a = 33 → ¬ a = 71 → (a < 35 ∨ 43 < a) → a < 142 + X.length → p_u (p_u J 71 13 (nI (c5 + 1))) 32 14 0 a = I a := fun a a1 a2 a3 a4 a5 => by rw [fF a a1 a3, jJ a a5, gGI a a1 a2 a4]
  obtain ⟨J2, ⟨f2, q13, q14, q18, q3⟩, s179⟩ := pl_179 (x := d + 22) (Ls := Ls) (I := p_u (p_u J 71 13 (nI (c5 + 1))) 32 14 0) (L := M) (R := p_u S 79 c5 (some (142 + X.length))) (X := X ++ (0, 7) :: nTx CL.length (clCode CL).length) (o := false) ⟨hM.1, fun k hk => by rw [fJ 130 (by omega) (by omega) (by omega) (by omega) (by omega)]; exact hM.2.1 k hk, by rw [fJ 129 (by omega) (by omega) (by omega) (by omega) (by omega)]; exact hM.2.2⟩ hN (by rw [fJ 123 (by omega) (by omega) (by omega) (by omega) (by omega)]; exact t2) hr
  replace s179 : P_m (d + 59) 179 [.ref 123, .int (nI 0)] (p_mk Ls (p_u (p_u J 71 13 (nI (c5 + 1))) 32 14 0) M (p_u S 79 c5 (some (142 + X.length))) (X ++ (0, 7) :: nTx CL.length (clCode CL).length)) (fun v h' => v = some (.int (nI 1)) ∧ h' = p_mk Ls J2 M (p_u S 79 c5 (some (142 + X.length))) (X ++ (0, 7) :: nTx CL.length (clCode CL).length)) := s179
  have e2 : J2 125 = I 125 := by rw [f2.1 125 (by omega) (by omega) (by omega) (by omega), fJ 125 (by omega) (by omega) (by omega) (by omega) (by omega)]
  obtain ⟨J3, ⟨f3, l3⟩, s180⟩ := pl_180 (d := d + 59) (Ls := Ls) (I := J2) (L := M) (R := p_u S 79 c5 (some (142 + X.length))) (X := X ++ (0, 7) :: nTx CL.length (clCode CL).length) (t := c5) h6 N4 q18 (fun j hj => q3 j (by omega))
  rw [e2] at l3
  have v55 : J2 125 55 = nI c5 := by rw [e2]; exact e55.1
  have w55 : J3 125 55 = nI c5 := by rw [l3.2 55 (by omega) (by omega), upd_ne (by omega)]; exact e55.1
  have rf : P_m (d + 60) 181 [.ref 123] (p_mk Ls (p_u (p_u J 71 13 (nI (c5 + 1))) 32 14 0) M (p_u S 79 c5 (some (142 + X.length))) (X ++ (0, 7) :: nTx CL.length (clCode CL).length)) (fun v h' => v = some (.int (nI c5)) ∧ h' = p_mk Ls (p_u (p_u J3 125 55 (nI (c5 + 1))) 123 0 0) M (p_u S 79 c5 (some (142 + X.length))) (X ++ (0, 7) :: nTx CL.length (clCode CL).length)) := by
    have k55 : p_u (p_u J 71 13 (nI (c5 + 1))) 32 14 0 125 55 = nI c5 := by rw [fJ 125 (by omega) (by omega) (by omega) (by omega) (by omega)]; exact e55.1
    have w55' : p_u J3 125 55 (nI (c5 + 1)) 125 55 = nI (c5 + 1) := by rw [p_u_at, if_pos rfl]
    have sb : nI (c5 + 1) - nI 1 = nI c5 := by rw [nn_sub (by omega)]; congr 1
    have s129 := sp_129 (d := d + 59) (Ls := Ls) (I := p_u J3 125 55 (nI (c5 + 1))) (L := M) (R := p_u S 79 c5 (some (142 + X.length))) (X := X ++ (0, 7) :: nTx CL.length (clCode CL).length) (nI c5)
    clear a76 jx l3 q3
    generalize p_u (p_u J 71 13 (nI (c5 + 1))) 32 14 0 = F1 at *
    generalize X ++ (0, 7) :: nTx CL.length (clCode CL).length = XX at *
    simp -implicitDefEqProofs (disch := first | omega | decide) only [P_m, ↓P_run_eq _ 181 _ (p_bk 181 0), bk_181_0, pb_181_0, ↓P_run_eq _ 181 _ (p_bk 181 1), bk_181_1, pb_181_1, ↓P_run_eq _ 181 _ (p_bk 181 2), bk_181_2, pb_181_2, pw_aload_n0, pw_aloadN_n0, pw_getR, pw_bipush, bl_55, pw_iald, bl_6, pw_cne, pw_iconst, il_0, pw_putI, bl_m5, pw_iv2, pw_ret0, pw_zne, bl_m6, pw_dup2r, il_1, pw_iadd, pw_iast, pw_isub, kd_123, rf_123_1, rf_123_2, rf_123_3, rf_123_4, rf_123_5, rf_123_7, rf_123_11, rf_123_12, rf_123_15, rf_123_16, rf_123_17, rf_123_26, rf_123_29, rf_123_30, rf_123_32, rf_123_34, rf_123_35, rf_123_45, kd_125, n_0, n_1, n_6, n_55, nn_lt, nn_nlt, nn_le, nn_nle, nn_ne, nn_sub, nn_mul, nI_add, nn_neg, nm_eq, mn_eq, mm_eq, mn_lt, nm_lt, mn_le, nm_le, nn_sub0, nn_of, implies_true, nn_c, nn_in, nn_div, nat_rem, Nat.reduceMul, Nat.reduceSub, Nat.reduceDiv, Nat.reduceMod, pf_at, pf_ne, mk_s, mk_1, Classical.not_not, b2i_T, b2i_F, false_imp_iff, true_imp_iff, false_and, and_false, p_sw, Int.reduceAdd, Int.zero_add, Option.some.injEq, Value.int.injEq, Value.long.injEq, Value.ref.injEq, exists_eq_left', mk_I, mk_L, mk_wI, mk_wL, rf_s, rf_n, true_and, and_true, and_self, or_true, true_or, or_false, false_or, not_true_eq_false, not_false_eq_true, Option.toList_some, Option.toList_none, List.cons_append, List.nil_append, List.map_nil, List.map_cons, List.sum_nil, List.sum_cons, cat_i, cat_l, cat_r, cat_n, Nat.reduceLeDiff, Nat.reduceAdd, Nat.reduceEqDiff, Nat.zero_le, p_ent, p_u_ne, p_u_at, reduceIte, if_true, if_false, k55, v55, w55, w55', sb, P_ce s179, P_ce s180, P_ce s129]
  have hI : Inv (p_u (p_u J3 125 55 (nI (c5 + 1))) 123 0 0) (p_u S 79 c5 (some (142 + X.length))) (X ++ (0, 7) :: nTx CL.length (clCode CL).length) := by
    have hB2 : ∀ k, k < T → B k < 256 := fun k hk => (hB k hk).2
    have t142 : 142 ≤ 142 + X.length := by omega
    -- what stands of the old cells
    have g3 : ∀ a, ¬ a = 32 → ¬ a = 33 → ¬ a = 71 → ¬ a = 123 → ¬ a = 125 → ¬ a = 132 → ¬ a = 133 → ¬ a = 134 → (a < 35 ∨ 43 < a) → a < 142 + X.length → p_u (p_u J3 125 55 (nI (c5 + 1))) 123 0 0 a = I a := fun a a1 a2 a3 a4 a5 a6 a7 a8 a9 a10 => by
      rw [p_u_ne a4, p_u_ne a5, f3 a a5, f2.1 a a4 a6 a7 a8, fJ a a1 a2 a3 a9 a10]
    have g3n : ∀ a, 142 ≤ a → p_u (p_u J3 125 55 (nI (c5 + 1))) 123 0 0 a = J a := fun a ha => by
      rw [p_u_ne (by omega), p_u_ne (by omega), f3 a (by omega), f2.1 a (by omega) (by omega) (by omega) (by omega), fF a (by omega) (by omega)]
    have x125 : ∀ j, p_u (p_u J3 125 55 (nI (c5 + 1))) 123 0 0 125 j = if j = 55 then nI (c5 + 1) else J3 125 j := fun j => by rw [p_u_ne (by omega), p_u_at]
    have x71 : ∀ j, p_u (p_u J3 125 55 (nI (c5 + 1))) 123 0 0 71 j = if j = 13 then nI (c5 + 1) else I 71 j := fun j => by
      rw [p_u_ne (by omega), p_u_ne (by omega), f3 71 (by omega), f2.1 71 (by omega) (by omega) (by omega) (by omega), p_u_ne (by omega), p_u_at, jJ 71 (by omega), gGI 71 (by omega) (by omega) (by omega)]
    have x32 : ∀ j, p_u (p_u J3 125 55 (nI (c5 + 1))) 123 0 0 32 j = if j = 14 then 0 else G 32 j := fun j => by
      rw [p_u_ne (by omega), p_u_ne (by omega), f3 32 (by omega), f2.1 32 (by omega) (by omega) (by omega) (by omega), p_u_at, p_u_ne (by omega), jJ 32 (by omega)]
    have x123 : ∀ j, p_u (p_u J3 125 55 (nI (c5 + 1))) 123 0 0 123 j = if j = 0 then 0 else J2 123 j := fun j => by
      rw [p_u_at, p_u_ne (by omega), f3 123 (by omega)]
    have y123 : ∀ k, k = 6 ∨ k = 31 ∨ k = 37 ∨ k = 46 → J2 123 k = I 123 k := fun k hk => by
      rw [f2.2 k (by omega) (by omega) (by omega) (by omega) (by omega) (by omega) (by omega) (by omega) (by omega), fJ 123 (by omega) (by omega) (by omega) (by omega) (by omega)]
    have sO : ∀ a, ¬ a = 35 → ¬ a = 79 → a < 142 + X.length → p_u S 79 c5 (some (142 + X.length)) a = R a := fun a a1 a2 a3 => by rw [p_u_ne a2, sS a a3, rdR_ne a1]
    have sT : p_u S 79 c5 (some (142 + X.length)) (142 + X.length) = S (142 + X.length) := p_u_ne (by omega)
    refine Inv_law (c5 := c5) (t := 142 + X.length) H h55 h6 (fun a ha => g3 a (by omega) (by omega) (by omega) (by omega) (by omega) (by omega) (by omega) (by omega) (by omega) (by omega)) x71 ?_ ?_ (fun k hk => ?_) ?_ ?_ (fun k hk => ?_) ?_ (fun j j1 j2 j3 j4 => ?_) (fun j => ?_) (fun a ha => sO a (by omega) (by omega) (by omega)) ?_
    · rw [p_u_ne (by omega), p_u_ne (by omega), f3 33 (by omega), f2.1 33 (by omega) (by omega) (by omega) (by omega), fF 33 (by omega) (by omega), jJ 33 (by omega)]; exact gG33
    · rw [x123, if_neg (by omega)]; exact q13
    · rw [x32, if_neg (by omega), gG32 k (by omega)]
    · rw [x32, if_pos rfl, x123, if_pos rfl]
    · rw [x32, if_neg (by omega), gG15, x123, if_neg (by omega), q14]; rfl
    · rw [x123, if_neg (by omega)]; exact y123 k hk
    · rw [x125, if_pos rfl]
    · rw [x125, if_neg j1, l3.2 j (by omega) (by omega), upd_ne j2]
    · rw [p_u_at, sS 79 (by omega), rdR_ne (by omega)]
    · refine law_new (B := B) (T := T) (N := N) (CL := CL) (m2 := 0) hN hT hB2 h6 hr rfl rfl ?_ (fun k hk => ?_) (by rw [sT]; exact rS) (by rw [g3n _ t142]; exact jt) ?_
      · rw [x125, if_neg (by omega), l3.2 (57 + c5) (by omega) (by omega), upd_eq]
      · rw [x125, if_neg (by omega), x125, if_neg (by omega)]; exact l3.1 k hk
      · unfold txA at jx ⊢
        rw [g3n _ (by omega), g3n _ (by omega), g3n _ (by omega), g3n _ (by omega), g3n _ (by omega), g3n _ (by omega), g3n _ (by omega)]
        exact jx
  have s117 := sp_117 (d := d + 59) (Ls := Ls) (I := p_u J 71 13 (nI (c5 + 1))) (L := M) (R := p_u S 79 c5 (some (142 + X.length))) (X := X ++ (0, 7) :: nTx CL.length (clCode CL).length) (nI c5)
  have sb : nI (c5 + 1) - nI 1 = nI c5 := by rw [nn_sub (by omega)]; congr 1
  have x71 : p_u J 71 13 (nI (c5 + 1)) 71 13 = nI (c5 + 1) := by rw [p_u_at, if_pos rfl]
  have kdt : p_kd (p_mk Ls J M S (X ++ (0, 7) :: nTx CL.length (clCode CL).length)) (142 + X.length) = (0, 7) := by
    rw [kd_X (by omega), show 142 + X.length - 142 = X.length by omega]; exact nth_y X (0, 7) _
  clear a76 jx l3 q3 s179 s180
  generalize X ++ (0, 7) :: nTx CL.length (clCode CL).length = XX at *
  simp -implicitDefEqProofs (disch := first | omega | decide) only [P_m, pw_aload_n0, pw_aloadN_n0, pw_getR, pw_getI, pw_iv1, pw_aast, pw_aastN, pw_dupi, pw_dupr, pw_iconst, il_1, pw_iadd, pw_putI, pw_isub, pw_iv2, pw_ret0, kd_32, rf_32_0, rf_32_1, rf_32_2, rf_32_3, rf_32_4, rf_32_5, rf_32_6, rf_32_7, rf_32_8, rf_32_9, rf_32_11, rf_32_12, rf_32_13, kd_71, rf_71_1, rf_71_3, rf_71_4, rf_71_5, rf_71_6, rf_71_11, rf_71_12, rf_71_14, kd_79, rg_79, n_0, n_1, nn_lt, nn_nlt, nn_le, nn_nle, nn_ne, nn_sub, nn_mul, nI_add, nn_neg, nm_eq, mn_eq, mm_eq, mn_lt, nm_lt, mn_le, nm_le, nn_sub0, nn_of, implies_true, nn_c, nn_in, nn_div, nat_rem, Nat.reduceMul, Nat.reduceSub, Nat.reduceDiv, Nat.reduceMod, pf_at, pf_ne, mk_s, mk_1, Classical.not_not, b2i_T, b2i_F, false_imp_iff, true_imp_iff, false_and, and_false, p_sw, Int.reduceAdd, Int.zero_add, Option.some.injEq, Value.int.injEq, Value.long.injEq, Value.ref.injEq, exists_eq_left', mk_I, mk_L, mk_wI, mk_wL, rf_s, rf_n, true_and, and_true, and_self, or_true, true_or, or_false, false_or, not_true_eq_false, not_false_eq_true, Option.toList_some, Option.toList_none, List.cons_append, List.nil_append, List.map_nil, List.map_cons, List.sum_nil, List.sum_cons, cat_i, cat_l, cat_r, cat_n, Nat.reduceLeDiff, Nat.reduceAdd, Nat.reduceEqDiff, Nat.zero_le, p_ent, p_u_ne, p_u_at, reduceIte, if_true, if_false, u71, x71, sb, mk_wR (sr_79 _), P_ce s117]
  refine ⟨kdt, by omega, ?_⟩
  refine p_run_Q rf ?_
  rintro _ _ ⟨rfl, rfl⟩
  exact ⟨rfl, _, _, _, _, rfl, hI⟩
theorem SameA_0 {yc ym : Nat} {vs : List Value} {h : pHp} (H : Same d yc ym vs Ls h) : SameA d yc ym vs Ls h := ⟨0, 0, by omega, by omega, H⟩
theorem q_law (H : Inv I R X) : SameA (d + 60) 90 181 [] Ls (p_mk Ls I L R X) := by
  have hV := H.2.2.2.2.2.2.2
  have e55 := kn_e hV (j := 55) (by omega) (by omega) (by omega)
  have l6 : kn (I 125) 55 ≤ 6 := e55.2
  by_cases h6 : kn (I 125) 55 = 6
  · exact SameA_0 (law_full H h6)
  · obtain ⟨B, T, hT, t1, t2, hB, hM⟩ := inv_B H
    obtain ⟨N, hN⟩ := tkN_ex (B := B) (T := T)
    have N4 := hN.1
    obtain ⟨r, hr⟩ := pX_t (o := false) (V := tV B T) (T := N) hN.2.2.2 2200 0 0 0 0 [] (Nat.zero_le N) (by omega)
    match r, hr with
    | .error e, hr => exact SameA_0 (law_bad H (by omega) hT t1 t2 hB hM hN hr)
    | .ok CL, hr => exact law_ok H (by omega) hT t1 t2 hB hM hN hr
end LP
