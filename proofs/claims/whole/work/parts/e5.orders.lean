section GH
variable {d Ls : Nat} {I F : Nat → Nat → Int32} {L : Nat → Nat → Int64} {R S : Nat → Nat → Option Nat} {X : List pKd} {c : Option (List tCl)} {K M : Nat → Int32} {B : Nat → Nat} {T N : Nat}
theorem orders_ok {CL : List tCl} {s' : oS} {k : Nat} (H : Inv I R X) (hx : Cx Ls I R X c) (hc : clS I (I 125) k (I 136)) (hR : rfS I (I 125) k (I 136)) (hT : T ≤ 400) (t1 : I 33 1 = nI T) (t2 : I 123 13 = nI T) (hB : ∀ k, k < T → I 34 k = nI (B k) ∧ B k < 256) (hM : mB B T I) (hN : tkN B T N) (hr : RX true (tC B T) (tV B T) N 0 0 0 0 [] = some (.ok CL)) (ho : oC c 0 CL (kO B T N (I 125), k, I 136, 0, mI 1) = .ok s') : Same (d + 60) 91 253 [] Ls (p_mk Ls I L R X) := by
  have N4 : N ≤ 400 := by have := hN.1; omega
  obtain ⟨J1, G, gG, g32, g15, g16, g33, hG, s58, s3, s52, s120⟩ := or_run (d := d) (L := L) H hx hc hT t1 hB hN hr
  rw [ho] at s120
  obtain ⟨v, g', ⟨rfl, o1, J, ⟨f, cs⟩, rfl⟩, s120⟩ := P_mex s120
  have e16 : J 32 16 = mI 1 := by rw [f 32 (by omega) (by omega) (by omega), asI_fr (by omega)]; exact g16
  have s117 := sp_117 (d := d + 59) (Ls := Ls) (I := J) (L := L) (R := cpR 82 71 (rdR R)) (X := X) (nI s'.2.2.2.1)
  have jI : ∀ a, (a < 71 ∨ 92 < a) → ¬ a = 32 → ¬ a = 33 → (a < 35 ∨ 43 < a) → ¬ a = 46 → ¬ a = 47 → J a = I a := fun a a1 a2 a3 a4 a5 a6 => by rw [f a (by omega) a5 a6, asI_fr (by omega), gG a a2 a3 a4]
  have j32 : ∀ q, J 32 q = G 32 q := fun q => by rw [f 32 (by omega) (by omega) (by omega), asI_fr (by omega)]
  have j33 : J 33 1 = nI 0 := by rw [f 33 (by omega) (by omega) (by omega), asI_fr (by omega)]; exact g33
  have cl : P_m (d + 60) 91 [.ref 32] (p_mk Ls I L R X) (fun v h' => v = some (.int (nI s'.2.2.2.1)) ∧ h' = p_mk Ls (p_u J 32 14 0) L (cpR 82 71 (rdR R)) X) := by
    clear cs o1 gG g32 jI j32 hr hN
    generalize asI G = A at *
    generalize cpI 82 71 G = A1 at *
    generalize cpR 82 71 (rdR R) = R1 at *
    generalize rdR R = R0 at *
    generalize s'.2.2.2.1 = nn at *
    simp -implicitDefEqProofs (disch := first | omega | decide) only [P_m, ↓P_run_eq _ 91 _ (p_bk 91 0), bk_91_0, pb_91_0, ↓P_run_eq _ 91 _ (p_bk 91 1), bk_91_1, pb_91_1, pw_aload_n0, pw_aloadN_n0, pw_iconst, il_m1, pw_putI, pw_getR, il_1, pw_iv3, il_0, pw_getI, pw_ceq, pw_bipush, bl_m6, pw_iv2, pw_ret0, pw_istore_n1, ps_1, pe_1, po_i1, po_r1, po_n1, po_u1, pw_cne, pw_iload_n1, kd_32, rf_32_0, rf_32_1, rf_32_2, rf_32_3, rf_32_4, rf_32_5, rf_32_6, rf_32_7, rf_32_8, rf_32_9, rf_32_11, rf_32_12, rf_32_13, kd_33, rf_33_0, kd_35, rf_35_0, rf_35_1, kd_36, rf_36_1, rf_36_2, rf_36_3, rf_36_4, rf_36_5, rf_36_7, rf_36_8, kd_71, rf_71_1, rf_71_3, rf_71_4, rf_71_5, rf_71_6, rf_71_11, rf_71_12, rf_71_14, kd_80, rf_80_0, kd_82, rf_82_1, rf_82_3, rf_82_4, rf_82_5, rf_82_6, rf_82_11, rf_82_12, rf_82_14, kd_91, rf_91_0, n_0, n_1, nn_lt, nn_nlt, nn_le, nn_nle, nn_ne, nn_sub, nn_mul, nI_add, nn_neg, nm_eq, mn_eq, mm_eq, mn_lt, nm_lt, mn_le, nm_le, nn_sub0, nn_of, implies_true, nn_c, nn_in, nn_div, nat_rem, Nat.reduceMul, Nat.reduceSub, Nat.reduceDiv, Nat.reduceMod, pf_at, pf_ne, mk_s, mk_1, Classical.not_not, b2i_T, b2i_F, false_imp_iff, true_imp_iff, false_and, and_false, p_sw, Int.reduceAdd, Int.zero_add, Option.some.injEq, Value.int.injEq, Value.long.injEq, Value.ref.injEq, exists_eq_left', mk_I, mk_L, mk_wI, mk_wL, rf_s, rf_n, true_and, and_true, and_self, or_true, true_or, or_false, false_or, not_true_eq_false, not_false_eq_true, Option.toList_some, Option.toList_none, List.cons_append, List.nil_append, List.map_nil, List.map_cons, List.sum_nil, List.sum_cons, cat_i, cat_l, cat_r, cat_n, Nat.reduceLeDiff, Nat.reduceAdd, Nat.reduceEqDiff, Nat.zero_le, p_ent, p_u_ne, p_u_at, reduceIte, if_true, if_false, P_ce s58, ← hG, g15, P_ce s3, P_ce s52, P_ce s120, e16, P_ce s117]
  unfold Same
  refine p_run_Q cl ?_
  rintro _ _ ⟨rfl, rfl⟩
  refine ⟨nI s'.2.2.2.1, rfl, ?_⟩
  have fI : ∀ a, (a < 71 ∨ 92 < a) → ¬ a = 32 → ¬ a = 33 → (a < 35 ∨ 43 < a) → ¬ a = 46 → ¬ a = 47 → p_u J 32 14 0 a = I a := fun a a1 a2 a3 a4 a5 a6 => by rw [p_u_ne a2]; exact jI a a1 a2 a3 a4 a5 a6
  have f125 : p_u J 32 14 0 125 = I 125 := fI 125 (by omega) (by omega) (by omega) (by omega) (by omega) (by omega)
  have f123 : p_u J 32 14 0 123 = I 123 := fI 123 (by omega) (by omega) (by omega) (by omega) (by omega) (by omega)
  have f136 : p_u J 32 14 0 136 = I 136 := fI 136 (by omega) (by omega) (by omega) (by omega) (by omega) (by omega)
  have rf := pl_253 (d := d) (Ls := Ls) (F := p_u J 32 14 0) (L := L) (S := cpR 82 71 (rdR R)) (X := X) (c := c) (M := I 136) (k := k) ⟨hM.1, fun k hk => by rw [fI 130 (by omega) (by omega) (by omega) (by omega) (by omega) (by omega)]; exact hM.2.1 k hk, by rw [fI 129 (by omega) (by omega) (by omega) (by omega) (by omega) (by omega)]; exact hM.2.2⟩ hN hT (fun k hk => (hB k hk).2) (by rw [f123]; exact t2) hr (by rw [f125]; exact hx.2.2.1) (by rw [f125]; exact kO_law N4 hx.2.2.2.1) (by rw [f125]; exact ⟨f125, by rw [f123]; exact hR.2.1, hR.2.2.1, fun i hi => by rw [f136]⟩)
  rw [f125, ho] at rf
  refine p_run_Q rf ?_
  rintro v h' ⟨rfl, J9, L9, ⟨z, z6, z46, z13, z14⟩, ⟨r1, r2, r3, r4⟩, z0, z37, z124, rfl⟩
  refine ⟨rfl, _, _, _, _, rfl, ?_⟩
  rw [f123] at z6 z46
  have zI : ∀ a, (a < 123 ∨ a = 126 ∨ a = 127 ∨ a = 129 ∨ a = 130 ∨ a = 131 ∨ 137 < a) → (a < 71 ∨ 92 < a) → ¬ a = 32 → ¬ a = 33 → (a < 35 ∨ 43 < a) → ¬ a = 46 → ¬ a = 47 → J9 a = I a := fun a a0 a1 a2 a3 a4 a5 a6 => by rw [z a a0]; exact fI a a1 a2 a3 a4 a5 a6
  have z32 : ∀ q, J9 32 q = if q = 14 then 0 else G 32 q := fun q => by rw [z 32 (by omega), p_u_at, j32]
  have zc : ∀ a, 71 ≤ a → a ≤ 81 → J9 a = J a := fun a a1 a2 => by rw [z a (by omega), p_u_ne (by omega)]
  obtain ⟨hh, n, p1, p2, p3⟩ := cs
  refine Inv_or H (fun a ha => zI a (by omega) (by omega) (by omega) (by omega) (by omega) (by omega) (by omega)) ?_ z13 ?_ z46 ?_ ⟨n, s'.2.1, ?_, ?_, r2, ?_⟩ ?_ ?_ (fun j hj => ?_) (fun a a1 a2 a3 => ?_) (fun i hi => ?_)
  · rw [z 33 (by omega), p_u_ne (by omega)]; exact j33
  · rw [z32, if_neg (by omega), g32 10 (by omega) (by omega)]
  · obtain ⟨c1, c2, c3, c4, c5⟩ := H.2.1
    refine ⟨fun q hq => ?_, ?_, ?_, ?_, ?_⟩
    · rw [z124, zI 122 (by omega) (by omega) (by omega) (by omega) (by omega) (by omega) (by omega), fI 124 (by omega) (by omega) (by omega) (by omega) (by omega) (by omega)]; exact c1 q hq
    · rw [z32, if_pos rfl, z0]
    · rw [z32, if_neg (by omega), g15, z14]
    · rw [z32, if_neg (by omega), g16, z37]
    · rw [z32, if_neg (by omega), g32 17 (by omega) (by omega), z6]; exact c5
  · rw [zc 80 (by omega) (by omega)]; exact p1
  · rw [zc 80 (by omega) (by omega)]; exact p2
  · rw [zc 81 (by omega) (by omega), r1]; exact pastRel_M p3 r4
  · rw [r1]; exact hutR_f hh (fun b b1 b2 => zc b (by omega) (by omega))
  · rw [r1]; exact o1.1
  · rw [r1, o1.2.2.2 j (by omega)]; exact kO_lo N4 (by omega) (by omega) (by omega)
  · rw [cpR_fr (by omega), rdR_ne a1]
  · rw [cpR_fr (by omega), rdR_ne (by omega)]
theorem orders_no {CL : List tCl} {e k : Nat} (H : Inv I R X) (hx : Cx Ls I R X c) (hc : clS I (I 125) k (I 136)) (hR : rfS I (I 125) k (I 136)) (hT : T ≤ 400) (t1 : I 33 1 = nI T) (t2 : I 123 13 = nI T) (hB : ∀ k, k < T → I 34 k = nI (B k) ∧ B k < 256) (hM : mB B T I) (hN : tkN B T N) (hr : RX true (tC B T) (tV B T) N 0 0 0 0 [] = some (.ok CL)) (ho : oC c 0 CL (kO B T N (I 125), k, I 136, 0, mI 1) = .error e) : Same (d + 60) 91 253 [] Ls (p_mk Ls I L R X) := by
  have N4 : N ≤ 400 := by have := hN.1; omega
  have pg := pX_g (o := true) (C := tC B T) (V := tV B T) (T := N) 2200 0 0 0 0 [] CL (by omega) rfl (by omega) rfl (Nat.le_refl 0) (fun j cl hj => by cases hj) hr
  have he : e < 0 + CL.length := oC_e CL 0 _ e ho
  have he2 : e < 12 := by omega
  obtain ⟨J1, G, gG, g32, g15, g16, g33, hG, s58, s3, s52, s120⟩ := or_run (d := d) (L := L) H hx hc hT t1 hB hN hr
  rw [ho] at s120
  obtain ⟨v, g', ⟨⟨r, rfl⟩, J, f, rfl⟩, s120⟩ := P_mex s120
  have tx90 : txR (cpR 82 71 (rdR R)) X 90 := fun i hi => by
    rw [show (90 : Nat) = 82 + 8 from rfl, cpR_at hi, rdR_ne (by omega)]; exact hx.2.1 i hi
  have s3b := sp_3_71_82 (d := d + 59) (Ls := Ls) (I := p_u J 32 16 (nI e)) (L := L) tx90
  have s52b : P_m (d + 59) 52 [.ref 80, .ref 91] (p_mk Ls (cpI 71 82 (p_u J 32 16 (nI e))) L (cpR 71 82 (cpR 82 71 (rdR R))) X) (fun v h' => v = none ∧ h' = p_mk Ls (bkI (p_u J 32 16 (nI e))) L (cpR 71 82 (cpR 82 71 (rdR R))) X) := sp_52b
  have e16 : p_u J 32 16 (nI e) 32 16 = nI e := by rw [p_u_at, if_pos rfl]
  have jA : ∀ a, (a < 71 ∨ 81 < a ∨ a = 79) → ¬ a = 32 → ¬ a = 46 → ¬ a = 47 → p_u J 32 16 (nI e) a = asI G a := fun a a1 a2 a3 a4 => by rw [p_u_ne a2, f a a1 a3 a4]
  have j32 : ∀ q, p_u J 32 16 (nI e) 32 q = if q = 16 then nI e else G 32 q := fun q => by rw [p_u_at, f 32 (by omega) (by omega) (by omega), asI_fr (by omega)]
  generalize hP : p_u J 32 16 (nI e) = P at *
  have b122 : bkI P 122 3 = I 122 3 := by rw [bkI_fr (by omega), jA 122 (by omega) (by omega) (by omega) (by omega), asI_fr (by omega), gG 122 (by omega) (by omega) (by omega)]
  have s116 := rc_3 (d := d + 59) (Ls := Ls) (I := bkI P) (L := L) (R := cpR 71 82 (cpR 82 71 (rdR R))) (X := X)
  rw [b122] at s116
  have cl : P_m (d + 60) 91 [.ref 32] (p_mk Ls I L R X) (fun v h' => v = some (.int (-3)) ∧ h' = p_mk Ls (p_u (p_u (bkI P) 32 14 (-3)) 122 3 (I 122 3 + 1)) L (cpR 71 82 (cpR 82 71 (rdR R))) X) := by
    clear gG g32 jA j32 hr hN hP f
    generalize asI G = A at *
    generalize cpI 82 71 G = A1 at *
    generalize cpR 71 82 (cpR 82 71 (rdR R)) = R2 at *
    generalize cpR 82 71 (rdR R) = R1 at *
    generalize rdR R = R0 at *
    generalize bkI P = A3 at *
    generalize cpI 71 82 P = A2 at *
    simp -implicitDefEqProofs (disch := first | omega | decide) only [P_m, ↓P_run_eq _ 91 _ (p_bk 91 0), bk_91_0, pb_91_0, ↓P_run_eq _ 91 _ (p_bk 91 1), bk_91_1, pb_91_1, ↓P_run_eq _ 91 _ (p_bk 91 2), bk_91_2, pb_91_2, pw_aload_n0, pw_aloadN_n0, pw_iconst, il_m1, pw_putI, pw_getR, il_1, pw_iv3, il_0, pw_getI, pw_ceq, pw_bipush, bl_m6, pw_iv2, pw_ret0, pw_istore_n1, ps_1, pe_1, po_i1, po_r1, po_n1, po_u1, pw_cne, pw_iload_n1, bl_m3, kd_32, rf_32_0, rf_32_1, rf_32_2, rf_32_3, rf_32_4, rf_32_5, rf_32_6, rf_32_7, rf_32_8, rf_32_9, rf_32_11, rf_32_12, rf_32_13, kd_33, rf_33_0, kd_35, rf_35_0, rf_35_1, kd_36, rf_36_1, rf_36_2, rf_36_3, rf_36_4, rf_36_5, rf_36_7, rf_36_8, kd_71, rf_71_1, rf_71_3, rf_71_4, rf_71_5, rf_71_6, rf_71_11, rf_71_12, rf_71_14, kd_80, rf_80_0, kd_82, rf_82_1, rf_82_3, rf_82_4, rf_82_5, rf_82_6, rf_82_11, rf_82_12, rf_82_14, kd_91, rf_91_0, n_0, n_1, nn_lt, nn_nlt, nn_le, nn_nle, nn_ne, nn_sub, nn_mul, nI_add, nn_neg, nm_eq, mn_eq, mm_eq, mn_lt, nm_lt, mn_le, nm_le, nn_sub0, nn_of, implies_true, nn_c, nn_in, nn_div, nat_rem, Nat.reduceMul, Nat.reduceSub, Nat.reduceDiv, Nat.reduceMod, pf_at, pf_ne, mk_s, mk_1, Classical.not_not, b2i_T, b2i_F, false_imp_iff, true_imp_iff, false_and, and_false, p_sw, Int.reduceAdd, Int.zero_add, Option.some.injEq, Value.int.injEq, Value.long.injEq, Value.ref.injEq, exists_eq_left', mk_I, mk_L, mk_wI, mk_wL, rf_s, rf_n, true_and, and_true, and_self, or_true, true_or, or_false, false_or, not_true_eq_false, not_false_eq_true, Option.toList_some, Option.toList_none, List.cons_append, List.nil_append, List.map_nil, List.map_cons, List.sum_nil, List.sum_cons, cat_i, cat_l, cat_r, cat_n, Nat.reduceLeDiff, Nat.reduceAdd, Nat.reduceEqDiff, Nat.zero_le, p_ent, p_u_ne, p_u_at, reduceIte, if_true, if_false, P_ce s58, ← hG, g15, P_ce s3, P_ce s52, P_ce s120, e16, P_ce s3b, P_ce s52b, P_ce s116]
  unfold Same
  refine p_run_Q cl ?_
  rintro _ _ ⟨rfl, rfl⟩
  refine ⟨-3, rfl, ?_⟩
  obtain ⟨F, hF⟩ : ∃ F, F = p_u (p_u (bkI P) 32 14 (-3)) 122 3 (I 122 3 + 1) := ⟨_, rfl⟩
  rw [← hF]
  have fI : ∀ a, (a < 71 ∨ 92 < a) → ¬ a = 32 → ¬ a = 33 → (a < 35 ∨ 43 < a) → ¬ a = 46 → ¬ a = 47 → ¬ a = 122 → F a = I a := fun a a1 a2 a3 a4 a5 a6 a7 => by rw [hF, p_u_ne a7, p_u_ne a2, bkI_fr (by omega), jA a (by omega) a2 a5 a6, asI_fr (by omega), gG a a2 a3 a4]
  have f125 : F 125 = I 125 := fI 125 (by omega) (by omega) (by omega) (by omega) (by omega) (by omega) (by omega)
  have f123 : F 123 = I 123 := fI 123 (by omega) (by omega) (by omega) (by omega) (by omega) (by omega) (by omega)
  have f136 : F 136 = I 136 := fI 136 (by omega) (by omega) (by omega) (by omega) (by omega) (by omega) (by omega)
  have f124 : F 124 = I 124 := fI 124 (by omega) (by omega) (by omega) (by omega) (by omega) (by omega) (by omega)
  have f122 : ∀ q, F 122 q = if q = 3 then I 122 3 + 1 else I 122 q := fun q => by
    rw [hF, p_u_at, p_u_ne (by omega), bkI_fr (by omega), jA 122 (by omega) (by omega) (by omega) (by omega), asI_fr (by omega), gG 122 (by omega) (by omega) (by omega)]
  have f32 : ∀ q, F 32 q = if q = 14 then -3 else if q = 16 then nI e else G 32 q := fun q => by
    rw [hF, p_u_ne (by omega), p_u_at, bkI_fr (by omega), j32]
  have f33 : F 33 1 = nI 0 := by rw [hF, p_u_ne (by omega), p_u_ne (by omega), bkI_fr (by omega), jA 33 (by omega) (by omega) (by omega) (by omega), asI_fr (by omega)]; exact g33
  have fc : ∀ a, 71 ≤ a → a ≤ 81 → F a = bkI P a := fun a a1 a2 => by rw [hF, p_u_ne (by omega), p_u_ne (by omega)]
  have rf := pl_253 (d := d) (Ls := Ls) (F := F) (L := L) (S := cpR 71 82 (cpR 82 71 (rdR R))) (X := X) (c := c) (M := I 136) (k := k) ⟨hM.1, fun k hk => by rw [fI 130 (by omega) (by omega) (by omega) (by omega) (by omega) (by omega) (by omega)]; exact hM.2.1 k hk, by rw [fI 129 (by omega) (by omega) (by omega) (by omega) (by omega) (by omega) (by omega)]; exact hM.2.2⟩ hN hT (fun k hk => (hB k hk).2) (by rw [f123]; exact t2) hr (by rw [f125]; exact hx.2.2.1) (by rw [f125]; exact kO_law N4 hx.2.2.2.1) (by rw [f125]; exact ⟨f125, by rw [f123]; exact hR.2.1, hR.2.2.1, fun i hi => by rw [f136]⟩)
  rw [f125, ho] at rf
  refine p_run_Q rf ?_
  rintro v h' ⟨rfl, J9, L9, ⟨z, z6, z46, z13, z14⟩, z125, z31, z136, z0, z37, z124, rfl⟩
  refine ⟨rfl, _, _, _, _, rfl, ?_⟩
  rw [f123] at z6 z46 z31
  rw [f124] at z124
  have zI : ∀ a, (a < 123 ∨ a = 126 ∨ a = 127 ∨ a = 129 ∨ a = 130 ∨ a = 131 ∨ 137 < a) → (a < 71 ∨ 92 < a) → ¬ a = 32 → ¬ a = 33 → (a < 35 ∨ 43 < a) → ¬ a = 46 → ¬ a = 47 → ¬ a = 122 → J9 a = I a := fun a a0 a1 a2 a3 a4 a5 a6 a7 => by rw [z a a0]; exact fI a a1 a2 a3 a4 a5 a6 a7
  have zc : ∀ a, 71 ≤ a → a ≤ 81 → J9 a = bkI P a := fun a a1 a2 => by rw [z a (by omega), fc a a1 a2]
  obtain ⟨hh, n, p1, p2, p3⟩ := hc
  have gc : ∀ a, 71 ≤ a → a ≤ 92 → G a = I a := fun a a1 a2 => gG a (by omega) (by omega) (by omega)
  obtain ⟨a1, a2, a3⟩ := asI_81 (G := G)
  obtain ⟨b1, b2, b3⟩ := bkI_81 (P := P)
  have hP82 : hutR P 82 (I 125) := hutR_f (asI_h (hutR_f hh (fun b b1 b2 => gc b (by omega) (by omega)))) (fun b b1 b2 => jA b (by omega) (by omega) (by omega) (by omega))
  refine Inv_or H (fun a ha => zI a (by omega) (by omega) (by omega) (by omega) (by omega) (by omega) (by omega) (by omega)) ?_ z13 ?_ z46 ?_ ⟨n, k, ?_, ?_, z31.trans hR.2.1, ?_⟩ ?_ ?_ (fun j hj => ?_) (fun a a1 a2 a3 => ?_) (fun i hi => ?_)
  · rw [z 33 (by omega)]; exact f33
  · rw [z 32 (by omega), f32, if_neg (by omega), if_neg (by omega), g32 10 (by omega) (by omega)]
  · obtain ⟨c1, c2, c3, c4, c5⟩ := H.2.1
    refine ⟨fun q hq => ?_, ?_, ?_, ?_, ?_⟩
    · rw [z124, z 122 (by omega), f122, c1 3 (by omega), c1 q hq]
    · rw [z 32 (by omega), f32, if_pos rfl, z0]
    · rw [z 32 (by omega), f32, if_neg (by omega), if_neg (by omega), g15, z14]
    · rw [z 32 (by omega), f32, if_neg (by omega), if_pos rfl, z37]
    · rw [z 32 (by omega), f32, if_neg (by omega), if_neg (by omega), g32 17 (by omega) (by omega), z6]; exact c5
  · rw [zc 80 (by omega) (by omega), b2, jA 91 (by omega) (by omega) (by omega) (by omega), a2, gc 80 (by omega) (by omega)]; exact p1
  · rw [zc 80 (by omega) (by omega), b3, jA 91 (by omega) (by omega) (by omega) (by omega), a3, gc 80 (by omega) (by omega)]; exact p2
  · have e52 : kO B T N (I 125) 52 = I 125 52 := kO_lo N4 (by omega) (by omega) (by omega)
    have q3 := pastRel_K (K' := J9 125) (pastRel_M (M' := J9 136) (pastRel_C (C' := J9 81) p3 (fun i hi => by rw [zc 81 (by omega) (by omega), b1 i hi, jA 92 (by omega) (by omega) (by omega) (by omega), a1 i hi, gc 81 (by omega) (by omega)])) (fun i hi => by rw [z136 i (by have := p3.2.1; omega), f136])) (by rw [z125]; exact e52)
    exact q3
  · rw [z125]
    exact hutR_K (hutR_f (bkI_h hP82) (fun b b1 b2 => zc b (by omega) (by omega))) (fun k hk => kO_lo N4 (by omega) (by omega) (by omega))
  · rw [z125]; exact vld_K hx.2.2.1 (fun k hk => kO_lo N4 (by omega) (by omega) (by omega))
  · rw [z125]; exact kO_lo N4 (by omega) (by omega) (by omega)
  · rw [cpR_fr (by omega), cpR_fr (by omega), rdR_ne a1]
  · rw [show (79 : Nat) = 71 + 8 from rfl, cpR_at hi, cpR_at hi, rdR_ne (by omega)]
theorem q_orders (H : Inv I R X) : Same (d + 60) 91 253 [] Ls (p_mk Ls I L R X) := by
  obtain ⟨B, T, hT, t1, t2, hB, hM⟩ := inv_B H
  obtain ⟨N, hN⟩ := tkN_ex (B := B) (T := T)
  have N4 := hN.1
  obtain ⟨r, hr⟩ := pX_t (o := true) (V := tV B T) (T := N) hN.2.2.2 2200 0 0 0 0 [] (Nat.zero_le N) (by omega)
  match r, hr with
  | .error e, hr => exact orders_bad H hT t1 t2 hB hM hN hr
  | .ok CL, hr =>
    obtain ⟨c, hx⟩ := Inv_cx (Ls := Ls) H
    obtain ⟨k, hc, hR⟩ := Inv_cl H
    cases ho : oC c 0 CL (kO B T N (I 125), k, I 136, 0, mI 1) with
    | ok s' => exact orders_ok H hx hc hR hT t1 t2 hB hM hN hr ho
    | error e => exact orders_no H hx hc hR hT t1 t2 hB hM hN hr ho
end GH
