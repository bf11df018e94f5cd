section GF
variable {d Ls : Nat} {I F : Nat → Nat → Int32} {L : Nat → Nat → Int64} {R S : Nat → Nat → Option Nat} {X : List pKd} {c : Option (List tCl)} {K M : Nat → Int32} {B : Nat → Nat} {T N : Nat}
/-- what is kept with the orders' text laid -/
def kO (B : Nat → Nat) (T N : Nat) (K : Nat → Int32) : Nat → Int32 := fun j => if 2464 ≤ j ∧ j < 2464 + N then nI (tC B T (j - 2464)) else if 5264 ≤ j ∧ j < 5264 + N then nI (tV B T (j - 5264)) else if j = 63 then nI N else K j
theorem kO_ly {K' : Nat → Int32} (N4 : N ≤ 400) (h : lyK B T 6 (upd K 63 (nI N)) K' N) : K' = kO B T N K := by
  funext j
  unfold kO
  by_cases h1 : 2464 ≤ j ∧ j < 2464 + N
  · rw [if_pos h1]
    have := (h.1 (j - 2464) (by omega)).1
    rw [show 64 + 400 * 6 + (j - 2464) = j by omega] at this
    exact this
  · rw [if_neg h1]
    by_cases h2 : 5264 ≤ j ∧ j < 5264 + N
    · rw [if_pos h2]
      have := (h.1 (j - 5264) (by omega)).2
      rw [show 2864 + 400 * 6 + (j - 5264) = j by omega] at this
      exact this
    · rw [if_neg h2, h.2 j (by omega) (by omega)]
      rfl
theorem kO_lo {j : Nat} (N4 : N ≤ 400) (h1 : ¬ (2464 ≤ j ∧ j < 2864)) (h2 : ¬ (5264 ≤ j ∧ j < 5664)) (h3 : ¬ j = 63) : kO B T N K j = K j := by
  unfold kO
  rw [if_neg (by omega), if_neg (by omega), if_neg h3]
theorem kO_63 (N4 : N ≤ 400) : kO B T N K 63 = nI N := by
  unfold kO
  rw [if_neg (by omega), if_neg (by omega), if_pos rfl]
theorem kO_tx (hN : tkN B T N) (hT : T ≤ 400) (hB : ∀ k, k < T → B k < 256) : txO (kO B T N K) N ∧ kC (kO B T N K) 6 = tC B T ∧ kV (kO B T N K) 6 = tV B T := by
  obtain ⟨n1, n2, n3, n4⟩ := hN
  have N4 : N ≤ 400 := by omega
  have e63 : kO B T N K 63 = nI N := kO_63 N4
  have cN : (kO B T N K 63).toNatClampNeg = N := by rw [e63, nI_clamp (by omega)]
  have cl : ∀ k, tC B T k ≤ 355 := fun k => tC_le hB
  have vl : ∀ k, tV B T k ≤ 10000009 := fun k => tV_le
  have a1 : ∀ k, k < N → kO B T N K (64 + 400 * 6 + k) = nI (tC B T k) := fun k hk => by
    unfold kO
    rw [if_pos (by omega), show 64 + 400 * 6 + k - 2464 = k by omega]
  have a2 : ∀ k, k < N → kO B T N K (2864 + 400 * 6 + k) = nI (tV B T k) := fun k hk => by
    unfold kO
    rw [if_neg (by omega), if_pos (by omega), show 2864 + 400 * 6 + k - 5264 = k by omega]
  have eC : kC (kO B T N K) 6 = tC B T := by
    funext k
    unfold kC
    rw [show 57 + 6 = 63 from rfl, cN]
    by_cases c : k < N
    · rw [if_pos c, a1 k c, nI_clamp (by have := cl k; omega)]
    · rw [if_neg c, n4 k (by omega)]
  have eV : kV (kO B T N K) 6 = tV B T := by
    funext k
    unfold kV
    rw [show 57 + 6 = 63 from rfl, cN]
    by_cases c : k < N
    · rw [if_pos c, a2 k c, nI_clamp (by have := vl k; omega)]
    · rw [if_neg c]
      have := tS_ge2 n2 (k - N)
      rw [show N + (k - N) = k by omega] at this
      unfold tV vlT
      rw [if_pos (by omega)]
  refine ⟨⟨⟨N, N4, e63, fun k hk => ?_⟩, N4, e63⟩, eC, eV⟩
  rw [eC, eV]
  exact ⟨a1 k hk, cl k, a2 k hk, by have := vl k; omega⟩
theorem kO_law (N4 : N ≤ 400) (h : lawOf K c) : lawOf (kO B T N K) c := by
  have e : ∀ j, ¬ (2464 ≤ j ∧ j < 2864) → ¬ (5264 ≤ j ∧ j < 5664) → ¬ j = 63 → kO B T N K j = K j := fun j => kO_lo N4
  generalize kO B T N K = K' at *
  rcases h with ⟨e1, rfl⟩ | ⟨f, n, T, CL, hf, ef, ho, eT, hT, hp, rfl⟩
  · exact Or.inl ⟨(e 56 (by omega) (by omega) (by omega)).trans e1, rfl⟩
  · have e3 : K' (57 + f) = K (57 + f) := e _ (by omega) (by omega) (by omega)
    have cT : (K (57 + f)).toNatClampNeg = T := by rw [eT, nI_clamp (by omega)]
    have c1 : kC K' f = kC K f := by
      funext k
      unfold kC
      rw [e3, cT]
      by_cases c : k < T
      · rw [if_pos c, if_pos c, e _ (by omega) (by omega) (by omega)]
      · rw [if_neg c, if_neg c]
    have c2 : kV K' f = kV K f := by
      funext k
      unfold kV
      rw [e3, cT]
      by_cases c : k < T
      · rw [if_pos c, if_pos c, e _ (by omega) (by omega) (by omega)]
      · rw [if_neg c, if_neg c]
    refine Or.inr ⟨f, n, T, CL, hf, (e 56 (by omega) (by omega) (by omega)).trans ef, ?_, e3.trans eT, hT, by rw [c1, c2]; exact hp, rfl⟩
    obtain ⟨T', hT', e', hk⟩ := ho
    refine ⟨T', hT', e3.trans e', fun k hk' => ?_⟩
    rw [c1, c2, e _ (by omega) (by omega) (by omega), e _ (by omega) (by omega) (by omega)]
    exact hk k hk'
theorem pu_slf {α : Type} {f : Nat → Nat → α} {a k : Nat} : p_u f a k (f a k) = f := by
  funext b j
  by_cases e : b = a
  · subst e
    rw [p_u_at]
    by_cases ej : j = k
    · subst ej; rw [if_pos rfl]
    · rw [if_neg ej]
  · rw [p_u_ne e]
def frZ (F J : Nat → Nat → Int32) : Prop := (∀ a, a < 123 ∨ a = 126 ∨ a = 127 ∨ a = 129 ∨ a = 130 ∨ a = 131 ∨ 137 < a → J a = F a) ∧ J 123 6 = F 123 6 ∧ J 123 46 = F 123 46 ∧ J 123 13 = nI 0 ∧ J 123 14 = mI 1
/-- what the reference's orders leave -/
def odQ (Ls : Nat) (F : Nat → Nat → Int32) (S : Nat → Nat → Option Nat) (X : List pKd) (K1 : Nat → Int32) (r : Except Nat oS) (v : Option Value) (h' : pHp) : Prop := match r with
  | .ok s' => v = some (.int (nI s'.2.2.2.1)) ∧ ∃ J L', frZ F J ∧ rfS J s'.1 s'.2.1 s'.2.2.1 ∧ J 123 0 = 0 ∧ J 123 37 = mI 1 ∧ J 124 = F 124 ∧ h' = p_mk Ls J L' S X
  | .error e => v = some (.int (-3)) ∧ ∃ J L', frZ F J ∧ J 125 = K1 ∧ J 123 31 = F 123 31 ∧ (∀ i, i < 224 → J 136 i = F 136 i) ∧ J 123 0 = -3 ∧ J 123 37 = nI e ∧ (∀ j, J 124 j = if j = 3 then F 124 3 + 1 else F 124 j) ∧ h' = p_mk Ls J L' S X
theorem pl_253 {CL : List tCl} {k : Nat} (hM : mB B T F) (hN : tkN B T N) (hT : T ≤ 400) (hB : ∀ k, k < T → B k < 256) (t13 : F 123 13 = nI T) (hr : RX true (tC B T) (tV B T) N 0 0 0 0 [] = some (.ok CL)) (hV : vld (F 125)) (hl : lawOf (kO B T N (F 125)) c) (hp : rfS F (F 125) k M) : P_m (d + 60) 253 [.ref 123] (p_mk Ls F L S X) (odQ Ls F S X (kO B T N (F 125)) (oC c 0 CL (kO B T N (F 125), k, M, 0, mI 1))) := by
  have N4 : N ≤ 400 := by have := hN.1; omega
  have f1 : ∀ a, ¬ a = 123 → p_u F 123 37 (mI 1) a = F a := fun a ha => p_u_ne ha
  obtain ⟨J2, ⟨f2, g13, g14, g18, g3⟩, s179⟩ := pl_179 (x := d + 22) (Ls := Ls) (I := p_u F 123 37 (mI 1)) (L := L) (R := S) (X := X) (o := true) ⟨hM.1, fun k hk => by rw [f1 130 (by omega)]; exact hM.2.1 k hk, by rw [f1 129 (by omega)]; exact hM.2.2⟩ hN (by rw [p_u_at, if_neg (by omega)]; exact t13) hr
  replace s179 : P_m (d + 59) 179 [.ref 123, .int (nI 1)] (p_mk Ls (p_u F 123 37 (mI 1)) L S X) (fun v h' => v = some (.int (nI 1)) ∧ h' = p_mk Ls J2 L S X) := s179
  have s251 := sp_251 (d := d + 58) (Ls := Ls) (I := J2) (L := L) (R := S) (X := X)
  have e2 : ∀ a, ¬ a = 123 → ¬ a = 132 → ¬ a = 133 → ¬ a = 134 → J2 a = F a := fun a a1 a2 a3 a4 => by rw [f2.1 a a1 a2 a3 a4, f1 a a1]
  have e2q : ∀ q, ¬ (8 ≤ q ∧ q ≤ 10) → ¬ q = 13 → ¬ q = 14 → ¬ (18 ≤ q ∧ q ≤ 21) → ¬ q = 37 → J2 123 q = F 123 q := fun q q1 q2 q3 q4 q5 => by rw [f2.2 q (by omega) (by omega) (by omega) (by omega) (by omega) (by omega) (by omega) (by omega) (by omega), p_u_at, if_neg q5]
  have e37 : J2 123 37 = mI 1 := by rw [f2.2 37 (by omega) (by omega) (by omega) (by omega) (by omega) (by omega) (by omega) (by omega) (by omega), p_u_at, if_pos rfl]
  have g14 : J2 123 14 = mI 1 := g14
  generalize hJ3 : p_u (p_fn (p_fn J2 128 (va_cpy (J2 125) (J2 128) 0 13 13)) 137 (va_cpy (J2 136) (J2 137) 0 0 224)) 123 44 (J2 123 31) = J3 at *
  have e3 : ∀ a, ¬ a = 123 → ¬ a = 128 → ¬ a = 137 → J3 a = J2 a := fun a a1 a2 a3 => by rw [← hJ3, p_u_ne a1, pf_ne a3, pf_ne a2]
  have e3q : ∀ q, ¬ q = 44 → J3 123 q = J2 123 q := fun q hq => by rw [← hJ3, p_u_at, if_neg hq, pf_ne (by omega), pf_ne (by omega)]
  have e344 : J3 123 44 = J2 123 31 := by rw [← hJ3, p_u_at, if_pos rfl]
  have e3a : ∀ j, j < 13 → J3 128 (13 + j) = F 125 j := fun j hj => by
    rw [← hJ3, p_u_ne (by omega), pf_ne (by omega), pf_at]
    unfold va_cpy
    rw [if_pos (by omega), e2 125 (by omega) (by omega) (by omega) (by omega)]
    congr 1 <;> omega
  have e3b : ∀ i, i < 224 → J3 137 i = F 136 i := fun i hi => by
    rw [← hJ3, p_u_ne (by omega), pf_at]
    unfold va_cpy
    rw [if_pos (by omega), e2 136 (by omega) (by omega) (by omega) (by omega)]
    congr 1 <;> omega
  have q18 : J3 123 18 = nI N := by rw [e3q 18 (by omega)]; exact g18
  obtain ⟨J4, ⟨f4, l4⟩, s180⟩ := pl_180o (d := d + 59) (Ls := Ls) (I := J3) (L := L) (R := S) (X := X) (B := B) (T := T) (N := N) (t := 6) (Nat.le_refl 6) N4 q18 (fun j hj => by rw [e3 132 (by omega) (by omega) (by omega), e3 133 (by omega) (by omega) (by omega), e3 134 (by omega) (by omega) (by omega)]; exact g3 j (by omega))
  have k3 : J3 125 = F 125 := by rw [e3 125 (by omega) (by omega) (by omega), e2 125 (by omega) (by omega) (by omega) (by omega)]
  rw [k3] at l4
  have k4 : J4 125 = kO B T N (F 125) := kO_ly N4 l4
  obtain ⟨J5, hJ5⟩ : ∃ J5, J5 = p_u (p_u (p_u J4 123 27 (nI 0)) 123 28 (mI 1)) 123 38 (nI 2400) := ⟨_, rfl⟩
  have e5 : ∀ a, ¬ a = 123 → J5 a = J4 a := fun a ha => by rw [hJ5, p_u_ne ha, p_u_ne ha, p_u_ne ha]
  have e5q : ∀ q, ¬ q = 27 → ¬ q = 28 → ¬ q = 38 → J5 123 q = J4 123 q := fun q q1 q2 q3 => by rw [hJ5, p_u_at, if_neg q3, p_u_at, if_neg q2, p_u_at, if_neg q1]
  have e27 : J5 123 27 = nI 0 := by rw [hJ5, p_u_at, if_neg (by omega), p_u_at, if_neg (by omega), p_u_at, if_pos rfl]
  have e28 : J5 123 28 = mI 1 := by rw [hJ5, p_u_at, if_neg (by omega), p_u_at, if_pos rfl]
  have e38 : J5 123 38 = nI 2400 := by rw [hJ5, p_u_at, if_pos rfl]
  have k5 : J5 125 = kO B T N (F 125) := by rw [e5 125 (by omega)]; exact k4
  have k63 : J5 125 63 = nI N := by rw [k5]; exact kO_63 N4
  have x5 : ∀ a, ¬ a = 123 → ¬ a = 125 → ¬ a = 128 → ¬ (132 ≤ a ∧ a ≤ 134) → ¬ a = 137 → J5 a = F a := fun a a1 a2 a3 a4 a5 => by rw [e5 a a1, f4 a a2, e3 a a1 a3 a5, e2 a a1 (by omega) (by omega) (by omega)]
  have x5q : ∀ q, ¬ q = 27 → ¬ q = 28 → ¬ q = 38 → ¬ q = 44 → J5 123 q = J2 123 q := fun q q1 q2 q3 q4 => by rw [e5q q q1 q2 q3, f4 123 (by omega), e3q q q4]
  obtain ⟨tx, eC, eV⟩ := kO_tx (K := F 125) hN hT hB
  have hr' : pX true (kC (kO B T N (F 125)) 6) (kV (kO B T N (F 125)) 6) N 2200 0 0 0 0 [] = some (.ok CL) := by rw [eC, eV]; exact hr
  have pg := pX_g (o := true) (C := tC B T) (V := tV B T) (T := N) 2200 0 0 0 0 [] CL (by omega) rfl (by omega) rfl (Nat.le_refl 0) (fun j cl hj => by cases hj) hr
  obtain ⟨rest, er, lp⟩ := lp_253 (D := d + 56) (Ls := Ls) (I := J5) (L := L) (R := S) (X := X) (c := c) tx (by omega) 2200 0 0 0 0 [] CL (by omega) (by omega) hr'
  have er : CL = rest := er
  subst er
  have hV1 : vld (kO B T N (F 125)) := vld_K hV (fun k hk => kO_lo N4 (by omega) (by omega) (by omega))
  have go := lp (kO B T N (F 125), k, M, 0, mI 1) J5 (L 123 43) ⟨fun _ _ _ _ _ => rfl, fun _ _ _ _ => rfl⟩ ⟨⟨k5, by rw [x5q 31 (by omega) (by omega) (by omega) (by omega), e2q 31 (by omega) (by omega) (by omega) (by omega) (by omega)]; exact hp.2.1, hp.2.2.1, fun i hi => by rw [x5 136 (by omega) (by omega) (by omega) (by omega) (by omega)]; exact hp.2.2.2 i hi⟩, e27, e28⟩ ⟨hV1, hl, by show inB (mI 1).toInt; unfold inB; decide, fun _ _ => rfl⟩ e38 (by show 0 + 20 * CL.length ≤ 300; omega)
  rw [pu_slf] at go
  clear lp
  have run : P_m (d + 60) 253 [.ref 123] (p_mk Ls F L S X) (rmQ Ls J5 L S X c (kO B T N (F 125)) (oC c 0 CL (kO B T N (F 125), k, M, 0, mI 1))) := by
    generalize rmQ Ls J5 L S X c (kO B T N (F 125)) (oC c 0 CL (kO B T N (F 125), k, M, 0, mI 1)) = QQ at *
    clear hr hr' tx eC eV l4 g3
    simp -implicitDefEqProofs (disch := first | omega | decide) only [P_m, ↓P_run_eq _ 253 _ (p_bk 253 0), bk_253_0, pb_253_0, ↓P_run_eq _ 253 _ (p_bk 253 1), bk_253_1, pb_253_1, pw_aload_n0, pw_aloadN_n0, pw_iconst, il_m1, pw_putI, il_1, pw_iv2, pw_zne, pw_bipush, bl_m6, pw_ret0, pw_iv1, bl_6, il_0, pw_sipush, sl_2400, pw_getI, pw_getR, bl_63, pw_iald, pw_iadd, pw_istore_n1, ps_1, pe_1, po_i1, po_r1, po_n1, po_u1, pw_istore_n2, ps_2, pe_2, po_i2, po_r2, po_n2, po_u2, pw_nop, kd_123, rf_123_1, rf_123_2, rf_123_3, rf_123_4, rf_123_5, rf_123_7, rf_123_11, rf_123_12, rf_123_15, rf_123_16, rf_123_17, rf_123_26, rf_123_29, rf_123_30, rf_123_32, rf_123_34, rf_123_35, rf_123_45, kd_125, n_0, n_1, n_6, n_63, n_2400, nn_lt, nn_nlt, nn_le, nn_nle, nn_ne, nn_sub, nn_mul, nI_add, nn_neg, nm_eq, mn_eq, mm_eq, mn_lt, nm_lt, mn_le, nm_le, nn_sub0, nn_of, implies_true, nn_c, nn_in, nn_div, nat_rem, Nat.reduceMul, Nat.reduceSub, Nat.reduceDiv, Nat.reduceMod, pf_at, pf_ne, mk_s, mk_1, Classical.not_not, b2i_T, b2i_F, false_imp_iff, true_imp_iff, false_and, and_false, p_sw, Int.reduceAdd, Int.zero_add, Option.some.injEq, Value.int.injEq, Value.long.injEq, Value.ref.injEq, exists_eq_left', mk_I, mk_L, mk_wI, mk_wL, rf_s, rf_n, true_and, and_true, and_self, or_true, true_or, or_false, false_or, not_true_eq_false, not_false_eq_true, Option.toList_some, Option.toList_none, List.cons_append, List.nil_append, List.map_nil, List.map_cons, List.sum_nil, List.sum_cons, cat_i, cat_l, cat_r, cat_n, Nat.reduceLeDiff, Nat.reduceAdd, Nat.reduceEqDiff, Nat.zero_le, p_ent, p_u_ne, p_u_at, reduceIte, if_true, if_false, P_ce s179, P_ce s251, P_ce s180, ← hJ5, e38, k63]
    exact go
  refine p_run_Q run ?_
  intro v h' hq
  clear run go
  cases ho : oC c 0 CL (kO B T N (F 125), k, M, 0, mI 1) with
  | ok s' =>
    rw [ho] at hq
    obtain ⟨rfl, o1, J, w, f, r, rfl⟩ := hq
    refine ⟨rfl, p_u J 123 0 0, _, ⟨fun a ha => ?_, ?_, ?_, ?_, ?_⟩, ?_, ?_, ?_, ?_, rfl⟩
    · rw [p_u_ne (by omega), f.1 a (by omega) (by omega) (by omega) (by omega), x5 a (by omega) (by omega) (by omega) (by omega) (by omega)]
    · rw [p_u_at, if_neg (by omega), f.2 6 (by omega) (by omega) (by omega), x5q 6 (by omega) (by omega) (by omega) (by omega), e2q 6 (by omega) (by omega) (by omega) (by omega) (by omega)]
    · rw [p_u_at, if_neg (by omega), f.2 46 (by omega) (by omega) (by omega), x5q 46 (by omega) (by omega) (by omega) (by omega), e2q 46 (by omega) (by omega) (by omega) (by omega) (by omega)]
    · rw [p_u_at, if_neg (by omega), f.2 13 (by omega) (by omega) (by omega), x5q 13 (by omega) (by omega) (by omega) (by omega)]; exact g13
    · rw [p_u_at, if_neg (by omega), f.2 14 (by omega) (by omega) (by omega), x5q 14 (by omega) (by omega) (by omega) (by omega)]; exact g14
    · obtain ⟨⟨r1, r2, r3, r4⟩, -, -⟩ := r
      exact ⟨by rw [p_u_ne (by omega)]; exact r1, by rw [p_u_at, if_neg (by omega)]; exact r2, r3, fun i hi => by rw [p_u_ne (by omega)]; exact r4 i hi⟩
    · rw [p_u_at, if_pos rfl]
    · rw [p_u_at, if_neg (by omega), f.2 37 (by omega) (by omega) (by omega), x5q 37 (by omega) (by omega) (by omega) (by omega)]; exact e37
    · rw [p_u_ne (by omega), f.1 124 (by omega) (by omega) (by omega) (by omega), x5 124 (by omega) (by omega) (by omega) (by omega) (by omega)]
  | error e =>
    rw [ho] at hq
    obtain ⟨rfl, J, w, f, k13, rfl⟩ := hq
    have t : ∀ a, ¬ a = 123 → ¬ a = 125 → ¬ a = 136 → tbI J a = J a := fun a a1 a2 a3 => by unfold tbI; rw [p_u_ne a1, pf_ne a3, pf_ne a2]
    have tq : ∀ q, ¬ q = 31 → tbI J 123 q = J 123 q := fun q hq => by unfold tbI; rw [p_u_at, if_neg hq, pf_ne (by omega), pf_ne (by omega)]
    have i124 : J 124 = F 124 := by rw [f.1 124 (by omega) (by omega) (by omega) (by omega), x5 124 (by omega) (by omega) (by omega) (by omega) (by omega)]
    refine ⟨rfl, p_u (p_u (p_u (tbI J) 123 37 (nI e)) 123 0 (-3)) 124 3 (J 124 3 + 1), _, ⟨fun a ha => ?_, ?_, ?_, ?_, ?_⟩, ?_, ?_, fun i hi => ?_, ?_, ?_, fun j => ?_, rfl⟩
    · rw [p_u_ne (by omega), p_u_ne (by omega), p_u_ne (by omega), t a (by omega) (by omega) (by omega), f.1 a (by omega) (by omega) (by omega) (by omega), x5 a (by omega) (by omega) (by omega) (by omega) (by omega)]
    · rw [p_u_ne (by omega), p_u_at, if_neg (by omega), p_u_at, if_neg (by omega), tq 6 (by omega), f.2 6 (by omega) (by omega) (by omega), x5q 6 (by omega) (by omega) (by omega) (by omega), e2q 6 (by omega) (by omega) (by omega) (by omega) (by omega)]
    · rw [p_u_ne (by omega), p_u_at, if_neg (by omega), p_u_at, if_neg (by omega), tq 46 (by omega), f.2 46 (by omega) (by omega) (by omega), x5q 46 (by omega) (by omega) (by omega) (by omega), e2q 46 (by omega) (by omega) (by omega) (by omega) (by omega)]
    · rw [p_u_ne (by omega), p_u_at, if_neg (by omega), p_u_at, if_neg (by omega), tq 13 (by omega), f.2 13 (by omega) (by omega) (by omega), x5q 13 (by omega) (by omega) (by omega) (by omega)]; exact g13
    · rw [p_u_ne (by omega), p_u_at, if_neg (by omega), p_u_at, if_neg (by omega), tq 14 (by omega), f.2 14 (by omega) (by omega) (by omega), x5q 14 (by omega) (by omega) (by omega) (by omega)]; exact g14
    · rw [p_u_ne (by omega), p_u_ne (by omega), p_u_ne (by omega)]
      funext j
      unfold tbI
      rw [p_u_ne (by omega), pf_ne (by omega), pf_at]
      unfold va_cpy
      by_cases hj : j < 13
      · rw [if_pos (by omega), f.1 128 (by omega) (by omega) (by omega) (by omega), e5 128 (by omega), f4 128 (by omega)]
        rw [kO_lo N4 (by omega) (by omega) (by omega), ← e3a j hj]
        congr 1 <;> omega
      · rw [if_neg (by omega)]
        exact k13 j (by omega)
    · rw [p_u_ne (by omega), p_u_at, if_neg (by omega), p_u_at, if_neg (by omega)]
      unfold tbI
      rw [p_u_at, if_pos rfl, f.2 44 (by omega) (by omega) (by omega), e5q 44 (by omega) (by omega) (by omega), f4 123 (by omega), e344, e2q 31 (by omega) (by omega) (by omega) (by omega) (by omega)]
    · rw [p_u_ne (by omega), p_u_ne (by omega), p_u_ne (by omega)]
      unfold tbI
      rw [p_u_ne (by omega), pf_at]
      unfold va_cpy
      rw [if_pos (by omega), ← e3b i hi, f.1 137 (by omega) (by omega) (by omega) (by omega), e5 137 (by omega), f4 137 (by omega)]
      congr 1 <;> omega
    · rw [p_u_ne (by omega), p_u_at, if_pos rfl]
    · rw [p_u_ne (by omega), p_u_at, if_neg (by omega), p_u_at, if_pos rfl]
    · rw [p_u_at, p_u_ne (by omega), p_u_ne (by omega), t 124 (by omega) (by omega) (by omega), i124]
end GF
