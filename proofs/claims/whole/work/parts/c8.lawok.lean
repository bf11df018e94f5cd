section LO
variable {d Ls : Nat} {I F : Nat → Nat → Int32} {L : Nat → Nat → Int64} {R S : Nat → Nat → Option Nat} {X Z : List pKd}
theorem Inv_law {c5 t : Nat} (H : Inv I R X) (h5 : kn (I 125) 55 = c5) (c6 : c5 < 6) (fa : ∀ a, a < 32 ∨ a = 34 ∨ (72 ≤ a ∧ a ≤ 78) ∨ a = 80 ∨ a = 81 ∨ (93 ≤ a ∧ a ≤ 122) ∨ a = 124 ∨ (126 ≤ a ∧ a ≤ 131) ∨ a = 136 ∨ a = 141 ∨ (142 ≤ a ∧ a < 142 + X.length) → F a = I a) (f71 : ∀ j, F 71 j = if j = 13 then nI (c5 + 1) else I 71 j) (f33 : F 33 1 = nI 0) (g13 : F 123 13 = nI 0) (f32 : ∀ k, k = 10 ∨ k = 16 ∨ k = 17 → F 32 k = I 32 k) (g14 : F 32 14 = F 123 0) (gf : F 32 15 = F 123 14) (f123 : ∀ k, k = 6 ∨ k = 31 ∨ k = 37 ∨ k = 46 → F 123 k = I 123 k) (hK1 : F 125 55 = nI (c5 + 1)) (hK4 : ∀ j, ¬ j = 55 → ¬ j = 57 + c5 → ¬ (64 + 400 * c5 ≤ j ∧ j < 64 + 400 * c5 + 400) → ¬ (2864 + 400 * c5 ≤ j ∧ j < 2864 + 400 * c5 + 400) → F 125 j = I 125 j) (s79 : ∀ j, S 79 j = if j = c5 then some t else R 79 j) (sR : ∀ a, a = 111 ∨ a = 120 ∨ (142 ≤ a ∧ a < 142 + X.length) → S a = R a) (new : lawRel F S (X ++ Z) t (F 125) c5) : Inv F S (X ++ Z) := by
  obtain ⟨h1, h2, h3, h4, hI, hD, hH, hV⟩ := H
  have kl : ∀ j, j < 57 → ¬ j = 55 → F 125 j = I 125 j := fun j hj hn => hK4 j hn (by omega) (by omega) (by omega)
  have e55 := kn_e hV (j := 55) (by omega) (by omega) (by omega)
  refine ⟨invK_fr (fun a ha => fa a (by omega)) (fa 129 (by omega)) h1, ?_, ?_, invU_fr (fa 80 (by omega)) (fa 81 (by omega)) (fa 136 (by omega)) (kl 52 (by omega) (by omega)) (f123 31 (by omega)) h4, invI_gr (fun b b1 b2 => fa b (by omega)) (fa 126 (by omega)) (fa 127 (by omega)) (fun a a1 a2 => fa a (by omega)) (sR 111 (by omega)) (sR 120 (by omega)) (fun a a1 a2 => sR a (by omega)) hI, invD_fr (f32 10 (by omega)) (f123 46 (by omega)) (fa 93 (by omega)) (fa 98 (by omega)) (fa 100 (by omega)) (fa 141 (by omega)) hD, ⟨?_, ?_, ?_⟩, ?_⟩
  · obtain ⟨a1, -, -, a4, a5⟩ := h2
    refine ⟨fun k hk => by rw [fa 122 (by omega), fa 124 (by omega)]; exact a1 k hk, g14, gf, ?_, ?_⟩
    · rw [f32 16 (by omega), f123 37 (by omega)]; exact a4
    · rw [f32 17 (by omega), f123 6 (by omega)]; exact a5
  · refine ⟨⟨0, by omega, f33⟩, by rw [g13, f33], fun k hk => ?_⟩
    rw [f33, nI_clamp (by omega)] at hk
    exact absurd hk (Nat.not_lt_zero k)
  · intro k hk
    by_cases k55 : k = 55
    · subst k55
      show F 71 13 = F 125 55
      rw [f71, if_pos rfl, hK1]
    · rw [kl k hk k55, ← hH.1 k hk]
      have dl := da_le k hk
      by_cases d0 : da k = 0
      · rw [d0]
        show F 71 (ix k) = I 71 (ix k)
        rw [f71, if_neg]
        intro e
        exact k55 (da_inj k hk 55 (by omega) (by rw [d0]; rfl) (by rw [e]; rfl))
      · rw [fa (71 + da k) (by omega)]
  · intro i hi
    show S 79 i = none ∨ _
    rw [show S (71 + 8) i = S 79 i from rfl, s79]
    by_cases ei : i = c5
    · rw [if_pos ei]
      exact Or.inr ⟨t, rfl, new.2.1, new.2.2.1⟩
    · rw [if_neg ei]
      rcases hH.2.1 i hi with h | ⟨u, u1, u2, u3⟩
      · exact Or.inl h
      · exact Or.inr ⟨u, u1, u2, nth_gr (by omega) u3⟩
  · intro i hi
    rw [hK1, nI_clamp (by omega)] at hi
    rw [show S (71 + 8) i = S 79 i from rfl, s79]
    by_cases ei : i = c5
    · subst ei
      rw [if_pos rfl]
      exact ⟨t, rfl, new.2.1, new⟩
    · rw [if_neg ei]
      obtain ⟨u, u1, u2, u3⟩ := hH.2.2 i (by
        have : kn (I 125) 55 = (I 125 55).toNatClampNeg := rfl
        omega)
      refine ⟨u, u1, u2, lawRel_gr u3 (fun a a1 a2 => fa a (by omega)) (fun a a1 a2 => sR a (by omega)) (fun j hj => hK4 j (by omega) (by omega) (by omega) (by omega))⟩
  · rw [vld_iff] at hV ⊢
    obtain ⟨v1, v2, v3, v4⟩ := hV
    refine ⟨fun k k1 k2 k3 => ?_, ?_, ?_, ?_⟩
    · by_cases k55 : k = 55
      · subst k55
        rw [hK1]
        exact ⟨c5 + 1, by show c5 + 1 ≤ 6; omega, rfl⟩
      · rw [kl k (by omega) k55]; exact v1 k k1 k2 k3
    · rw [kl 4 (by omega) (by omega), kl 52 (by omega) (by omega)]; exact v2
    · rw [kl 0 (by omega) (by omega), kl 52 (by omega) (by omega)]; exact v3
    · rw [kl 56 (by omega) (by omega), hK1, nI_clamp (by omega)]
      rcases v4 with v | ⟨f, f1, f2⟩
      · exact Or.inl v
      · refine Or.inr ⟨f, ?_, f2⟩
        have : kn (I 125) 55 = (I 125 55).toNatClampNeg := rfl
        omega
/-- the new law -/
theorem law_new {B : Nat → Nat} {T N c5 t m2 : Nat} {CL : List tCl} {K' : Nat → Int32} (hN : tkN B T N) (hT : T ≤ 400) (hB : ∀ k, k < T → B k < 256) (c6 : c5 < 6) (hr : RX false (tC B T) (tV B T) N 0 0 0 0 [] = some (.ok CL)) (ht : t = 142 + X.length) (hZ : Z = (0, 7) :: nTx CL.length (clCode CL).length) (hK2 : K' (57 + c5) = nI N) (hK3 : ∀ k, k < N → K' (64 + 400 * c5 + k) = nI (tC B T k) ∧ K' (2864 + 400 * c5 + k) = nI (tV B T k)) (r : S t 1 = some (t + 1) ∧ S t 2 = some (t + 2) ∧ S t 3 = some (t + 3) ∧ S t 4 = some (t + 4) ∧ S t 5 = some (t + 5) ∧ S t 7 = some (t + 6) ∧ S t 8 = some (t + 7)) (f0 : F t 0 = nI CL.length) (fx : txA F (t + 1) (t + 2) (t + 3) (t + 4) (t + 5) (t + 6) (t + 7) CL) : lawRel F S (X ++ Z) t K' c5 := by
  obtain ⟨n1, n2, n3, n4⟩ := hN
  have N4 : N ≤ 400 := by omega
  have cN : (K' (57 + c5)).toNatClampNeg = N := by rw [hK2, nI_clamp (by omega)]
  have cl : ∀ k, tC B T k ≤ 355 := fun k => tC_le hB
  have vl : ∀ k, tV B T k ≤ 10000009 := fun k => tV_le
  have eC : kC K' c5 = tC B T := by
    funext k
    unfold kC
    rw [cN]
    by_cases c : k < N
    · rw [if_pos c, (hK3 k c).1, nI_clamp (by have := cl k; omega)]
    · rw [if_neg c, n4 k (by omega)]
  have eV : kV K' c5 = tV B T := by
    funext k
    unfold kV
    rw [cN]
    by_cases c : k < N
    · rw [if_pos c, (hK3 k c).2, nI_clamp (by have := vl k; omega)]
    · rw [if_neg c]
      have := tS_ge2 n2 (k - N)
      rw [show N + (k - N) = k by omega] at this
      unfold tV vlT
      rw [if_pos (by omega)]
  have pg := pX_g (o := false) (C := tC B T) (V := tV B T) (T := N) 2200 0 0 0 0 [] CL (by omega) rfl (by omega) rfl (Nat.le_refl 0) (fun j cl hj => by cases hj) hr
  have nt : ∀ i, p_nth (X ++ Z) (X.length + i) = p_nth Z i := fun i => nth_i X Z i
  refine ⟨c6, by omega, ?_, ⟨N, N4, hK2, fun k hk => ?_⟩, 2200, CL, t + 1, t + 2, t + 3, t + 4, t + 5, t + 6, t + 7, CL.length, (clCode CL).length, ?_, f0, pg.2.2.1, Nat.le_refl _, Nat.le_refl _, pg.2.2.1, ?_, r, ⟨by omega, by omega, by omega, by omega, by omega, by omega, by omega⟩, ⟨?_, ?_, ?_, ?_, ?_, ?_, ?_⟩, fx⟩
  · rw [show t - 142 = X.length + 0 by omega, nt, hZ]; rfl
  · rw [eC, eV]
    exact ⟨(hK3 k hk).1, cl k, (hK3 k hk).2, by have := vl k; omega⟩
  · rw [eC, eV, cN]; exact hr
  · rw [clCode_len]; omega
  · rw [show t + 1 - 142 = X.length + 1 by omega, nt, hZ]; rfl
  · rw [show t + 2 - 142 = X.length + 2 by omega, nt, hZ]; rfl
  · rw [show t + 3 - 142 = X.length + 3 by omega, nt, hZ]; rfl
  · rw [show t + 4 - 142 = X.length + 4 by omega, nt, hZ]; rfl
  · rw [show t + 5 - 142 = X.length + 5 by omega, nt, hZ]; rfl
  · rw [show t + 6 - 142 = X.length + 6 by omega, nt, hZ]; rfl
  · rw [show t + 7 - 142 = X.length + 7 by omega, nt, hZ]; rfl
end LO
