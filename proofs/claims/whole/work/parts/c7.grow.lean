/-! WHAT STANDS, STANDS ALSO WHEN CELLS ARE MADE -/
section GR
variable {I I' : Nat → Nat → Int32} {R R' : Nat → Nat → Option Nat} {X Z : List pKd} {K K' : Nat → Int32}
theorem nth_in {a k m : Nat} (hk : k < 50) (h : p_nth X a = (k, m)) : a < X.length := p_nth_lt X a (by rw [h]; intro e; have := congrArg Prod.fst e; simp at this; omega)
theorem nth_gr {a k m : Nat} (hk : k < 50) (h : p_nth X a = (k, m)) : p_nth (X ++ Z) a = (k, m) := by rw [p_nth_app _ _ _ (nth_in hk h)]; exact h
theorem lawRel_gr {t i : Nat} (h : lawRel I R X t K i) (hI : ∀ a, 142 ≤ a → a < 142 + X.length → I' a = I a) (hR : ∀ a, 142 ≤ a → a < 142 + X.length → R' a = R a) (hK : ∀ j, j = 57 + i ∨ (64 + 400 * i ≤ j ∧ j < 64 + 400 * i + 400) ∨ (2864 + 400 * i ≤ j ∧ j < 2864 + 400 * i + 400) → K' j = K j) : lawRel I' R' (X ++ Z) t K' i := by
  obtain ⟨hi, ht, h0, ho, n, CL, a1, a2, a3, a4, a5, a7, a8, m1, m2, h1, h2, h3, h4, h5, h6, h7, hr, ha, hx, htx⟩ := h
  have e0 := hK (57 + i) (Or.inl rfl)
  obtain ⟨T, hT, e, hk⟩ := ho
  have ec : (K (57 + i)).toNatClampNeg = T := by rw [e, nI_clamp (by omega)]
  have e1 : kC K' i = kC K i := by
    funext k
    unfold kC
    rw [e0, ec]
    by_cases c : k < T
    · rw [if_pos c, if_pos c, hK _ (by omega)]
    · rw [if_neg c, if_neg c]
  have e2 : kV K' i = kV K i := by
    funext k
    unfold kV
    rw [e0, ec]
    by_cases c : k < T
    · rw [if_pos c, if_pos c, hK _ (by omega)]
    · rw [if_neg c, if_neg c]
  obtain ⟨x1, x2, x3, x4, x5, x7, x8⟩ := hx
  have tl := nth_in (by omega) h0
  have l1 := nth_in (by omega) x1
  have l2 := nth_in (by omega) x2
  have l3 := nth_in (by omega) x3
  have l4 := nth_in (by omega) x4
  have l5 := nth_in (by omega) x5
  have l7 := nth_in (by omega) x7
  have l8 := nth_in (by omega) x8
  obtain ⟨b1, b2, b3, b4, b5, b7, b8⟩ := ha
  refine ⟨hi, ht, nth_gr (by omega) h0, ⟨T, hT, e0.trans e, fun k hk' => ?_⟩, n, CL, a1, a2, a3, a4, a5, a7, a8, m1, m2, by rw [e1, e2, e0]; exact h1, by rw [hI t ht (by omega)]; exact h2, h3, h4, h5, h6, h7, by rw [hR t ht (by omega)]; exact hr, ⟨b1, b2, b3, b4, b5, b7, b8⟩, ⟨nth_gr (by omega) x1, nth_gr (by omega) x2, nth_gr (by omega) x3, nth_gr (by omega) x4, nth_gr (by omega) x5, nth_gr (by omega) x7, nth_gr (by omega) x8⟩, ?_⟩
  · rw [e1, e2, hK _ (by omega), hK _ (by omega)]
    exact hk k hk'
  · unfold txA at *
    rw [hI a1 b1 (by omega), hI a2 b2 (by omega), hI a3 b3 (by omega), hI a4 b4 (by omega), hI a5 b5 (by omega), hI a7 b7 (by omega), hI a8 b8 (by omega)]
    exact htx
theorem txR_gr {a : Nat} (h : txR R X a) (e : R' a = R a) : txR R' (X ++ Z) a := fun i hi => by
  rw [e]
  rcases h i hi with h | ⟨t, h1, h2, h3⟩
  · exact Or.inl h
  · exact Or.inr ⟨t, h1, h2, nth_gr (by omega) h3⟩
theorem hutL_gr {a : Nat} (h : hutL I R X a K) (e : R' (a + 8) = R (a + 8)) (hI : ∀ a, 142 ≤ a → a < 142 + X.length → I' a = I a) (hR : ∀ a, 142 ≤ a → a < 142 + X.length → R' a = R a) : hutL I' R' (X ++ Z) a K := ⟨txR_gr h.1 e, fun i hi => by
  obtain ⟨t, h1, h2, h3⟩ := h.2 i hi
  exact ⟨t, by rw [e]; exact h1, h2, lawRel_gr h3 hI hR (fun _ _ => rfl)⟩⟩
theorem invI_gr (e1 : ∀ b, 103 ≤ b → b ≤ 121 → I' b = I b) (e2 : I' 126 = I 126) (e3 : I' 127 = I 127) (hI : ∀ a, 142 ≤ a → a < 142 + X.length → I' a = I a) (e5 : R' 111 = R 111) (e6 : R' 120 = R 120) (hR : ∀ a, 142 ≤ a → a < 142 + X.length → R' a = R a) (h : invI I R X) : invI I' R' (X ++ Z) := by
  intro j hj
  obtain ⟨h1, h2⟩ := h j hj
  refine ⟨by rw [e1 121 (by omega) (by omega), e3]; exact h1, ?_⟩
  rw [e1 121 (by omega) (by omega), e2]
  rcases h2 with h2 | ⟨h2, h3, h4⟩
  · exact Or.inl h2
  · refine Or.inr ⟨h2, ⟨hutR_f h3.1 (fun b b1 b2 => e1 b (by omega) (by omega)), ?_⟩, h4⟩
    refine hutL_gr h3.2 ?_ hI hR
    have : j = 0 ∨ j = 1 := by omega
    rcases this with rfl | rfl
    · exact e5
    · exact e6
end GR
