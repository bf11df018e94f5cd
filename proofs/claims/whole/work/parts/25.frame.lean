/-! WHAT STAYS: each part of the invariant by the cells that it speaks of -/
section FRM
variable {I J : Nat → Nat → Int32} {R Q : Nat → Nat → Option Nat} {X : List pKd}
theorem invK_fr (e : ∀ a, a < 32 → J a = I a) (e9 : J 129 = I 129) (h : invK I) : invK J := by
  unfold invK at *
  rw [e 0 (by omega), e 1 (by omega), e 30 (by omega), e9]
  refine ⟨h.1, h.2.1, h.2.2.1, fun j hj => ?_, h.2.2.2.2⟩
  rw [e (12 + j) (by omega), e (3 + j) (by omega)]
  exact h.2.2.2.1 j hj
theorem invC_fr (e1 : J 122 = I 122) (e2 : J 124 = I 124) (e3 : J 32 14 = I 32 14) (e4 : J 123 0 = I 123 0) (e5 : J 32 15 = I 32 15) (e6 : J 123 14 = I 123 14) (e7 : J 32 16 = I 32 16) (e8 : J 123 37 = I 123 37) (e9 : J 32 17 = I 32 17) (e10 : J 123 6 = I 123 6) (h : invC I) : invC J := by
  unfold invC at *
  rw [e1, e2, e3, e4, e5, e6, e7, e8, e9, e10]
  exact h
theorem invT_fr (e1 : J 33 1 = I 33 1) (e2 : J 34 = I 34) (e3 : J 130 = I 130) (e4 : J 123 13 = I 123 13) (h : invT I) : invT J := by
  unfold invT at *
  rw [e1, e2, e3, e4]
  exact h
theorem invU_fr (e1 : J 80 = I 80) (e2 : J 81 = I 81) (e3 : J 136 = I 136) (e4 : J 125 52 = I 125 52) (e5 : J 123 31 = I 123 31) (h : invU I) : invU J := by
  obtain ⟨n, k, h1, h2, h3, h4, h5, h6⟩ := h
  refine ⟨n, k, by rw [e1]; exact h1, by rw [e1]; exact h2, by rw [e5]; exact h3, h4, h5, fun j hj => ?_⟩
  rw [e2, e3]
  refine ⟨(h6 j hj).1, ?_⟩
  have := (h6 j hj).2
  unfold rowVld at *
  rw [e4]
  exact this
theorem invU_0 (e1 : bn (J 80 1) 16) (e2 : J 80 2 = 0) (e3 : J 123 31 = 0) : invU J := by
  obtain ⟨n, hn, e⟩ := e1
  exact ⟨n, 0, e, e2, e3, by omega, by omega, fun j hj => absurd hj (Nat.not_lt_zero _)⟩
theorem hut_fr {a : Nat} {K : Nat → Int32} (e1 : ∀ b, a ≤ b → b ≤ a + 7 → J b = I b) (e2 : ∀ b, 142 ≤ b → J b = I b) (e3 : Q (a + 8) = R (a + 8)) (e4 : ∀ b, 142 ≤ b → Q b = R b) (h : hutRel I R X a K) : hutRel J Q X a K := by
  obtain ⟨h1, h3⟩ := h
  refine ⟨hutR_f h1 e1, ?_, fun i hi => ?_⟩
  · intro i hi; rw [e3]; exact h3.1 i hi
  · obtain ⟨t, g1, g2, g3⟩ := h3.2 i hi
    exact ⟨t, by rw [e3]; exact g1, g2, lawRel_same g3 e2 e4 (fun _ _ _ => rfl)⟩
theorem invI_fr (e1 : ∀ b, 103 ≤ b → b ≤ 121 → J b = I b) (e2 : J 126 = I 126) (e3 : J 127 = I 127) (e4 : ∀ b, 142 ≤ b → J b = I b) (e5 : Q 111 = R 111) (e6 : Q 120 = R 120) (e7 : ∀ b, 142 ≤ b → Q b = R b) (h : invI I R X) : invI J Q X := by
  intro j hj
  obtain ⟨g1, g2⟩ := h j hj
  rw [e1 121 (by omega) (by omega), e2, e3]
  refine ⟨g1, ?_⟩
  rcases g2 with g2 | ⟨g2, g3, g4⟩
  · exact Or.inl g2
  · refine Or.inr ⟨g2, hut_fr (fun b b1 b2 => e1 b (by omega) (by omega)) e4 ?_ e7 g3, g4⟩
    have : j = 0 ∨ j = 1 := by omega
    rcases this with rfl | rfl
    · exact e5
    · exact e6
theorem invD_fr (e1 : J 32 10 = I 32 10) (e2 : J 123 46 = I 123 46) (e3 : J 93 = I 93) (e4 : J 98 = I 98) (e5 : J 100 = I 100) (e6 : J 141 = I 141) (h : invD I) : invD J := by
  unfold invD at *
  rw [e1, e2, e3, e4, e5, e6]
  exact h
/-- both sides say that the call was good -/
theorem inv_ok (H : Inv I R X) : Inv (p_u (p_u I 32 14 0) 123 0 0) R X := by
  obtain ⟨h1, h2, h3, h4, h5, h6, h7, h8⟩ := H
  refine ⟨invK_fr (I := I) (fun a ha => ?_) rfl h1, ?_, invT_fr (I := I) rfl rfl rfl rfl h3, invU_fr (I := I) rfl rfl rfl rfl rfl h4, invI_fr (I := I) (R := R) (fun b b1 b2 => ?_) rfl rfl (fun b b1 => ?_) rfl rfl (fun _ _ => rfl) h5, invD_fr (I := I) rfl rfl rfl rfl rfl rfl h6, hut_fr (I := I) (R := R) (fun b b1 b2 => ?_) (fun b b1 => ?_) rfl (fun _ _ => rfl) h7, h8⟩
  · rw [p_u_ne (by omega), p_u_ne (by omega)]
  · exact ⟨h2.1, rfl, h2.2.2.1, h2.2.2.2.1, h2.2.2.2.2⟩
  · rw [p_u_ne (by omega), p_u_ne (by omega)]
  · rw [p_u_ne (by omega), p_u_ne (by omega)]
  · rw [p_u_ne (by omega), p_u_ne (by omega)]
  · rw [p_u_ne (by omega), p_u_ne (by omega)]
/-- both sides refuse -/
theorem inv_no (k : Int32) (j : Nat) (hj : j < 7) (H : Inv I R X) : Inv (p_u (p_u (p_u (p_u I 32 14 k) 122 j (I 122 j + 1)) 123 0 k) 124 j (I 124 j + 1)) R X := by
  obtain ⟨h1, h2, h3, h4, h5, h6, h7, h8⟩ := H
  refine ⟨invK_fr (I := I) (fun a ha => ?_) rfl h1, ?_, invT_fr (I := I) rfl rfl rfl rfl h3, invU_fr (I := I) rfl rfl rfl rfl rfl h4, invI_fr (I := I) (R := R) (fun b b1 b2 => ?_) rfl rfl (fun b b1 => ?_) rfl rfl (fun _ _ => rfl) h5, invD_fr (I := I) rfl rfl rfl rfl rfl rfl h6, hut_fr (I := I) (R := R) (fun b b1 b2 => ?_) (fun b b1 => ?_) rfl (fun _ _ => rfl) h7, h8⟩
  · rw [p_u_ne (by omega), p_u_ne (by omega), p_u_ne (by omega), p_u_ne (by omega)]
  · refine ⟨fun i hi => ?_, rfl, h2.2.2.1, h2.2.2.2.1, h2.2.2.2.2⟩
    rw [p_u_ne (by omega), p_u_ne (by omega), p_u_at, p_u_at, h2.1 j hj, p_u_ne (by omega), p_u_ne (by omega), p_u_ne (by omega), p_u_ne (by omega), h2.1 i hi]
  · rw [p_u_ne (by omega), p_u_ne (by omega), p_u_ne (by omega), p_u_ne (by omega)]
  · rw [p_u_ne (by omega), p_u_ne (by omega), p_u_ne (by omega), p_u_ne (by omega)]
  · rw [p_u_ne (by omega), p_u_ne (by omega), p_u_ne (by omega), p_u_ne (by omega)]
  · rw [p_u_ne (by omega), p_u_ne (by omega), p_u_ne (by omega), p_u_ne (by omega)]
end FRM
section FR2
variable {I J : Nat → Nat → Int32} {R : Nat → Nat → Option Nat} {X : List pKd}
/-- what now's hut, the past and the counters' methods leave -/
theorem Inv_mv (H : Inv I R X) (fr : ∀ a, a ≠ 32 → (a < 71 ∨ 78 < a) → a ≠ 80 → a ≠ 81 → a ≠ 123 → a ≠ 125 → a ≠ 136 → J a = I a) (e1 : J 32 10 = I 32 10) (e2 : J 123 46 = I 123 46) (e3 : J 123 13 = I 123 13) (hC : invC J) (hU : invU J) (hR : hutR J 71 (J 125)) (hV : vld (J 125)) (hK : ∀ k, 57 ≤ k → k < 5664 → J 125 k = I 125 k) (hK55 : J 125 55 = I 125 55) : Inv J R X := by
  obtain ⟨h1, h2, h3, h4, h5, h6, h7, h8⟩ := H
  refine ⟨invK_fr (fun a ha => fr a (by omega) (by omega) (by omega) (by omega) (by omega) (by omega) (by omega)) (fr 129 (by omega) (by omega) (by omega) (by omega) (by omega) (by omega) (by omega)) h1, hC, invT_fr ?_ ?_ ?_ e3 h3, hU, invI_fr (I := I) (R := R) (fun b b1 b2 => fr b (by omega) (by omega) (by omega) (by omega) (by omega) (by omega) (by omega)) ?_ ?_ (fun b b1 => fr b (by omega) (by omega) (by omega) (by omega) (by omega) (by omega) (by omega)) rfl rfl (fun _ _ => rfl) h5, invD_fr e1 e2 ?_ ?_ ?_ ?_ h6, ⟨hR, h7.2.1, fun i hi => ?_⟩, hV⟩
  · rw [fr 33 (by omega) (by omega) (by omega) (by omega) (by omega) (by omega) (by omega)]
  · exact fr 34 (by omega) (by omega) (by omega) (by omega) (by omega) (by omega) (by omega)
  · exact fr 130 (by omega) (by omega) (by omega) (by omega) (by omega) (by omega) (by omega)
  · exact fr 126 (by omega) (by omega) (by omega) (by omega) (by omega) (by omega) (by omega)
  · exact fr 127 (by omega) (by omega) (by omega) (by omega) (by omega) (by omega) (by omega)
  · exact fr 93 (by omega) (by omega) (by omega) (by omega) (by omega) (by omega) (by omega)
  · exact fr 98 (by omega) (by omega) (by omega) (by omega) (by omega) (by omega) (by omega)
  · exact fr 100 (by omega) (by omega) (by omega) (by omega) (by omega) (by omega) (by omega)
  · exact fr 141 (by omega) (by omega) (by omega) (by omega) (by omega) (by omega) (by omega)
  · rw [hK55] at hi
    obtain ⟨t, t1, t2, t3⟩ := h7.2.2 i hi
    exact ⟨t, t1, t2, lawRel_same t3 (fun a ha => fr a (by omega) (by omega) (by omega) (by omega) (by omega) (by omega) (by omega)) (fun _ _ => rfl) (fun k k1 k2 => hK k k1 k2)⟩
end FR2
