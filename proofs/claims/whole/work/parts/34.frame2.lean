/-! FRAMES: cells that only scratch methods write are free -/
def kcell (a : Nat) : Prop := a < 32 ∨ a = 33 ∨ a = 34 ∨ (93 ≤ a ∧ a ≤ 101) ∨ (103 ≤ a ∧ a ≤ 121) ∨ a = 126 ∨ a = 127 ∨ a = 129 ∨ a = 130 ∨ a = 141 ∨ 142 ≤ a
section F2
variable {I J : Nat → Nat → Int32} {R : Nat → Nat → Option Nat} {X : List pKd}
theorem Inv_mv2 (H : Inv I R X) (fr : ∀ a, kcell a → J a = I a) (e1 : J 32 10 = I 32 10) (e2 : J 123 46 = I 123 46) (e3 : J 123 13 = I 123 13) (hC : invC J) (hU : invU J) (hR : hutR J 71 (J 125)) (hV : vld (J 125)) (hK : ∀ k, 57 ≤ k → k < 5664 → J 125 k = I 125 k) (hK55 : J 125 55 = I 125 55) : Inv J R X := by
  obtain ⟨h1, h2, h3, h4, h5, h6, h7, h8⟩ := H
  have k : ∀ a, (a < 32 ∨ a = 33 ∨ a = 34 ∨ (93 ≤ a ∧ a ≤ 101) ∨ (103 ≤ a ∧ a ≤ 121) ∨ a = 126 ∨ a = 127 ∨ a = 129 ∨ a = 130 ∨ a = 141 ∨ 142 ≤ a) → J a = I a := fun a ha => fr a ha
  refine ⟨invK_fr (fun a ha => k a (by omega)) (k 129 (by omega)) h1, hC, invT_fr (by rw [k 33 (by omega)]) (k 34 (by omega)) (k 130 (by omega)) e3 h3, hU, invI_fr (I := I) (R := R) (fun b b1 b2 => k b (by omega)) (k 126 (by omega)) (k 127 (by omega)) (fun b b1 => k b (by omega)) rfl rfl (fun _ _ => rfl) h5, invD_fr e1 e2 (k 93 (by omega)) (k 98 (by omega)) (k 100 (by omega)) (k 141 (by omega)) h6, ⟨hR, h7.2.1, fun i hi => ?_⟩, hV⟩
  rw [hK55] at hi
  obtain ⟨t, t1, t2, t3⟩ := h7.2.2 i hi
  exact ⟨t, t1, t2, lawRel_same t3 (fun a ha => k a (by omega)) (fun _ _ => rfl) (fun k k1 k2 => hK k k1 k2)⟩
theorem Inv_ws2 (ws : List (Nat × Int32)) (H : Inv I R X) (ho : wsOk ws) (hH : vldH (updL (I 125) ws))
    (hc : ∀ b, 71 ≤ b → b ≤ 78 → J b = wC 71 I ws b) (hm : J 125 = updL (I 125) ws)
    (fr : ∀ a, kcell a → J a = I a) (e1 : J 32 10 = I 32 10) (e2 : J 123 46 = I 123 46) (e3 : J 123 13 = I 123 13) (hC : invC J) (hU : invU J) : Inv J R X :=
  Inv_mv2 H fr e1 e2 e3 hC hU (by rw [hm]; exact hutR_f (updL_hR ws ho H.2.2.2.2.2.2.1.1) hc) (by rw [hm]; exact vld_iff.mpr ⟨updL_vB ws ho (vld_iff.mp H.2.2.2.2.2.2.2).1, hH⟩) (fun k k1 _ => by rw [hm]; exact updL_hi ws ho k (Or.inr k1)) (by rw [hm]; exact updL_hi ws ho 55 (Or.inl rfl))
/-- what changes nothing that is kept -/
theorem Inv_sc (H : Inv I R X) (fr : ∀ a, kcell a ∨ (71 ≤ a ∧ a ≤ 81) ∨ a = 122 ∨ a = 124 ∨ a = 125 ∨ a = 136 → J a = I a) (e32 : ∀ k, k = 10 ∨ k = 14 ∨ k = 15 ∨ k = 16 ∨ k = 17 → J 32 k = I 32 k) (e123 : ∀ k, k = 0 ∨ k = 6 ∨ k = 13 ∨ k = 14 ∨ k = 31 ∨ k = 37 ∨ k = 46 → J 123 k = I 123 k) : Inv J R X := by
  have k : ∀ a, (71 ≤ a ∧ a ≤ 81) ∨ a = 122 ∨ a = 124 ∨ a = 125 ∨ a = 136 → J a = I a := fun a ha => fr a (Or.inr ha)
  refine Inv_mv2 H (fun a ha => fr a (Or.inl ha)) (e32 10 (by omega)) (e123 46 (by omega)) (e123 13 (by omega)) (invC_fr (k 122 (by omega)) (k 124 (by omega)) (e32 14 (by omega)) (e123 0 (by omega)) (e32 15 (by omega)) (e123 14 (by omega)) (e32 16 (by omega)) (e123 37 (by omega)) (e32 17 (by omega)) (e123 6 (by omega)) H.2.1) (invU_fr (k 80 (by omega)) (k 81 (by omega)) (k 136 (by omega)) (by rw [k 125 (by omega)]) (e123 31 (by omega)) H.2.2.2.1) ?_ ?_ ?_ ?_
  · rw [k 125 (by omega)]
    exact hutR_f H.2.2.2.2.2.2.1.1 (fun b b1 b2 => k b (by omega))
  · rw [k 125 (by omega)]; exact H.2.2.2.2.2.2.2
  · intro j _ _; rw [k 125 (by omega)]
  · rw [k 125 (by omega)]
theorem rowRel_c {C C' M M' : Nat → Int32} {c c' m m' : Nat} (hC : ∀ i, i < 14 → C' (c' + i) = C (c + i)) (hM : ∀ i, i < 14 → M' (m' + i) = M (m + i)) (h : rowRel C M c m) : rowRel C' M' c' m' := by
  obtain ⟨a1, a2, a3, a4, a5, a6, a7⟩ := h
  refine ⟨?_, ?_, ?_, ?_, ?_, ?_, fun i hi => ?_⟩
  · have := hC 0 (by omega); simp only [Nat.add_zero] at this
    rw [this, hM 13 (by omega)]; exact a1
  · rw [hC 1 (by omega), hM 4 (by omega)]; exact a2
  · have := hM 0 (by omega); simp only [Nat.add_zero] at this
    rw [hC 2 (by omega), this]; exact a3
  · rw [hC 3 (by omega), hM 1 (by omega)]; exact a4
  · rw [hC 4 (by omega), hM 3 (by omega)]; exact a5
  · rw [hC 5 (by omega), hM 2 (by omega)]; exact a6
  · have e1 := hC (6 + i) (by omega); have e2 := hM (5 + i) (by omega)
    rw [← Nat.add_assoc, ← Nat.add_assoc] at e1 e2
    rw [e1, e2]; exact a7 i hi
theorem rowVld_c {K K' M M' : Nat → Int32} {m m' : Nat} (hK : K' 52 = K 52) (hM : ∀ i, i < 14 → M' (m' + i) = M (m + i)) (h : rowVld K M m) : rowVld K' M' m' := by
  obtain ⟨a1, a2, a3, a4, a5, a6, a7⟩ := h
  have := hM 0 (by omega); simp only [Nat.add_zero] at this
  refine ⟨?_, ?_, ?_, ?_, ?_, ?_, fun i hi => ?_⟩
  · rw [hM 13 (by omega)]; exact a1
  · rw [hM 4 (by omega), hK]; exact a2
  · rw [this, hK]; exact a3
  · rw [hM 1 (by omega)]; exact a4
  · rw [hM 3 (by omega)]; exact a5
  · rw [hM 2 (by omega)]; exact a6
  · have e2 := hM (5 + i) (by omega)
    rw [← Nat.add_assoc, ← Nat.add_assoc] at e2
    rw [e2]; exact a7 i hi
/-- one more act kept -/
theorem past_keep {n k : Nat} {C C' M M' K K' : Nat → Int32} (h : pastRel n k C M K) (hk : k < 16) (hC : ∀ s i, s < 17 → s ≠ n → i < 14 → C' (14 * s + i) = C (14 * s + i)) (hM : ∀ i, i < 14 * k → M' i = M i) (hK : K' 52 = K 52) (h1 : rowRel C' M' (14 * n) (14 * k)) (h2 : rowVld K' M' (14 * k)) : pastRel ((n + 1) % 17) (k + 1) C' M' K' := by
  obtain ⟨hn, hk2, hr⟩ := h
  refine ⟨Nat.mod_lt _ (by omega), by omega, fun j hj => ?_⟩
  by_cases e : j = k
  · subst e
    have : ((n + 1) % 17 + 17 - (j + 1) + j) % 17 = n := by omega
    rw [this]; exact ⟨h1, h2⟩
  · have es : ((n + 1) % 17 + 17 - (k + 1) + j) % 17 = (n + 17 - k + j) % 17 := by omega
    rw [es]
    obtain ⟨r1, r2⟩ := hr j (by omega)
    exact ⟨rowRel_c (fun i hi => hC _ i (by omega) (by omega) hi) (fun i hi => hM _ (by omega)) r1, rowVld_c hK (fun i hi => hM _ (by omega)) r2⟩
/-- the eldest act goes -/
theorem past_full {n : Nat} {C C' M M' K K' : Nat → Int32} (h : pastRel n 16 C M K) (hC : ∀ s i, s < 17 → s ≠ n → i < 14 → C' (14 * s + i) = C (14 * s + i)) (hM : ∀ i, i < 210 → M' i = M (14 + i)) (hK : K' 52 = K 52) (h1 : rowRel C' M' (14 * n) 210) (h2 : rowVld K' M' 210) : pastRel ((n + 1) % 17) 16 C' M' K' := by
  obtain ⟨hn, hk2, hr⟩ := h
  refine ⟨Nat.mod_lt _ (by omega), by omega, fun j hj => ?_⟩
  by_cases e : j = 15
  · subst e
    have : ((n + 1) % 17 + 17 - 16 + 15) % 17 = n := by omega
    rw [this]; exact ⟨h1, h2⟩
  · have es : ((n + 1) % 17 + 17 - 16 + j) % 17 = (n + 17 - 16 + (j + 1)) % 17 := by omega
    rw [es]
    obtain ⟨r1, r2⟩ := hr (j + 1) (by omega)
    exact ⟨rowRel_c (fun i hi => hC _ i (by omega) (by omega) hi) (fun i hi => (hM _ (by omega)).trans (congrArg M (by omega))) r1, rowVld_c hK (fun i hi => (hM _ (by omega)).trans (congrArg M (by omega))) r2⟩
/-- a draft that comes to nothing -/
theorem past_same {n k : Nat} {C C' M K : Nat → Int32} (h : pastRel n k C M K) (hC : ∀ s i, s < 17 → s ≠ n → i < 14 → C' (14 * s + i) = C (14 * s + i)) : pastRel n k C' M K := by
  obtain ⟨hn, hk2, hr⟩ := h
  refine ⟨hn, hk2, fun j hj => ?_⟩
  obtain ⟨r1, r2⟩ := hr j hj
  exact ⟨rowRel_c (fun i hi => hC _ i (by omega) (by omega) hi) (fun i hi => rfl) r1, r2⟩
/-- the row that the class drafts is what the reference keeps -/
theorem drf_row {n : Nat} (hn : n < 17) : ∀ s i, s < 17 → s ≠ n → i < 14 → drf I n (14 * s + i) = I 81 (14 * s + i) := by
  intro s i hs hsn hi
  unfold drf va_cpy
  rw [if_neg (by omega), upd_ne (by omega), upd_ne (by omega), upd_ne (by omega), upd_ne (by omega), upd_ne (by omega)]
theorem drf_rel {n m : Nat} {kd : Int32} {C M : Nat → Int32} (h : hutR I 71 (I 125)) (hC0 : C (14 * n) = kd) (hC : ∀ i, 0 < i → i < 14 → C (14 * n + i) = drf I n (14 * n + i)) (hM : ∀ i, i < 13 → M (m + i) = I 125 i) (hM0 : M (m + 13) = kd) : rowRel C M (14 * n) m := by
  have dv : ∀ i, i < 6 → drf I n (14 * n + i) = upd (upd (upd (upd (upd (I 81) (n * 14 + 1) (I 71 7)) (n * 14 + 2) (I 71 8)) (n * 14 + 3) (I 71 9)) (n * 14 + 4) (I 78 0)) (n * 14 + 5) (I 78 2) (14 * n + i) := fun i hi => by
    unfold drf va_cpy; rw [if_neg (by omega)]
  have m0 := hM 0 (by omega); simp only [Nat.add_zero] at m0
  refine ⟨by rw [hC0, hM0], ?_, ?_, ?_, ?_, ?_, fun i hi => ?_⟩
  · rw [hC 1 (by omega) (by omega), dv 1 (by omega), upd_ne (by omega), upd_ne (by omega), upd_ne (by omega), upd_ne (by omega), show 14 * n + 1 = n * 14 + 1 by omega, upd_eq, hM 4 (by omega)]
    exact h 4 (by omega)
  · rw [hC 2 (by omega) (by omega), dv 2 (by omega), upd_ne (by omega), upd_ne (by omega), upd_ne (by omega), show 14 * n + 2 = n * 14 + 2 by omega, upd_eq, m0]
    exact h 0 (by omega)
  · rw [hC 3 (by omega) (by omega), dv 3 (by omega), upd_ne (by omega), upd_ne (by omega), show 14 * n + 3 = n * 14 + 3 by omega, upd_eq, hM 1 (by omega)]
    exact h 1 (by omega)
  · rw [hC 4 (by omega) (by omega), dv 4 (by omega), upd_ne (by omega), show 14 * n + 4 = n * 14 + 4 by omega, upd_eq, hM 3 (by omega)]
    exact h 3 (by omega)
  · rw [hC 5 (by omega) (by omega), dv 5 (by omega), show 14 * n + 5 = n * 14 + 5 by omega, upd_eq, hM 2 (by omega)]
    exact h 2 (by omega)
  · have e1 := hC (6 + i) (by omega) (by omega)
    have e2 := hM (5 + i) (by omega)
    rw [← Nat.add_assoc] at e1 e2
    rw [e1, e2]
    have e3 : drf I n (14 * n + 6 + i) = I 76 i := by
      unfold drf va_cpy; rw [if_pos (by omega)]; congr 1; omega
    rw [e3]
    have := h (5 + i) (by omega)
    rw [(da_5 i hi).1, (da_5 i hi).2] at this
    exact this
theorem drf_vld {m : Nat} {kd : Int32} {M K' : Nat → Int32} (hK : K' 52 = I 125 52) (hV : vld (I 125)) (hkd : bn kd 3) (hM : ∀ i, i < 13 → M (m + i) = I 125 i) (hM0 : M (m + 13) = kd) : rowVld K' M m := by
  obtain ⟨v1, v2, v3⟩ := hV
  have m0 := hM 0 (by omega); simp only [Nat.add_zero] at m0
  refine ⟨by rw [hM0]; exact hkd, ?_, ?_, ?_, ?_, ?_, fun i hi => ?_⟩
  · rw [hM 4 (by omega), hK]; exact v3.1
  · rw [m0, hK]; exact v3.2.1
  · rw [hM 1 (by omega)]; exact v1.2.2.2.2.1
  · rw [hM 3 (by omega)]; exact v1.2.2.2.2.2.2.1
  · rw [hM 2 (by omega)]; exact v1.2.2.2.2.2.1
  · have e2 := hM (5 + i) (by omega)
    rw [← Nat.add_assoc] at e2
    rw [e2]; exact (v2 i hi).2.2.2.2.1
end F2
