/-! A LAW ON THE CLASS'S SIDE -/
theorem nt2_hi {α : Type} : ∀ (l : List α) (n : Nat), l.length ≤ n → p_nt2 l n = none
  | [], _, _ => rfl
  | _ :: l, 0, h => by simp at h
  | _ :: l, n + 1, h => nt2_hi l n (by simpa using h)
theorem ovl_hi {Ls : Nat} {I : Nat → Nat → Int32} {L : Nat → Nat → Int64} {R : Nat → Nat → Option Nat} {X : List pKd} {t k : Nat} (h : 142 ≤ t) : p_R (p_mk Ls I L R X) t k = R t k := by
  show p_ovl R t k = R t k
  have : p_sr t k = none := by
    unfold p_sr
    rw [nt2_hi p_srT t (by rw [show p_srT.length = 142 from rfl]; exact h)]
  unfold p_ovl
  rw [this]
/-- a law's Text, or none, and what it means -/
def clw (Ls : Nat) (I : Nat → Nat → Int32) (R : Nat → Nat → Option Nat) (X : List pKd) (r : Option Nat) (c : Option (List tCl)) : Prop := (r = none ∧ c = none) ∨ ∃ t CL a1 a2 a3 a4 a5 a7 a8 m1 m2, r = some t ∧ c = some CL ∧ 142 ≤ t ∧ txF Ls R X t a1 a2 a3 a4 a5 a7 a8 m1 m2 ∧ (142 ≤ a1 ∧ 142 ≤ a2 ∧ 142 ≤ a3 ∧ 142 ≤ a4 ∧ 142 ≤ a5 ∧ 142 ≤ a7 ∧ 142 ≤ a8) ∧ CL.length ≤ m1 ∧ m1 ≤ 12 ∧ (clCode CL).length ≤ m2 ∧ m2 ≤ 400 ∧ txA I a1 a2 a3 a4 a5 a7 a8 CL ∧ (∀ j cl, CL[j]? = some cl → clOk false (clB CL j) cl) ∧ I t 0 = nI CL.length
theorem clw_fr {Ls : Nat} {I J : Nat → Nat → Int32} {R : Nat → Nat → Option Nat} {X : List pKd} {r : Option Nat} {c : Option (List tCl)} (h : clw Ls I R X r c) (e : ∀ a, 142 ≤ a → J a = I a) : clw Ls J R X r c := by
  rcases h with h | ⟨t, CL, a1, a2, a3, a4, a5, a7, a8, m1, m2, h1, h2, h3, h4, ha, h5, h6, h7, h8, h9, h10, h11⟩
  · exact Or.inl h
  · refine Or.inr ⟨t, CL, a1, a2, a3, a4, a5, a7, a8, m1, m2, h1, h2, h3, h4, ha, h5, h6, h7, h8, ?_, h10, by rw [e t h3]; exact h11⟩
    unfold txA at *
    rw [e a1 ha.1, e a2 ha.2.1, e a3 ha.2.2.1, e a4 ha.2.2.2.1, e a5 ha.2.2.2.2.1, e a7 ha.2.2.2.2.2.1, e a8 ha.2.2.2.2.2.2]
    exact h9
theorem lawRel_clw {Ls : Nat} {I : Nat → Nat → Int32} {R : Nat → Nat → Option Nat} {X : List pKd} {t i : Nat} {K : Nat → Int32} (h : lawRel I R X t K i) : ∃ n T CL, kOk K i ∧ K (57 + i) = nI T ∧ T ≤ 400 ∧ pX false (kC K i) (kV K i) T n 0 0 0 0 [] = some (.ok CL) ∧ clw Ls I R X (some t) (some CL) := by
  obtain ⟨hi, ht, h0, ho, n, CL, a1, a2, a3, a4, a5, a7, a8, m1, m2, h1, h2, h3, h4, h5, h6, h7, hr, ha, hx, htx⟩ := h
  have ho' := ho
  obtain ⟨T, hT, eT, -⟩ := ho'
  rw [eT, nI_clamp (by omega)] at h1
  have hok := (pX_g n 0 0 0 0 [] CL (by omega) rfl (by omega) rfl (by omega) (fun j cl hj => by cases hj) h1).1
  refine ⟨n, T, CL, ho, eT, hT, h1, Or.inr ⟨t, CL, a1, a2, a3, a4, a5, a7, a8, m1, m2, rfl, rfl, ht, fun I L => ?_, ha, h4, h6, h5, h7, htx, hok, h2⟩⟩
  rw [ovl_hi ht, ovl_hi ht, ovl_hi ht, ovl_hi ht, ovl_hi ht, ovl_hi ht, ovl_hi ht, kd_X ht, kd_X ha.1, kd_X ha.2.1, kd_X ha.2.2.1, kd_X ha.2.2.2.1, kd_X ha.2.2.2.2.1, kd_X ha.2.2.2.2.2.1, kd_X ha.2.2.2.2.2.2]
  exact ⟨h0, hr.1, hr.2.1, hr.2.2.1, hr.2.2.2.1, hr.2.2.2.2.1, hr.2.2.2.2.2.1, hr.2.2.2.2.2.2, hx.1, hx.2.1, hx.2.2.1, hx.2.2.2.1, hx.2.2.2.2.1, hx.2.2.2.2.2.1, hx.2.2.2.2.2.2⟩
/-- the law in force of a hut: the Text, and what it means on both sides -/
def fRef (R : Nat → Nat → Option Nat) (A : Nat) (K : Nat → Int32) : Option Nat := if K 56 = -1 then none else R (A + 8) (K 56).toNatClampNeg
theorem hut_law {Ls A : Nat} {I : Nat → Nat → Int32} {R : Nat → Nat → Option Nat} {X : List pKd} {K : Nat → Int32} (h : hutL I R X A K) (hV : vldH K) (h55 : bn (K 55) 6) : ∃ c, lawOf K c ∧ clw Ls I R X (fRef R A K) c := by
  unfold fRef
  rcases hV.2.2 with e | ⟨f, hf, e⟩
  · exact ⟨none, Or.inl ⟨e, rfl⟩, Or.inl ⟨by rw [if_pos e], rfl⟩⟩
  · obtain ⟨m, hm, em⟩ := h55
    have hf' := hf
    rw [em, nI_c (by omega)] at hf
    obtain ⟨t, t1, t2, t3⟩ := h.2 f hf'
    obtain ⟨n, T, CL, r1, r2, r3, r4, r5⟩ := lawRel_clw (Ls := Ls) t3
    refine ⟨some CL, Or.inr ⟨f, n, T, CL, by omega, e, r1, r2, r3, r4, rfl⟩, ?_⟩
    have ne : ¬ K 56 = -1 := by
      rw [e]
      intro h9
      have := congrArg Int32.toInt h9
      rw [nI_toInt (by omega)] at this
      have e2 : (-1 : Int32).toInt = -1 := by decide
      omega
    rw [if_neg ne, e, nI_c (by omega), t1]
    exact r5
theorem hutR_at {I : Nat → Nat → Int32} {A : Nat} {K : Nat → Int32} (h : hutR I A K) : (I A 0 = K 52 ∧ I A 2 = K 53 ∧ I A 7 = K 4 ∧ I A 8 = K 0 ∧ I A 9 = K 1 ∧ I A 10 = K 54 ∧ I A 13 = K 55 ∧ I A 15 = K 56) ∧ (I (A + 7) 0 = K 3 ∧ I (A + 7) 1 = K 51 ∧ I (A + 7) 2 = K 2) ∧ (∀ q, q < 8 → I (A + 1) q = K (13 + q) ∧ I (A + 2) q = K (21 + q) ∧ I (A + 3) q = K (29 + q) ∧ I (A + 4) q = K (37 + q) ∧ I (A + 5) q = K (5 + q)) ∧ ∀ v, v < 6 → I (A + 6) v = K (45 + v) := by
  refine ⟨⟨h 52 (by omega), h 53 (by omega), h 4 (by omega), h 0 (by omega), h 1 (by omega), h 54 (by omega), h 55 (by omega), h 56 (by omega)⟩, ⟨h 3 (by omega), h 51 (by omega), h 2 (by omega)⟩, fun q hq => ⟨?_, ?_, ?_, ?_, ?_⟩, fun v hv => ?_⟩
  · have := h (13 + q) (by omega); rw [(da_13 q hq).1, (da_13 q hq).2] at this; exact this
  · have := h (21 + q) (by omega); rw [(da_21 q hq).1, (da_21 q hq).2] at this; exact this
  · have := h (29 + q) (by omega); rw [(da_29 q hq).1, (da_29 q hq).2] at this; exact this
  · have := h (37 + q) (by omega); rw [(da_37 q hq).1, (da_37 q hq).2] at this; exact this
  · have := h (5 + q) (by omega); rw [(da_5 q hq).1, (da_5 q hq).2] at this; exact this
  · have := h (45 + v) (by omega); rw [(da_45 v hv).1, (da_45 v hv).2] at this; exact this
/-- the judge's words behind a look at a question -/
def lkW (W K : Nat → Int32) (q : Nat) (lf : Int32) : Nat → Int32 := upd (upd (upd (upd (upd (upd (upd (upd (upd W 5 (K 2)) 6 (K 1)) 7 (K 3)) 8 lf) 0 (nI q)) 1 (K (21 + q))) 2 (K (29 + q))) 3 (K (5 + q))) 4 (K 51)
theorem lkW_9 {W K : Nat → Int32} {q : Nat} {lf : Int32} : w9 (lkW W K q lf) (wEnv K q lf) := by
  intro j hj
  have : j = 0 ∨ j = 1 ∨ j = 2 ∨ j = 3 ∨ j = 4 ∨ j = 5 ∨ j = 6 ∨ j = 7 ∨ j = 8 := by omega
  rcases this with rfl | rfl | rfl | rfl | rfl | rfl | rfl | rfl | rfl <;> rfl
theorem bW_9 {W W' : Nat → Int32} (h : w9 W W') (hb : bW (nw false) W') : bW (nw false) W := fun i h9 hi => by rw [h i hi]; exact hb i h9 hi
