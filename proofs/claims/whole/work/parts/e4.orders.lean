section GG
variable {d Ls : Nat} {I F : Nat → Nat → Int32} {L : Nat → Nat → Int64} {R S : Nat → Nat → Option Nat} {X : List pKd} {c : Option (List tCl)} {K M : Nat → Int32} {B : Nat → Nat} {T N : Nat}
theorem Inv_or (H : Inv I R X) (fa : ∀ a, a < 32 ∨ (93 ≤ a ∧ a ≤ 121) ∨ a = 126 ∨ a = 127 ∨ a = 129 ∨ 137 < a → F a = I a) (f33 : F 33 1 = nI 0) (g13 : F 123 13 = nI 0) (f32 : F 32 10 = I 32 10) (f46 : F 123 46 = I 123 46) (hC : invC F) (hU : invU F) (hR : hutR F 71 (F 125)) (hV : vld (F 125)) (hK : ∀ j, j = 55 ∨ (57 ≤ j ∧ j < 63) ∨ (64 ≤ j ∧ j < 2464) ∨ (2864 ≤ j ∧ j < 5264) → F 125 j = I 125 j) (sR : ∀ a, ¬ a = 35 → ¬ a = 79 → ¬ a = 90 → S a = R a) (s79 : ∀ i, i < 6 → S 79 i = R 79 i) : Inv F S X := by
  obtain ⟨h1, h2, h3, h4, hI, hD, hH, hV0⟩ := H
  have e55 := kn_e hV0 (j := 55) (by omega) (by omega) (by omega)
  have l6 : kn (I 125) 55 ≤ 6 := e55.2
  have iI := invI_gr (Z := []) (fun b b1 b2 => fa b (by omega)) (fa 126 (by omega)) (fa 127 (by omega)) (fun a a1 a2 => fa a (by omega)) (sR 111 (by omega) (by omega) (by omega)) (sR 120 (by omega) (by omega) (by omega)) (fun a a1 a2 => sR a (by omega) (by omega) (by omega)) hI
  rw [List.append_nil] at iI
  refine ⟨invK_fr (fun a ha => fa a (by omega)) (fa 129 (by omega)) h1, hC, ⟨⟨0, by omega, f33⟩, by rw [g13, f33], fun k hk => ?_⟩, hU, iI, invD_fr f32 f46 (fa 93 (by omega)) (fa 98 (by omega)) (fa 100 (by omega)) (fa 141 (by omega)) hD, ⟨hR, fun i hi => ?_, fun i hi => ?_⟩, hV⟩
  · rw [f33, nI_clamp (by omega)] at hk
    exact absurd hk (Nat.not_lt_zero k)
  · rw [show S (71 + 8) i = S 79 i from rfl, s79 i hi]
    exact hH.2.1 i hi
  · rw [hK 55 (by omega)] at hi
    have i6 : i < 6 := by
      have : kn (I 125) 55 = (I 125 55).toNatClampNeg := rfl
      omega
    obtain ⟨u, u1, u2, u3⟩ := hH.2.2 i hi
    rw [show S (71 + 8) i = S 79 i from rfl, s79 i i6]
    have u4 := lawRel_gr (Z := []) (K' := F 125) u3 (fun a a1 a2 => fa a (by omega)) (fun a a1 a2 => sR a (by omega) (by omega) (by omega)) (fun j hj => hK j (by omega))
    rw [List.append_nil] at u4
    exact ⟨u, u1, u2, u4⟩
theorem oC_e : ∀ (l : List tCl) (m : Nat) (s : oS) (e : Nat), oC c m l s = .error e → e < m + l.length
  | [], m, s, e, h => by cases h
  | cl :: r, m, s, e, h => by
    rw [List.length_cons]
    have hc : oC c m (cl :: r) s = match oT c cl (cl_t cl) s with
      | none => Except.error m
      | some s' => oC c (m + 1) r s' := rfl
    rw [hc] at h
    cases ht : oT c cl (cl_t cl) s with
    | none => rw [ht] at h; cases h; omega
    | some s' =>
      rw [ht] at h
      have := oC_e r (m + 1) s' e h
      omega
theorem pastRel_K {n k : Nat} {C K' : Nat → Int32} (h : pastRel n k C M K) (e : K' 52 = K 52) : pastRel n k C M K' := by
  obtain ⟨h1, h2, h3⟩ := h
  exact ⟨h1, h2, fun j hj => ⟨(h3 j hj).1, rowVld_c e (fun _ _ => rfl) (h3 j hj).2⟩⟩
theorem pastRel_C {n k : Nat} {C C' : Nat → Int32} (h : pastRel n k C M K) (e : ∀ i, i < 238 → C' i = C i) : pastRel n k C' M K := by
  obtain ⟨h1, h2, h3⟩ := h
  refine ⟨h1, h2, fun j hj => ⟨rowRel_c (fun i hi => e _ ?_) (fun _ _ => rfl) (h3 j hj).1, (h3 j hj).2⟩⟩
  have := Nat.mod_lt (n + 17 - k + j) (show 0 < 17 by omega)
  omega
/-- what the class has laid aside -/
def asI (G : Nat → Nat → Int32) : Nat → Nat → Int32 := p_u (p_u (p_fn (cpI 82 71 G) 92 (va_cpy (cpI 82 71 G 81) (cpI 82 71 G 92) 0 0 238)) 91 1 (cpI 82 71 G 80 1)) 91 2 (cpI 82 71 G 80 2)
theorem asI_fr {G : Nat → Nat → Int32} {a : Nat} (h : a < 82 ∨ 92 < a) : asI G a = G a := by
  unfold asI
  rw [p_u_ne (by omega), p_u_ne (by omega), pf_ne (by omega), cpI_fr (by omega)]
theorem asI_81 {G : Nat → Nat → Int32} : (∀ i, i < 238 → asI G 92 i = G 81 i) ∧ asI G 91 1 = G 80 1 ∧ asI G 91 2 = G 80 2 := by
  have e80 : cpI 82 71 G 80 = G 80 := cpI_fr (by omega)
  have e81 : cpI 82 71 G 81 = G 81 := cpI_fr (by omega)
  unfold asI
  rw [e80, e81]
  refine ⟨fun i hi => ?_, ?_, ?_⟩
  · rw [p_u_ne (by omega), p_u_ne (by omega), pf_at]
    unfold va_cpy
    rw [if_pos (by omega)]
    congr 1 <;> omega
  · rw [p_u_at, if_neg (by omega), p_u_at, if_pos rfl]
  · rw [p_u_at, if_pos rfl]
theorem asI_h {G : Nat → Nat → Int32} (h : hutR G 71 K) : hutR (asI G) 82 K := by
  have := cpI_hR (A := 82) h
  refine hutR_f this (fun b b1 b2 => ?_)
  unfold asI
  rw [p_u_ne (by omega), p_u_ne (by omega), pf_ne (by omega)]
/-- what the class takes back -/
def bkI (P : Nat → Nat → Int32) : Nat → Nat → Int32 := p_u (p_u (p_fn (cpI 71 82 P) 81 (va_cpy (cpI 71 82 P 92) (cpI 71 82 P 81) 0 0 238)) 80 1 (cpI 71 82 P 91 1)) 80 2 (cpI 71 82 P 91 2)
theorem bkI_fr {P : Nat → Nat → Int32} {a : Nat} (h : a < 71 ∨ 81 < a ∨ a = 79) : bkI P a = P a := by
  unfold bkI
  rw [p_u_ne (by omega), p_u_ne (by omega), pf_ne (by omega), cpI_fr (by omega)]
theorem bkI_81 {P : Nat → Nat → Int32} : (∀ i, i < 238 → bkI P 81 i = P 92 i) ∧ bkI P 80 1 = P 91 1 ∧ bkI P 80 2 = P 91 2 := by
  have e80 : cpI 71 82 P 91 = P 91 := cpI_fr (by omega)
  have e81 : cpI 71 82 P 92 = P 92 := cpI_fr (by omega)
  unfold bkI
  rw [e80, e81]
  refine ⟨fun i hi => ?_, ?_, ?_⟩
  · rw [p_u_ne (by omega), p_u_ne (by omega), pf_at]
    unfold va_cpy
    rw [if_pos (by omega)]
    congr 1 <;> omega
  · rw [p_u_at, if_neg (by omega), p_u_at, if_pos rfl]
  · rw [p_u_at, if_pos rfl]
theorem bkI_h {P : Nat → Nat → Int32} (h : hutR P 82 K) : hutR (bkI P) 71 K := by
  have := cpI_hR (A := 71) h
  refine hutR_f this (fun b b1 b2 => ?_)
  unfold bkI
  rw [p_u_ne (by omega), p_u_ne (by omega), pf_ne (by omega)]
/-- the class's orders up to what they do: read, all laid aside -/
theorem or_run {CL : List tCl} {k : Nat} (H : Inv I R X) (hx : Cx Ls I R X c) (hc : clS I (I 125) k (I 136)) (hT : T ≤ 400) (t1 : I 33 1 = nI T) (hB : ∀ k, k < T → I 34 k = nI (B k) ∧ B k < 256) (hN : tkN B T N) (hr : RX true (tC B T) (tV B T) N 0 0 0 0 [] = some (.ok CL)) : ∃ J1 G, (∀ a, ¬ a = 32 → ¬ a = 33 → (a < 35 ∨ 43 < a) → G a = I a) ∧ (∀ q, ¬ q = 15 → ¬ q = 16 → G 32 q = I 32 q) ∧ G 32 15 = mI 1 ∧ G 32 16 = mI 1 ∧ G 33 1 = nI 0 ∧ G = p_u (p_u J1 32 15 (mI 1)) 33 1 (nI 0) ∧
    P_m (d + 59) 58 [.ref 35, .ref 33, .int (nI 1)] (p_mk Ls (p_u I 32 16 (mI 1)) L R X) (fun v h' => v = some (.int (mI 1)) ∧ h' = p_mk Ls J1 L (rdR R) X) ∧
    P_m (d + 59) 3 [.ref 82, .ref 71] (p_mk Ls G L (rdR R) X) (fun v h' => v = none ∧ h' = p_mk Ls (cpI 82 71 G) L (cpR 82 71 (rdR R)) X) ∧
    P_m (d + 59) 52 [.ref 91, .ref 80] (p_mk Ls (cpI 82 71 G) L (cpR 82 71 (rdR R)) X) (fun v h' => v = none ∧ h' = p_mk Ls (asI G) L (cpR 82 71 (rdR R)) X) ∧
    P_m (d + 59) 120 [.ref 32, .ref 36] (p_mk Ls (asI G) L (cpR 82 71 (rdR R)) X) (rcQ Ls (asI G) L (cpR 82 71 (rdR R)) X c (kO B T N (I 125)) (oC c 0 CL (kO B T N (I 125), k, I 136, 0, mI 1))) := by
  have N4 : N ≤ 400 := by have := hN.1; omega
  obtain ⟨J1, ⟨f1, tx1⟩, s58⟩ := pl_58 (x := d + 3) (Ls := Ls) (I := p_u I 32 16 (mI 1)) (L := L) (R := R) (X := X) (o := true) (invS_fr (inv_S H) (fun a ha => p_u_ne (by omega))) (by rw [p_u_ne (by omega)]; exact t1) hT (fun k hk => by rw [p_u_ne (by omega)]; exact hB k hk) hN hr
  have gG : ∀ a, ¬ a = 32 → ¬ a = 33 → (a < 35 ∨ 43 < a) → p_u (p_u J1 32 15 (mI 1)) 33 1 (nI 0) a = I a := fun a a1 a2 a3 => by rw [p_u_ne a2, p_u_ne a1, f1 a a3, p_u_ne a1]
  have g32 : ∀ q, ¬ q = 15 → ¬ q = 16 → p_u (p_u J1 32 15 (mI 1)) 33 1 (nI 0) 32 q = I 32 q := fun q q1 q2 => by rw [p_u_ne (by omega), p_u_at, if_neg q1, f1 32 (by omega), p_u_at, if_neg q2]
  have g16 : p_u (p_u J1 32 15 (mI 1)) 33 1 (nI 0) 32 16 = mI 1 := by rw [p_u_ne (by omega), p_u_at, if_neg (by omega), f1 32 (by omega), p_u_at, if_pos rfl]
  have gT : ∀ a, 36 ≤ a → p_u (p_u J1 32 15 (mI 1)) 33 1 (nI 0) a = J1 a := fun a ha => by rw [p_u_ne (by omega), p_u_ne (by omega)]
  have tx79 : txR (rdR R) X 79 := fun i hi => by rw [rdR_ne (by omega)]; exact hx.2.1 i hi
  refine ⟨J1, _, gG, g32, by rw [p_u_ne (by omega), p_u_at, if_pos rfl], g16, by rw [p_u_at, if_pos rfl], rfl, s58, sp_3_82_71 tx79, sp_52a, ?_⟩
  generalize p_u (p_u J1 32 15 (mI 1)) 33 1 (nI 0) = G at *
  have pg := pX_g (o := true) (C := tC B T) (V := tV B T) (T := N) 2200 0 0 0 0 [] CL (by omega) rfl (by omega) rfl (Nat.le_refl 0) (fun j cl hj => by cases hj) hr
  have pj := pX_j (C := tC B T) (V := tV B T) (T := N) 2200 0 0 0 0 [] CL (fun x hx => absurd hx (List.not_mem_nil)) hr
  have D4 : (clCode CL).length ≤ 400 := by rw [clCode_len]; omega
  have hV1 : vld (kO B T N (I 125)) := vld_K hx.2.2.1 (fun k hk => kO_lo N4 (by omega) (by omega) (by omega))
  have e56 : fRef (cpR 82 71 (rdR R)) 71 (kO B T N (I 125)) = fRef R 71 (I 125) := by
    unfold fRef
    rw [kO_lo N4 (by omega) (by omega) (by omega), cpR_fr (by omega), rdR_ne (by omega)]
  refine pl_120 (d := d + 50) (s := (kO B T N (I 125), k, I 136, 0, mI 1)) ⟨?_, pg.2.2.1, D4, fun j cl hj => ⟨pg.1 j cl hj, pj cl (List.mem_of_getElem? hj)⟩, ?_, ?_, ?_, ?_⟩ ?_ ⟨hV1, kO_law N4 hx.2.2.2.1, by show inB (mI 1).toInt; unfold inB; decide, fun _ _ => rfl⟩ rfl rfl
  · exact txC_fr tx1 (fun a a1 a2 => by rw [asI_fr (by omega), gT a a1])
  · intro i hi
    rw [cpR_fr (by omega)]
    exact tx79 i hi
  · rw [e56]
    exact clw_R (clw_fr hx.2.2.2.2 (fun a ha => by rw [asI_fr (by omega), gG a (by omega) (by omega) (by omega)])) (fun a ha => by rw [cpR_fr (by omega), rdR_ne (by omega)])
  · rw [asI_fr (by omega), gG 1 (by omega) (by omega) (by omega)]; exact (Inv_K0 H).1
  · rw [asI_fr (by omega), gG 1 (by omega) (by omega) (by omega)]; exact (Inv_K0 H).2
  · have h2 : clS (asI G) (I 125) k (I 136) := clS_fr hc (fun a a1 a2 => by rw [asI_fr (by omega), gG a (by omega) (by omega) (by omega)])
    obtain ⟨q1, n, q2, q3, q4⟩ := h2
    have e52 : kO B T N (I 125) 52 = I 125 52 := kO_lo N4 (by omega) (by omega) (by omega)
    exact ⟨hutR_K q1 (fun k hk => kO_lo N4 (by omega) (by omega) (by omega)), n, q2, q3, pastRel_K q4 e52⟩
end GG
