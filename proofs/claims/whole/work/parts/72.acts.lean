/-! ACTS AS NUMBERS: the answer, and what is written -/
/-- whether a question can be asked now -/
def canA (c : Option (List tCl)) (K : Nat → Int32) (q : Nat) : Bool := decide (¬ K 4 = -1) && (!bv c K q (pc (kn K 0)) && decide (kn K 2 + yv c K q (pc (kn K 0)) ≤ 9999))
def plA (K : Nat → Int32) (q : Nat) : Nat := an (kn K (37 + q)) (kn K 4)
def askA (c : Option (List tCl)) (K : Nat → Int32) (q : Nat) : Int32 := nI ((plA K q + (if tv c K q (pc (kn K 0)) = true then 1 else 0)) % 4)
def askW (c : Option (List tCl)) (K : Nat → Int32) (q : Nat) : List (Nat × Int32) := [(0, nI (alk (kn K (37 + q)) (kn K 52) (kn K 0) (plA K q))), (2, nI (kn K 2 + yv c K q (pc (kn K 0)))), (5 + q, nI (min (kn K (5 + q) + 1) 999))]
def hidW (K : Nat → Int32) (t : Int32) : List (Nat × Int32) := [(4, t), (0, nI (2 ^ kn K 52 - 1)), (5, 0), (6, 0), (7, 0), (8, 0), (9, 0), (10, 0), (11, 0), (12, 0)]
def isT (K : Nat → Int32) (t : Int32) : Bool := decide (t = -1) || (decide (0 ≤ t) && decide (t < K 52))
def isQ (K : Nat → Int32) (t : Int32) : Bool := decide (0 ≤ t) && decide (t < K 53)
/-- an act: 0 ask, 1 pour, 2 pass, 3 hide -/
def actW (c : Option (List tCl)) (K : Nat → Int32) (kd : Nat) (v : Int32) : Int32 × List (Nat × Int32) :=
  if kd = 0 then (if isQ K v = true then (if canA c K v.toNatClampNeg = true then (askA c K v.toNatClampNeg, askW c K v.toNatClampNeg) else (-3, [])) else (-2, []))
  else if kd = 1 then (if 1 ≤ v ∧ v ≤ 9 then (nI (min (kn K 1 + v.toNatClampNeg) 99), [(1, nI (min (kn K 1 + v.toNatClampNeg) 99))]) else (-1, []))
  else if kd = 2 then (if kn K 3 < 999 then (nI (kn K 3 + 1), [(3, nI (kn K 3 + 1)), (1, nI (kn K 1 - 1))]) else (-3, []))
  else (if isT K v = true then (nI (kn K 52), hidW K v) else (-2, []))
/-- refused, or what is written can stand -/
theorem askW_ok {c : Option (List tCl)} {K : Nat → Int32} {q : Nat} (hV : vld K) (hq : q < 8) (hc : kn K 2 + yv c K q (pc (kn K 0)) ≤ 9999) : wsOk (askW c K q) ∧ vldH (updL K (askW c K q)) := by
  have h52 := kn_52 hV
  have h5 := kn_e hV (j := 5 + q) (by omega) (by omega) (by omega)
  rw [mx_5 q hq] at h5
  refine ⟨⟨⟨by omega, by omega, Or.inl rfl⟩, ⟨by omega, by omega, Or.inr (Or.inr (Or.inr ⟨_, hc, rfl⟩))⟩, ⟨by omega, by omega, Or.inr (Or.inr (Or.inr ⟨_, by rw [mx_5 q hq]; omega, rfl⟩))⟩, trivial⟩, ?_⟩
  have e : ∀ j, j ≠ 0 → j ≠ 2 → j ≠ 5 + q → updL K (askW c K q) j = K j := fun j j0 j2 j5 => by
    show upd (upd (upd K 0 _) 2 _) (5 + q) _ j = K j
    rw [upd_ne j5, upd_ne j2, upd_ne j0]
  have e0 : updL K (askW c K q) 0 = nI (alk (kn K (37 + q)) (kn K 52) (kn K 0) (plA K q)) := by
    show upd (upd (upd K 0 _) 2 _) (5 + q) _ 0 = _
    rw [upd_ne (by omega), upd_ne (by omega), upd_eq]
  refine ⟨?_, ⟨_, ?_, e0⟩, ?_⟩
  · rw [e 4 (by omega) (by omega) (by omega), e 52 (by omega) (by omega) (by omega)]; exact hV.2.2.1
  · rw [e 52 (by omega) (by omega) (by omega), h52.1, nI_c (by omega)]
    exact bs_lt _ _
  · rw [e 56 (by omega) (by omega) (by omega), e 55 (by omega) (by omega) (by omega)]; exact hV.2.2.2.2
theorem actW_ok {c : Option (List tCl)} {K : Nat → Int32} {kd : Nat} {v : Int32} (hV : vld K) : ((actW c K kd v).2 = [] ∧ ((actW c K kd v).1 = -1 ∨ (actW c K kd v).1 = -2 ∨ (actW c K kd v).1 = -3)) ∨ (wsOk (actW c K kd v).2 ∧ vldH (updL K (actW c K kd v).2) ∧ updL K (actW c K kd v).2 52 = K 52 ∧ bn (actW c K kd v).1 999) := by
  have h52 := kn_52 hV
  have h53 := kn_53 hV
  have h1 : K 1 = nI (kn K 1) ∧ kn K 1 ≤ 99 := kn_e hV (by omega) (by omega) (by omega)
  have h3 : K 3 = nI (kn K 3) ∧ kn K 3 ≤ 999 := kn_e hV (by omega) (by omega) (by omega)
  unfold actW
  split
  · split
    · rename_i hq
      split
      · rename_i hca
        right
        unfold isQ at hq
        rw [h53.1] at hq
        simp only [Bool.and_eq_true, decide_eq_true_eq] at hq
        obtain ⟨k, hk, e⟩ := nI_of (x := v) (Int32.not_lt.mpr hq.1)
        subst e
        have hk2 : k < kn K 53 := (nI_ltI hk (by omega)).mp hq.2
        rw [nI_clamp hk] at hca ⊢
        unfold canA at hca
        simp only [Bool.and_eq_true, decide_eq_true_eq] at hca
        obtain ⟨w1, w2⟩ := askW_ok hV (q := k) (by omega) hca.2.2
        refine ⟨w1, w2, ?_, ⟨(plA K k + (if tv c K k (pc (kn K 0)) = true then 1 else 0)) % 4, by omega, rfl⟩⟩
        show upd (upd (upd K 0 _) 2 _) (5 + k) _ 52 = _
        rw [upd_ne (by omega), upd_ne (by omega), upd_ne (by omega)]
      · exact Or.inl ⟨rfl, Or.inr (Or.inr rfl)⟩
    · exact Or.inl ⟨rfl, Or.inr (Or.inl rfl)⟩
  · split
    · split
      · right
        exact ⟨⟨⟨by omega, by omega, Or.inr (Or.inr (Or.inr ⟨_, by show min _ 99 ≤ 99; omega, rfl⟩))⟩, trivial⟩, hV.2.2, rfl, ⟨_, by omega, rfl⟩⟩
      · exact Or.inl ⟨rfl, Or.inl rfl⟩
    · split
      · split
        · right
          exact ⟨⟨⟨by omega, by omega, Or.inr (Or.inr (Or.inr ⟨_, by show kn K 3 + 1 ≤ 999; omega, rfl⟩))⟩, ⟨by omega, by omega, Or.inr (Or.inr (Or.inr ⟨_, by show kn K 1 - 1 ≤ 99; omega, rfl⟩))⟩, trivial⟩, hV.2.2, rfl, ⟨_, by omega, rfl⟩⟩
        · exact Or.inl ⟨rfl, Or.inr (Or.inr rfl)⟩
      · split
        · rename_i ht
          right
          have bz : bn 0 999 := ⟨0, by omega, rfl⟩
          have p0 : 0 < 2 ^ kn K 52 := Nat.two_pow_pos _
          refine ⟨⟨⟨by omega, by omega, Or.inr (Or.inl rfl)⟩, ⟨by omega, by omega, Or.inl rfl⟩, ⟨by omega, by omega, Or.inr (Or.inr (Or.inr bz))⟩, ⟨by omega, by omega, Or.inr (Or.inr (Or.inr bz))⟩, ⟨by omega, by omega, Or.inr (Or.inr (Or.inr bz))⟩, ⟨by omega, by omega, Or.inr (Or.inr (Or.inr bz))⟩, ⟨by omega, by omega, Or.inr (Or.inr (Or.inr bz))⟩, ⟨by omega, by omega, Or.inr (Or.inr (Or.inr bz))⟩, ⟨by omega, by omega, Or.inr (Or.inr (Or.inr bz))⟩, ⟨by omega, by omega, Or.inr (Or.inr (Or.inr bz))⟩, trivial⟩, ⟨?_, ⟨2 ^ kn K 52 - 1, ?_, rfl⟩, hV.2.2.2.2⟩, rfl, ⟨_, by omega, rfl⟩⟩
          · unfold isT at ht
            rw [h52.1] at ht
            simp only [Bool.or_eq_true, Bool.and_eq_true, decide_eq_true_eq] at ht
            rcases ht with ht | ht
            · exact Or.inl ht
            · obtain ⟨k, hk, e⟩ := nI_of (x := v) (Int32.not_lt.mpr ht.1)
              subst e
              refine Or.inr ⟨k, ?_, rfl⟩
              show k < (K 52).toNatClampNeg
              rw [h52.1, nI_c (by omega)]
              exact (nI_ltI hk (by omega)).mp ht.2
          · show 2 ^ kn K 52 - 1 < 2 ^ (K 52).toNatClampNeg
            rw [h52.1, nI_c (by omega)]
            omega
        · exact Or.inl ⟨rfl, Or.inr (Or.inl rfl)⟩
/-- what an act leaves of the laws -/
theorem upd_law {K : Nat → Int32} {ws : List (Nat × Int32)} {c : Option (List tCl)} (ho : wsOk ws) (h56 : updL K ws 56 = K 56) (h : lawOf K c) : lawOf (updL K ws) c := by
  have hi : ∀ j, 57 ≤ j → updL K ws j = K j := fun j hj => updL_hi ws ho j (Or.inr hj)
  rcases h with ⟨e, rfl⟩ | ⟨f, n, T, CL, hf, ef, ho', eT, hT, hp, rfl⟩
  · exact Or.inl ⟨h56.trans e, rfl⟩
  · obtain ⟨c1, c2, c3⟩ := kC_same (K' := updL K ws) hf (fun k k1 _ => hi k k1) ho'
    refine Or.inr ⟨f, n, T, CL, hf, h56.trans ef, ?_, c3.trans eT, hT, by rw [c1, c2]; exact hp, rfl⟩
    obtain ⟨T', hT', e', hk⟩ := ho'
    refine ⟨T', hT', c3.trans e', fun k hk' => ?_⟩
    rw [c1, c2, hi _ (by omega), hi _ (by omega)]
    exact hk k hk'
theorem act_56 {c : Option (List tCl)} {K : Nat → Int32} {kd : Nat} {v : Int32} (hV : vld K) : updL K (actW c K kd v).2 56 = K 56 ∧ updL K (actW c K kd v).2 55 = K 55 ∧ updL K (actW c K kd v).2 53 = K 53 := by
  have h53 := kn_53 hV
  unfold actW
  split
  · split
    · rename_i hq
      split
      · unfold isQ at hq
        rw [h53.1] at hq
        simp only [Bool.and_eq_true, decide_eq_true_eq] at hq
        obtain ⟨k, hk, e⟩ := nI_of (x := v) (Int32.not_lt.mpr hq.1)
        subst e
        have hk2 : k < kn K 53 := (nI_ltI hk (by omega)).mp hq.2
        rw [nI_clamp hk]
        refine ⟨?_, ?_, ?_⟩
        · show upd (upd (upd K 0 _) 2 _) (5 + k) _ 56 = _
          rw [upd_ne (by omega), upd_ne (by omega), upd_ne (by omega)]
        · show upd (upd (upd K 0 _) 2 _) (5 + k) _ 55 = _
          rw [upd_ne (by omega), upd_ne (by omega), upd_ne (by omega)]
        · show upd (upd (upd K 0 _) 2 _) (5 + k) _ 53 = _
          rw [upd_ne (by omega), upd_ne (by omega), upd_ne (by omega)]
      · exact ⟨rfl, rfl, rfl⟩
    · exact ⟨rfl, rfl, rfl⟩
  · split
    · split <;> exact ⟨rfl, rfl, rfl⟩
    · split
      · split <;> exact ⟨rfl, rfl, rfl⟩
      · split <;> exact ⟨rfl, rfl, rfl⟩
