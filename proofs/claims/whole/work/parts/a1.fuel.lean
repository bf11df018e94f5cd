section FV
variable {o : Bool} {C V : Nat → Nat} {N : Nat}
theorem notC_len (p : Bool) : (notC p).length ≤ 1 := by unfold notC; split <;> simp
theorem pB_pr (hN : ∀ k, N ≤ k → C k = 0) : ∀ n md p d k l c g cs r, pB o C V n md p d k l c g cs = some (.ok r) → k ≤ N → r.1 ≤ N ∧ (md = 0 → k < r.1 ∧ r.2.2.2.length ≤ r.1 - k + (if p = true then 1 else 0)) ∧ (md = 1 → k < r.1 ∧ r.2.2.2.length ≤ r.1 - k) ∧ (2 ≤ md → k ≤ r.1 ∧ r.2.2.2.length ≤ cs.length + (r.1 - k))
  | 0, md, p, d, k, l, c, g, cs, r, h, _ => by cases h
  | n + 1, 0, p, d, k, l, c, g, cs, r, h, hk => by
    have h : (if C k = 7 then pB o C V n 0 (!p) d (k + 1) l c g [] else if C k = 140 then (if 8 ≤ d then some (.error k) else bnd (pB o C V n 1 false (d + 1) (k + 1) l c g []) fun r => if C r.1 = 141 then some (.ok (r.1 + 1, r.2.1, notD p r.2.2.1, r.2.2.2 ++ notC p)) else some (.error r.1)) else bnd (pS o C V n 1 d k l (fun _ => none) []) fun r => if cmpOp (C r.1) = 0 then some (.error r.1) else bnd (pS o C V n 1 d (r.1 + 1) r.2.1 (fun _ => none) []) fun s => some (.ok (s.1, s.2.1, notD p (cmpS (cmpOp (C r.1)) r.2.2.1 s.2.2.1), r.2.2.2 ++ (s.2.2.2 ++ ((cmpOp (C r.1), 0) :: notC p))))) = some (.ok r) := h
    have nl := notC_len p
    have nl2 : (notC p).length = if p = true then 1 else 0 := by unfold notC; split <;> rfl
    split at h
    · rename_i c1
      have kN : k < N := Nat.not_le.mp (fun h2 => by rw [hN _ h2] at c1; omega)
      obtain ⟨b1, b2, -⟩ := pB_pr hN n 0 _ _ _ _ _ _ _ _ h (by omega)
      obtain ⟨b3, b4⟩ := b2 rfl
      refine ⟨b1, fun _ => ⟨by omega, ?_⟩, fun h => absurd h (by omega), fun h => absurd h (by omega)⟩
      cases p <;> simp at b4 ⊢ <;> omega
    · split at h
      · rename_i c1
        have kN : k < N := Nat.not_le.mp (fun h2 => by rw [hN _ h2] at c1; omega)
        split at h
        · cases h
        · obtain ⟨a, h1, h2⟩ := bnd_iok h
          split at h2
          · rename_i c2
            cases h2
            have aN : a.1 < N := Nat.not_le.mp (fun h2 => by rw [hN _ h2] at c2; omega)
            obtain ⟨b1, -, b2, -⟩ := pB_pr hN n 1 _ _ _ _ _ _ _ _ h1 (by omega)
            have b2 := b2 rfl
            refine ⟨(by show a.1 + 1 ≤ N; omega), fun _ => ⟨(by show k < a.1 + 1; omega), ?_⟩, fun h => absurd h (by omega), fun h => absurd h (by omega)⟩
            show (a.2.2.2 ++ notC p).length ≤ a.1 + 1 - k + _
            rw [List.length_append]
            omega
          · cases h2
      · obtain ⟨a, h1, h2⟩ := bnd_iok h
        obtain ⟨b1, b2, -⟩ := pS_pr hN n 1 _ _ _ _ _ _ h1 hk
        have b2 := b2 (by omega)
        split at h2
        · cases h2
        · rename_i c2
          have aN : a.1 < N := Nat.not_le.mp (fun h2 => by rw [hN _ h2] at c2; exact c2 rfl)
          obtain ⟨s, h3, h4⟩ := bnd_iok h2
          cases h4
          obtain ⟨d1, d2, -⟩ := pS_pr hN n 1 _ _ _ _ _ _ h3 (by omega)
          have d2 := d2 (by omega)
          refine ⟨d1, fun _ => ⟨by omega, ?_⟩, fun h => absurd h (by omega), fun h => absurd h (by omega)⟩
          show (a.2.2.2 ++ (s.2.2.2 ++ (_ :: notC p))).length ≤ s.1 - k + _
          rw [List.length_append, List.length_append, List.length_cons]
          omega
  | n + 1, 1, p, d, k, l, c, g, cs, r, h, hk => by
    obtain ⟨a, h1, h2⟩ := bnd_iok h
    obtain ⟨b, h3, h4⟩ := bnd_iok h2
    obtain ⟨p1, p2, -⟩ := pB_pr hN n 0 _ _ _ _ _ _ _ _ h1 hk
    obtain ⟨q1, -, -, q2⟩ := pB_pr hN n 2 _ _ _ _ _ _ _ _ h3 p1
    obtain ⟨s1, -, -, s2⟩ := pB_pr hN n 3 _ _ _ _ _ _ _ _ h4 q1
    have p2 := p2 rfl
    have q2 := q2 (by omega)
    have s2 := s2 (by omega)
    rw [if_neg (by decide)] at p2
    exact ⟨s1, fun h => absurd h (by omega), fun _ => ⟨by omega, by omega⟩, fun h => absurd h (by omega)⟩
  | n + 1, 2, p, d, k, l, c, g, cs, r, h, hk => by
    have h : (if C k = 6 then bnd (pB o C V n 0 false d (k + 1) l (c + cs.length + 1) g []) fun r => pB o C V n 2 false d r.1 r.2.1 c (andD g r.2.2.1) (cs ++ ((3, c + cs.length + 1 + r.2.2.2.length) :: r.2.2.2)) else some (.ok (k, l, g, cs))) = some (.ok r) := h
    split at h
    · rename_i c1
      have kN : k < N := Nat.not_le.mp (fun h2 => by rw [hN _ h2] at c1; omega)
      obtain ⟨a, h1, h2⟩ := bnd_iok h
      obtain ⟨p1, p2, -⟩ := pB_pr hN n 0 _ _ _ _ _ _ _ _ h1 (by omega)
      obtain ⟨q1, -, -, q2⟩ := pB_pr hN n 2 _ _ _ _ _ _ _ _ h2 p1
      have p2 := p2 rfl
      have q2 := q2 (by omega)
      rw [if_neg (by decide)] at p2
      refine ⟨q1, fun h => absurd h (by omega), fun h => absurd h (by omega), fun _ => ⟨by omega, ?_⟩⟩
      have := q2.2
      simp only [List.length_append, List.length_cons] at this
      omega
    · cases h
      exact ⟨hk, fun h => absurd h (by omega), fun h => absurd h (by omega), fun _ => ⟨Nat.le_refl _, by simp⟩⟩
  | n + 1, md + 3, p, d, k, l, c, g, cs, r, h, hk => by
    have h : (if C k = 5 then bnd (pB o C V n 0 false d (k + 1) l (c + cs.length + 1) g []) fun r => bnd (pB o C V n 2 false d r.1 r.2.1 (c + cs.length + 1) r.2.2.1 r.2.2.2) fun r => pB o C V n 3 false d r.1 r.2.1 c (orD g r.2.2.1) (cs ++ ((4, c + cs.length + 1 + r.2.2.2.length) :: r.2.2.2)) else some (.ok (k, l, g, cs))) = some (.ok r) := h
    split at h
    · rename_i c1
      have kN : k < N := Nat.not_le.mp (fun h2 => by rw [hN _ h2] at c1; omega)
      obtain ⟨a, h1, h2⟩ := bnd_iok h
      obtain ⟨b, h3, h4⟩ := bnd_iok h2
      obtain ⟨p1, p2, -⟩ := pB_pr hN n 0 _ _ _ _ _ _ _ _ h1 (by omega)
      obtain ⟨q1, -, -, q2⟩ := pB_pr hN n 2 _ _ _ _ _ _ _ _ h3 p1
      obtain ⟨s1, -, -, s2⟩ := pB_pr hN n 3 _ _ _ _ _ _ _ _ h4 q1
      have p2 := p2 rfl
      have q2 := q2 (by omega)
      have s2 := s2 (by omega)
      rw [if_neg (by decide)] at p2
      refine ⟨s1, fun h => absurd h (by omega), fun h => absurd h (by omega), fun _ => ⟨by omega, ?_⟩⟩
      have := s2.2
      simp only [List.length_append, List.length_cons] at this
      omega
    · cases h
      exact ⟨hk, fun h => absurd h (by omega), fun h => absurd h (by omega), fun _ => ⟨Nat.le_refl _, by simp⟩⟩
theorem pS_t1 (hN : ∀ k, N ≤ k → C k = 0) {k n d l : Nat} {f : tDS} {cs : tCd} (hk : k ≤ N) (hn : 4 * (N - k) + 4 ≤ n) : okO (pS o C V n 1 d k l f cs) := (pS_t hN (N - k) k hk (Nat.le_refl _)).2.1 n d l f cs hn
theorem pB_t (hN : ∀ k, N ≤ k → C k = 0) : ∀ M k, k ≤ N → N - k ≤ M → (∀ n p d l c g cs, 5 * M + 6 ≤ n → okO (pB o C V n 0 p d k l c g cs)) ∧ (∀ n p d l c g cs, 5 * M + 8 ≤ n → okO (pB o C V n 1 p d k l c g cs)) ∧ (∀ n p d l c g cs, 5 * M + 6 ≤ n → okO (pB o C V n 2 p d k l c g cs)) ∧ (∀ n p d l c g cs, 5 * M + 6 ≤ n → okO (pB o C V n 3 p d k l c g cs)) := by
  intro M
  induction M with
  | zero =>
    intro k hk hM
    have c0 := hN k (by omega)
    have t0 : ∀ n p d l c g cs, 6 ≤ n → okO (pB o C V n 0 p d k l c g cs) := fun n p d l c g cs hn => by
      obtain ⟨n, rfl⟩ : ∃ m, n = m + 1 := ⟨n - 1, by omega⟩
      show okO (if C k = 7 then _ else if C k = 140 then _ else _)
      rw [if_neg (by omega), if_neg (by omega)]
      refine bnd_t (pS_t1 hN hk (by omega)) (fun a ha => ?_)
      have h1 := pS_pr hN n 1 _ _ _ _ _ _ ha hk
      have h2 := h1.2.1 (by omega)
      omega
    refine ⟨fun n p d l c g cs hn => t0 n p d l c g cs (by omega), fun n p d l c g cs hn => ?_, fun n p d l c g cs hn => ?_, fun n p d l c g cs hn => ?_⟩
    · obtain ⟨n, rfl⟩ : ∃ m, n = m + 1 := ⟨n - 1, by omega⟩
      refine bnd_t (t0 n _ _ _ _ _ _ (by omega)) (fun a ha => ?_)
      have h1 := pB_pr hN n 0 _ _ _ _ _ _ _ _ ha hk
      have h2 := h1.2.1 rfl
      omega
    · obtain ⟨n, rfl⟩ : ∃ m, n = m + 1 := ⟨n - 1, by omega⟩
      show okO (if C k = 6 then _ else _)
      rw [if_neg (by omega)]
      exact ⟨_, rfl⟩
    · obtain ⟨n, rfl⟩ : ∃ m, n = m + 1 := ⟨n - 1, by omega⟩
      show okO (if C k = 5 then _ else _)
      rw [if_neg (by omega)]
      exact ⟨_, rfl⟩
  | succ M ih =>
    intro k hk hM
    have t0 : ∀ n p d l c g cs, 5 * (M + 1) + 6 ≤ n → okO (pB o C V n 0 p d k l c g cs) := fun n p d l c g cs hn => by
      obtain ⟨n, rfl⟩ : ∃ m, n = m + 1 := ⟨n - 1, by omega⟩
      show okO (if C k = 7 then _ else if C k = 140 then _ else _)
      split
      · rename_i c1
        have kN : k < N := Nat.not_le.mp (fun h2 => by rw [hN _ h2] at c1; omega)
        exact (ih (k + 1) (by omega) (by omega)).1 n _ _ _ _ _ _ (by omega)
      · split
        · rename_i c1
          have kN : k < N := Nat.not_le.mp (fun h2 => by rw [hN _ h2] at c1; omega)
          split
          · exact ⟨_, rfl⟩
          · refine bnd_t ((ih (k + 1) (by omega) (by omega)).2.1 n _ _ _ _ _ _ (by omega)) (fun a _ => ?_)
            split <;> exact ⟨_, rfl⟩
        · refine bnd_t (pS_t1 hN hk (by omega)) (fun a ha => ?_)
          have h1 := pS_pr hN n 1 _ _ _ _ _ _ ha hk
          have h2 := h1.2.1 (by omega)
          split
          · exact ⟨_, rfl⟩
          · rename_i c2
            have aN : a.1 < N := Nat.not_le.mp (fun h2 => by rw [hN _ h2] at c2; exact c2 rfl)
            exact bnd_t (pS_t1 hN (by omega) (by omega)) (fun s _ => ⟨_, rfl⟩)
    have t2 : ∀ n p d l c g cs, 5 * (M + 1) + 6 ≤ n → okO (pB o C V n 2 p d k l c g cs) := fun n p d l c g cs hn => by
      obtain ⟨n, rfl⟩ : ∃ m, n = m + 1 := ⟨n - 1, by omega⟩
      show okO (if C k = 6 then _ else _)
      split
      · rename_i c1
        have kN : k < N := Nat.not_le.mp (fun h2 => by rw [hN _ h2] at c1; omega)
        refine bnd_t ((ih (k + 1) (by omega) (by omega)).1 n _ _ _ _ _ _ (by omega)) (fun a ha => ?_)
        have h1 := pB_pr hN n 0 _ _ _ _ _ _ _ _ ha (by omega)
        have h2 := h1.2.1 rfl
        exact (ih a.1 h1.1 (by omega)).2.2.1 n _ _ _ _ _ _ (by omega)
      · exact ⟨_, rfl⟩
    have t3 : ∀ n p d l c g cs, 5 * (M + 1) + 6 ≤ n → okO (pB o C V n 3 p d k l c g cs) := fun n p d l c g cs hn => by
      obtain ⟨n, rfl⟩ : ∃ m, n = m + 1 := ⟨n - 1, by omega⟩
      show okO (if C k = 5 then _ else _)
      split
      · rename_i c1
        have kN : k < N := Nat.not_le.mp (fun h2 => by rw [hN _ h2] at c1; omega)
        refine bnd_t ((ih (k + 1) (by omega) (by omega)).1 n _ _ _ _ _ _ (by omega)) (fun a ha => ?_)
        have h1 := pB_pr hN n 0 _ _ _ _ _ _ _ _ ha (by omega)
        have h2 := h1.2.1 rfl
        refine bnd_t ((ih a.1 h1.1 (by omega)).2.2.1 n _ _ _ _ _ _ (by omega)) (fun b hb => ?_)
        have h3 := pB_pr hN n 2 _ _ _ _ _ _ _ _ hb h1.1
        have h4 := h3.2.2.2 (by omega)
        exact (ih b.1 h3.1 (by omega)).2.2.2 n _ _ _ _ _ _ (by omega)
      · exact ⟨_, rfl⟩
    refine ⟨t0, fun n p d l c g cs hn => ?_, t2, t3⟩
    obtain ⟨n, rfl⟩ : ∃ m, n = m + 1 := ⟨n - 1, by omega⟩
    refine bnd_t (t0 n _ _ _ _ _ _ (by omega)) (fun a ha => ?_)
    have h1 := pB_pr hN n 0 _ _ _ _ _ _ _ _ ha hk
    have h2 := h1.2.1 rfl
    refine bnd_t ((ih a.1 h1.1 (by omega)).2.2.1 n _ _ _ _ _ _ (by omega)) (fun b hb => ?_)
    have h3 := pB_pr hN n 2 _ _ _ _ _ _ _ _ hb h1.1
    have h4 := h3.2.2.2 (by omega)
    exact (ih b.1 h3.1 (by omega)).2.2.2 n _ _ _ _ _ _ (by omega)
theorem lePO_n {α : Type} {x : Nat → Option α} (h : ∀ n, lePO (x n) (x (n + 1))) : ∀ n i, lePO (x n) (x (n + i))
  | n, 0 => lePO_rf _
  | n, i + 1 => fun r hr => h (n + i) r (lePO_n h n i r hr)
theorem st_n {α : Type} {x : Nat → Option α} (h : ∀ n, lePO (x n) (x (n + 1))) {n m : Nat} (hn : okO (x n)) (hm : n ≤ m) : x m = x n := by
  obtain ⟨r, hr⟩ := hn
  have := lePO_n h n (m - n) r hr
  rw [show n + (m - n) = m by omega] at this
  rw [this, hr]
end FV
