/-! FUEL: the language's readers end -/
def lePO {α : Type} (x y : Option α) : Prop := ∀ r, x = some r → y = some r
theorem bnd_le {α β : Type} {x x' : Option (Except Nat α)} {g g' : α → Option (Except Nat β)} (h : lePO x x') (hg : ∀ a, lePO (g a) (g' a)) : lePO (bnd x g) (bnd x' g') := by
  intro r hr
  rcases bnd_in hr with ⟨e, h1, h2⟩ | ⟨a, h1, h2⟩
  · rw [h _ h1, h2]; rfl
  · rw [h _ h1]; exact hg a r h2
theorem lePO_rf {α : Type} (x : Option α) : lePO x x := fun _ h => h
theorem ite_le {α : Type} {p : Prop} [Decidable p] {x x' y y' : Option α} (h1 : lePO x x') (h2 : lePO y y') : lePO (if p then x else y) (if p then x' else y') := by
  split
  · exact h1
  · exact h2
section FU
variable {o : Bool} {C V : Nat → Nat}
theorem pS_up : ∀ n md d k l f cs, lePO (pS o C V n md d k l f cs) (pS o C V (n + 1) md d k l f cs)
  | 0, md, d, k, l, f, cs => fun r h => by cases h
  | n + 1, 0, d, k, l, f, cs => by
    show lePO (if C k = 191 then _ else _) (if C k = 191 then _ else _)
    refine ite_le (ite_le (lePO_rf _) (bnd_le (pS_up n 1 _ _ _ _ _) (fun a => lePO_rf _))) (lePO_rf _)
  | n + 1, 1, d, k, l, f, cs => bnd_le (pS_up n 0 _ _ _ _ _) (fun a => bnd_le (pS_up n 2 _ _ _ _ _) (fun b => pS_up n 3 _ _ _ _ _))
  | n + 1, 2, d, k, l, f, cs => by
    show lePO (if mulOp (C k) = 0 then _ else _) (if mulOp (C k) = 0 then _ else _)
    exact ite_le (lePO_rf _) (bnd_le (pS_up n 0 _ _ _ _ _) (fun a => pS_up n 2 _ _ _ _ _))
  | n + 1, md + 3, d, k, l, f, cs => by
    show lePO (if addOp (C k) = 0 then _ else _) (if addOp (C k) = 0 then _ else _)
    exact ite_le (lePO_rf _) (bnd_le (pS_up n 0 _ _ _ _ _) (fun a => bnd_le (pS_up n 2 _ _ _ _ _) (fun b => pS_up n 3 _ _ _ _ _)))
theorem pB_up : ∀ n md p d k l c g cs, lePO (pB o C V n md p d k l c g cs) (pB o C V (n + 1) md p d k l c g cs)
  | 0, md, p, d, k, l, c, g, cs => fun r h => by cases h
  | n + 1, 0, p, d, k, l, c, g, cs => by
    show lePO (if C k = 7 then _ else if C k = 140 then _ else _) (if C k = 7 then _ else if C k = 140 then _ else _)
    refine ite_le (pB_up n 0 _ _ _ _ _ _ _) (ite_le (ite_le (lePO_rf _) (bnd_le (pB_up n 1 _ _ _ _ _ _ _) (fun a => lePO_rf _))) (bnd_le (pS_up n 1 _ _ _ _ _) (fun a => ite_le (lePO_rf _) (bnd_le (pS_up n 1 _ _ _ _ _) (fun b => lePO_rf _)))))
  | n + 1, 1, p, d, k, l, c, g, cs => bnd_le (pB_up n 0 _ _ _ _ _ _ _) (fun a => bnd_le (pB_up n 2 _ _ _ _ _ _ _) (fun b => pB_up n 3 _ _ _ _ _ _ _))
  | n + 1, 2, p, d, k, l, c, g, cs => by
    show lePO (if C k = 6 then _ else _) (if C k = 6 then _ else _)
    exact ite_le (bnd_le (pB_up n 0 _ _ _ _ _ _ _) (fun a => pB_up n 2 _ _ _ _ _ _ _)) (lePO_rf _)
  | n + 1, md + 3, p, d, k, l, c, g, cs => by
    show lePO (if C k = 5 then _ else _) (if C k = 5 then _ else _)
    exact ite_le (bnd_le (pB_up n 0 _ _ _ _ _ _ _) (fun a => bnd_le (pB_up n 2 _ _ _ _ _ _ _) (fun b => pB_up n 3 _ _ _ _ _ _ _))) (lePO_rf _)
variable {N : Nat}
theorem pLf_ok (hN : ∀ k, N ≤ k → C k = 0) {k l : Nat} {r : Nat × Nat × tDS × tCd} (h : pLf o C V k l = some (.ok r)) : k < r.1 ∧ r.1 ≤ N ∧ r.2.2.2.length ≤ r.1 - k := by
  unfold pLf at h
  have kN : isLf o (C k) (V k) = true → k < N := fun hh => by
    refine Nat.not_le.mp (fun h2 => ?_)
    rw [hN k h2] at hh
    unfold isLf at hh
    cases o <;> simp at hh
  split at h
  · cases h
  · rename_i hl
    have kN := kN (by simpa using hl)
    split at h
    · cases h
    · split at h
      · cases h
        exact ⟨by simp, (by show k + 1 ≤ N; omega), by simp⟩
      · split at h
        · split at h
          · rename_i hc
            cases h
            have : k + 1 < N := Nat.not_le.mp (fun h2 => by rw [hN _ h2] at hc; omega)
            exact ⟨by simp, (by show k + 2 ≤ N; omega), by simp⟩
          · cases h
        · cases h
          exact ⟨by simp, (by show k + 1 ≤ N; omega), by simp⟩
/-- where a reader goes on, and how much code it adds -/
theorem pS_pr (hN : ∀ k, N ≤ k → C k = 0) : ∀ n md d k l f cs r, pS o C V n md d k l f cs = some (.ok r) → k ≤ N → r.1 ≤ N ∧ (md ≤ 1 → k < r.1 ∧ r.2.2.2.length ≤ r.1 - k) ∧ (2 ≤ md → k ≤ r.1 ∧ r.2.2.2.length ≤ cs.length + (r.1 - k))
  | 0, md, d, k, l, f, cs, r, h, _ => by cases h
  | n + 1, 0, d, k, l, f, cs, r, h, hk => by
    have h : (if C k = 191 then (if 8 ≤ d then some (.error k) else bnd (pS o C V n 1 (d + 1) (k + 1) l f []) fun r => if C r.1 = 193 then some (.ok (r.1 + 1, r.2)) else some (.error r.1)) else pLf o C V k l) = some (.ok r) := h
    split at h
    · rename_i c1
      have kN : k < N := Nat.not_le.mp (fun h2 => by rw [hN _ h2] at c1; omega)
      split at h
      · cases h
      · obtain ⟨a, h1, h2⟩ := bnd_iok h
        split at h2
        · rename_i c2
          cases h2
          have aN : a.1 < N := Nat.not_le.mp (fun h2 => by rw [hN _ h2] at c2; omega)
          obtain ⟨b1, b2, -⟩ := pS_pr hN n 1 _ _ _ _ _ _ h1 (by omega)
          have b2 := b2 (by omega)
          refine ⟨(by show a.1 + 1 ≤ N; omega), fun _ => ⟨by simp; omega, by simp; omega⟩, fun h => absurd h (by omega)⟩
        · cases h2
    · obtain ⟨a1, a2, a3⟩ := pLf_ok hN h
      exact ⟨a2, fun _ => ⟨a1, a3⟩, fun h => absurd h (by omega)⟩
  | n + 1, 1, d, k, l, f, cs, r, h, hk => by
    obtain ⟨a, h1, h2⟩ := bnd_iok h
    obtain ⟨b, h3, h4⟩ := bnd_iok h2
    obtain ⟨p1, p2, -⟩ := pS_pr hN n 0 _ _ _ _ _ _ h1 hk
    obtain ⟨q1, -, q2⟩ := pS_pr hN n 2 _ _ _ _ _ _ h3 p1
    obtain ⟨s1, -, s2⟩ := pS_pr hN n 3 _ _ _ _ _ _ h4 q1
    have p2 := p2 (by omega)
    have q2 := q2 (by omega)
    have s2 := s2 (by omega)
    exact ⟨s1, fun _ => ⟨by omega, by omega⟩, fun h => absurd h (by omega)⟩
  | n + 1, 2, d, k, l, f, cs, r, h, hk => by
    have h : (if mulOp (C k) = 0 then some (.ok (k, l, f, cs)) else bnd (pS o C V n 0 d (k + 1) l f []) fun r => pS o C V n 2 d r.1 r.2.1 (opS (mulOp (C k)) f r.2.2.1) (cs ++ (r.2.2.2 ++ [(mulOp (C k), 0)]))) = some (.ok r) := h
    split at h
    · cases h
      exact ⟨hk, fun h => absurd h (by omega), fun _ => ⟨Nat.le_refl _, by simp⟩⟩
    · rename_i c1
      have kN : k < N := Nat.not_le.mp (fun h2 => by rw [hN _ h2] at c1; exact c1 rfl)
      obtain ⟨a, h1, h2⟩ := bnd_iok h
      obtain ⟨p1, p2, -⟩ := pS_pr hN n 0 _ _ _ _ _ _ h1 (by omega)
      obtain ⟨q1, -, q2⟩ := pS_pr hN n 2 _ _ _ _ _ _ h2 p1
      have p2 := p2 (by omega)
      have q2 := q2 (by omega)
      refine ⟨q1, fun h => absurd h (by omega), fun _ => ⟨by omega, ?_⟩⟩
      have := q2.2
      simp only [List.length_append, List.length_cons, List.length_nil] at this
      omega
  | n + 1, md + 3, d, k, l, f, cs, r, h, hk => by
    have h : (if addOp (C k) = 0 then some (.ok (k, l, f, cs)) else bnd (pS o C V n 0 d (k + 1) l f []) fun r => bnd (pS o C V n 2 d r.1 r.2.1 r.2.2.1 r.2.2.2) fun r => pS o C V n 3 d r.1 r.2.1 (opS (addOp (C k)) f r.2.2.1) (cs ++ (r.2.2.2 ++ [(addOp (C k), 0)]))) = some (.ok r) := h
    split at h
    · cases h
      exact ⟨hk, fun h => absurd h (by omega), fun _ => ⟨Nat.le_refl _, by simp⟩⟩
    · rename_i c1
      have kN : k < N := Nat.not_le.mp (fun h2 => by rw [hN _ h2] at c1; exact c1 rfl)
      obtain ⟨a, h1, h2⟩ := bnd_iok h
      obtain ⟨b, h3, h4⟩ := bnd_iok h2
      obtain ⟨p1, p2, -⟩ := pS_pr hN n 0 _ _ _ _ _ _ h1 (by omega)
      obtain ⟨q1, -, q2⟩ := pS_pr hN n 2 _ _ _ _ _ _ h3 p1
      obtain ⟨s1, -, s2⟩ := pS_pr hN n 3 _ _ _ _ _ _ h4 q1
      have p2 := p2 (by omega)
      have q2 := q2 (by omega)
      have s2 := s2 (by omega)
      refine ⟨s1, fun h => absurd h (by omega), fun _ => ⟨by omega, ?_⟩⟩
      have := s2.2
      simp only [List.length_append, List.length_cons, List.length_nil] at this
      omega
def okO {α : Type} (x : Option α) : Prop := ∃ r, x = some r
theorem bnd_t {α β : Type} {x : Option (Except Nat α)} {g : α → Option (Except Nat β)} (h : okO x) (hg : ∀ a, x = some (.ok a) → okO (g a)) : okO (bnd x g) := by
  obtain ⟨r, hr⟩ := h
  match r, hr with
  | .error e, hr => exact ⟨.error e, by rw [hr]; rfl⟩
  | .ok a, hr => rw [hr]; exact hg a hr
theorem pLf_t {k l : Nat} : okO (pLf o C V k l) := by
  unfold pLf
  split
  · exact ⟨_, rfl⟩
  · split
    · exact ⟨_, rfl⟩
    · split
      · exact ⟨_, rfl⟩
      · split
        · split <;> exact ⟨_, rfl⟩
        · exact ⟨_, rfl⟩
theorem pS_t (hN : ∀ k, N ≤ k → C k = 0) : ∀ M k, k ≤ N → N - k ≤ M → (∀ n d l f cs, 4 * M + 2 ≤ n → okO (pS o C V n 0 d k l f cs)) ∧ (∀ n d l f cs, 4 * M + 4 ≤ n → okO (pS o C V n 1 d k l f cs)) ∧ (∀ n d l f cs, 4 * M + 2 ≤ n → okO (pS o C V n 2 d k l f cs)) ∧ (∀ n d l f cs, 4 * M + 2 ≤ n → okO (pS o C V n 3 d k l f cs)) := by
  intro M
  induction M with
  | zero =>
    intro k hk hM
    have kN : k = N := by omega
    have c0 := hN k (by omega)
    have t0 : ∀ n d l f cs, 2 ≤ n → okO (pS o C V n 0 d k l f cs) := fun n d l f cs hn => by
      obtain ⟨n, rfl⟩ : ∃ m, n = m + 1 := ⟨n - 1, by omega⟩
      show okO (if C k = 191 then _ else _)
      rw [if_neg (by omega)]
      exact pLf_t
    refine ⟨fun n d l f cs hn => t0 n d l f cs (by omega), fun n d l f cs hn => ?_, fun n d l f cs hn => ?_, fun n d l f cs hn => ?_⟩
    · obtain ⟨n, rfl⟩ : ∃ m, n = m + 1 := ⟨n - 1, by omega⟩
      refine bnd_t (t0 n _ _ _ _ (by omega)) (fun a ha => ?_)
      have := (pS_pr hN n 0 _ _ _ _ _ _ ha hk)
      have h2 := this.2.1 (by omega)
      omega
    · obtain ⟨n, rfl⟩ : ∃ m, n = m + 1 := ⟨n - 1, by omega⟩
      show okO (if mulOp (C k) = 0 then _ else _)
      rw [c0, if_pos (show mulOp 0 = 0 from rfl)]
      exact ⟨_, rfl⟩
    · obtain ⟨n, rfl⟩ : ∃ m, n = m + 1 := ⟨n - 1, by omega⟩
      show okO (if addOp (C k) = 0 then _ else _)
      rw [c0, if_pos (show addOp 0 = 0 from rfl)]
      exact ⟨_, rfl⟩
  | succ M ih =>
    intro k hk hM
    have t0 : ∀ n d l f cs, 4 * (M + 1) + 2 ≤ n → okO (pS o C V n 0 d k l f cs) := fun n d l f cs hn => by
      obtain ⟨n, rfl⟩ : ∃ m, n = m + 1 := ⟨n - 1, by omega⟩
      show okO (if C k = 191 then _ else _)
      split
      · rename_i c1
        have kN : k < N := Nat.not_le.mp (fun h2 => by rw [hN _ h2] at c1; omega)
        split
        · exact ⟨_, rfl⟩
        · refine bnd_t ((ih (k + 1) (by omega) (by omega)).2.1 n _ _ _ _ (by omega)) (fun a _ => ?_)
          split <;> exact ⟨_, rfl⟩
      · exact pLf_t
    have t2 : ∀ n d l f cs, 4 * (M + 1) + 2 ≤ n → okO (pS o C V n 2 d k l f cs) := fun n d l f cs hn => by
      obtain ⟨n, rfl⟩ : ∃ m, n = m + 1 := ⟨n - 1, by omega⟩
      show okO (if mulOp (C k) = 0 then _ else _)
      split
      · exact ⟨_, rfl⟩
      · rename_i c1
        have kN : k < N := Nat.not_le.mp (fun h2 => by rw [hN _ h2] at c1; exact c1 rfl)
        refine bnd_t ((ih (k + 1) (by omega) (by omega)).1 n _ _ _ _ (by omega)) (fun a ha => ?_)
        have := pS_pr hN n 0 _ _ _ _ _ _ ha (by omega)
        have h2 := this.2.1 (by omega)
        exact (ih a.1 this.1 (by omega)).2.2.1 n _ _ _ _ (by omega)
    have t3 : ∀ n d l f cs, 4 * (M + 1) + 2 ≤ n → okO (pS o C V n 3 d k l f cs) := fun n d l f cs hn => by
      obtain ⟨n, rfl⟩ : ∃ m, n = m + 1 := ⟨n - 1, by omega⟩
      show okO (if addOp (C k) = 0 then _ else _)
      split
      · exact ⟨_, rfl⟩
      · rename_i c1
        have kN : k < N := Nat.not_le.mp (fun h2 => by rw [hN _ h2] at c1; exact c1 rfl)
        refine bnd_t ((ih (k + 1) (by omega) (by omega)).1 n _ _ _ _ (by omega)) (fun a ha => ?_)
        have h1 := pS_pr hN n 0 _ _ _ _ _ _ ha (by omega)
        have h2 := h1.2.1 (by omega)
        refine bnd_t ((ih a.1 h1.1 (by omega)).2.2.1 n _ _ _ _ (by omega)) (fun b hb => ?_)
        have h3 := pS_pr hN n 2 _ _ _ _ _ _ hb h1.1
        have h4 := h3.2.2 (by omega)
        exact (ih b.1 h3.1 (by omega)).2.2.2 n _ _ _ _ (by omega)
    refine ⟨t0, fun n d l f cs hn => ?_, t2, t3⟩
    obtain ⟨n, rfl⟩ : ∃ m, n = m + 1 := ⟨n - 1, by omega⟩
    refine bnd_t (t0 n _ _ _ _ (by omega)) (fun a ha => ?_)
    have h1 := pS_pr hN n 0 _ _ _ _ _ _ ha hk
    have h2 := h1.2.1 (by omega)
    refine bnd_t ((ih a.1 h1.1 (by omega)).2.2.1 n _ _ _ _ (by omega)) (fun b hb => ?_)
    have h3 := pS_pr hN n 2 _ _ _ _ _ _ hb h1.1
    have h4 := h3.2.2 (by omega)
    exact (ih b.1 h3.1 (by omega)).2.2.2 n _ _ _ _ (by omega)
end FU
