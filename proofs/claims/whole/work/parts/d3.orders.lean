/-! ORDERS LOOK AT THE WORDS FROM 5 ON ALONE -/
def w14 (W W' : Nat → Int32) : Prop := ∀ j, 5 ≤ j → j < 19 → W j = W' j
def cjS (f : tDS) : Prop := ∀ W W', w14 W W' → f W = f W'
def cjB (g : tDB) : Prop := ∀ W W', w14 W W' → g W = g W'
theorem cjS_op {p : Nat} {f g : tDS} (h1 : cjS f) (h2 : cjS g) : cjS (opS p f g) := fun W W' h => by unfold opS; rw [h1 W W' h, h2 W W' h]
theorem cjB_cmp {p : Nat} {f g : tDS} (h1 : cjS f) (h2 : cjS g) : cjB (cmpS p f g) := fun W W' h => by unfold cmpS; rw [h1 W W' h, h2 W W' h]
theorem cjB_not {p : Bool} {g : tDB} (h1 : cjB g) : cjB (notD p g) := fun W W' h => by unfold notD; rw [h1 W W' h]
theorem cjB_and {g h : tDB} (h1 : cjB g) (h2 : cjB h) : cjB (andD g h) := fun W W' e => by unfold andD; rw [h1 W W' e, h2 W W' e]
theorem cjB_or {g h : tDB} (h1 : cjB g) (h2 : cjB h) : cjB (orD g h) := fun W W' e => by unfold orD; rw [h1 W W' e, h2 W W' e]
section CJ
variable {C V : Nat → Nat}
theorem pLf_j {k l : Nat} {r : Nat × Nat × tDS × tCd} (h : pLf true C V k l = some (.ok r)) : cjS r.2.2.1 := by
  unfold pLf at h
  split at h
  · cases h
  rename_i h1
  split at h
  · cases h
  split at h
  · cases h
    exact fun _ _ _ => rfl
  rename_i h3
  split at h
  · split at h
    · rename_i h4
      cases h
      intro W W' hw
      show some (W (11 + V (k + 1))).toInt = some (W' (11 + V (k + 1))).toInt
      rw [hw _ (by omega) (by omega)]
    · cases h
  rename_i hno
  cases h
  have h1 : isLf true (C k) (V k) = true := by
    cases hh : isLf true (C k) (V k) with
    | true => rfl
    | false => exact absurd hh h1
  unfold isLf at h1
  rw [decide_eq_false h3, Bool.false_and, Bool.false_or] at h1
  simp only [if_true, Bool.and_eq_true, decide_eq_true_eq] at h1
  have n12 : ¬ C k = 12 := fun e => hno ⟨rfl, e⟩
  have hw5 : 5 ≤ wdi (C k) := by
    have : C k = 13 ∨ C k = 14 ∨ C k = 15 ∨ C k = 16 ∨ C k = 17 ∨ C k = 18 := by omega
    rcases this with e | e | e | e | e | e <;> rw [e] <;> decide
  intro W W' hw
  show some (W (wdi (C k))).toInt = some (W' (wdi (C k))).toInt
  rw [hw _ hw5 (wdi_lt _)]
theorem pS_j : ∀ n,
    (∀ d k l f cs r, pS true C V n 0 d k l f cs = some (.ok r) → cjS r.2.2.1) ∧
    (∀ d k l f cs r, pS true C V n 1 d k l f cs = some (.ok r) → cjS r.2.2.1) ∧
    (∀ d k l f cs r, cjS f → pS true C V n 2 d k l f cs = some (.ok r) → cjS r.2.2.1) ∧
    (∀ d k l f cs r, cjS f → pS true C V n 3 d k l f cs = some (.ok r) → cjS r.2.2.1)
  | 0 => ⟨fun _ _ _ _ _ _ h => (by cases h), fun _ _ _ _ _ _ h => (by cases h), fun _ _ _ _ _ _ _ h => (by cases h), fun _ _ _ _ _ _ _ h => (by cases h)⟩
  | n + 1 => by
    obtain ⟨i0, i1, i2, i3⟩ := pS_j n
    refine ⟨fun d k l f cs r h => ?_, fun d k l f cs r h => ?_, fun d k l f cs r hg h => ?_, fun d k l f cs r hg h => ?_⟩
    · unfold pS at h
      split at h
      · split at h
        · cases h
        · obtain ⟨a, e1, e2⟩ := bnd_iok h
          split at e2
          · cases e2; exact (i1 _ _ _ _ _ _ e1 :)
          · cases e2
      · exact pLf_j h
    · unfold pS at h
      obtain ⟨a, e1, e2⟩ := bnd_iok h
      obtain ⟨b, e3, e4⟩ := bnd_iok e2
      exact i3 _ _ _ _ _ _ (i2 _ _ _ _ _ _ (i0 _ _ _ _ _ _ e1) e3) e4
    · unfold pS at h
      split at h
      · cases h; exact hg
      · obtain ⟨a, e1, e2⟩ := bnd_iok h
        exact i2 _ _ _ _ _ _ (cjS_op hg (i0 _ _ _ _ _ _ e1)) e2
    · unfold pS at h
      split at h
      · cases h; exact hg
      · obtain ⟨a, e1, e2⟩ := bnd_iok h
        obtain ⟨b, e3, e4⟩ := bnd_iok e2
        exact i3 _ _ _ _ _ _ (cjS_op hg (i2 _ _ _ _ _ _ (i0 _ _ _ _ _ _ e1) e3)) e4
theorem pB_j : ∀ n,
    (∀ p d k l c g cs r, pB true C V n 0 p d k l c g cs = some (.ok r) → cjB r.2.2.1) ∧
    (∀ p d k l c g cs r, pB true C V n 1 p d k l c g cs = some (.ok r) → cjB r.2.2.1) ∧
    (∀ p d k l c g cs r, cjB g → pB true C V n 2 p d k l c g cs = some (.ok r) → cjB r.2.2.1) ∧
    (∀ p d k l c g cs r, cjB g → pB true C V n 3 p d k l c g cs = some (.ok r) → cjB r.2.2.1)
  | 0 => ⟨fun _ _ _ _ _ _ _ _ h => (by cases h), fun _ _ _ _ _ _ _ _ h => (by cases h), fun _ _ _ _ _ _ _ _ _ h => (by cases h), fun _ _ _ _ _ _ _ _ _ h => (by cases h)⟩
  | n + 1 => by
    obtain ⟨i0, i1, i2, i3⟩ := pB_j n
    have s1 := (pS_j (C := C) (V := V) n).2.1
    refine ⟨fun p d k l c g cs r h => ?_, fun p d k l c g cs r h => ?_, fun p d k l c g cs r hg h => ?_, fun p d k l c g cs r hg h => ?_⟩
    · unfold pB at h
      split at h
      · exact i0 _ _ _ _ _ _ _ _ h
      split at h
      · split at h
        · cases h
        · obtain ⟨a, e1, e2⟩ := bnd_iok h
          split at e2
          · cases e2; exact cjB_not (i1 _ _ _ _ _ _ _ _ e1)
          · cases e2
      · obtain ⟨a, e1, e2⟩ := bnd_iok h
        split at e2
        · cases e2
        · obtain ⟨b, e3, e4⟩ := bnd_iok e2
          cases e4
          exact cjB_not (cjB_cmp (s1 _ _ _ _ _ _ e1) (s1 _ _ _ _ _ _ e3))
    · unfold pB at h
      obtain ⟨a, e1, e2⟩ := bnd_iok h
      obtain ⟨b, e3, e4⟩ := bnd_iok e2
      exact i3 _ _ _ _ _ _ _ _ (i2 _ _ _ _ _ _ _ _ (i0 _ _ _ _ _ _ _ _ e1) e3) e4
    · unfold pB at h
      split at h
      · obtain ⟨a, e1, e2⟩ := bnd_iok h
        exact i2 _ _ _ _ _ _ _ _ (cjB_and hg (i0 _ _ _ _ _ _ _ _ e1)) e2
      · cases h; exact hg
    · unfold pB at h
      split at h
      · obtain ⟨a, e1, e2⟩ := bnd_iok h
        obtain ⟨b, e3, e4⟩ := bnd_iok e2
        exact i3 _ _ _ _ _ _ _ _ (cjB_or hg (i2 _ _ _ _ _ _ _ _ (i0 _ _ _ _ _ _ _ _ e1) e3)) e4
      · cases h; exact hg
theorem pX_j {T : Nat} : ∀ n m k l c acc CL, (∀ x ∈ acc, cjS (cl_f x) ∧ cjB (cl_g x)) → pX true C V T n m k l c acc = some (.ok CL) → ∀ x ∈ CL, cjS (cl_f x) ∧ cjB (cl_g x)
  | 0, _, _, _, _, _, _, _, h => by cases h
  | n + 1, m, k, l, c, acc, CL, ha, h => by
    unfold pX at h
    obtain ⟨a, e1, e2⟩ := bnd_iok h
    have hx : cjS (cl_f a.2.2) ∧ cjB (cl_g a.2.2) := by
      unfold pC at e1
      split at e1
      · cases e1
      obtain ⟨x, f1, f2⟩ := bnd_iok e1
      obtain ⟨y, f3, f4⟩ := bnd_iok f2
      obtain ⟨z, f5, f6⟩ := bnd_iok f4
      cases f6
      constructor
      · unfold pSm at f1
        split at f1
        · exact (pS_j n).2.1 _ _ _ _ _ _ f1
        · cases f1; exact fun _ _ _ => rfl
      · unfold pIf at f5
        split at f5
        · exact (pB_j n).2.1 _ _ _ _ _ _ _ _ f5
        · cases f5; exact fun _ _ _ => rfl
    have hacc : ∀ x ∈ acc ++ [a.2.2], cjS (cl_f x) ∧ cjB (cl_g x) := by
      intro x hx'
      rcases List.mem_append.mp hx' with h' | h'
      · exact ha x h'
      · rw [List.mem_singleton.mp h']; exact hx
    split at e2
    · cases e2; exact hacc
    · split at e2
      · split at e2
        · cases e2
        · exact pX_j n _ _ _ _ _ CL hacc e2
      · cases e2
end CJ
