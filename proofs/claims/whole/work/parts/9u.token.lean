/-! TOKENS: the bytes of a text, and what tokens they make -/
def isSm (b : Nat) : Bool := decide (97 ≤ b) && decide (b ≤ 122)
def isDg (b : Nat) : Bool := decide (48 ≤ b) && decide (b ≤ 57)
def isBl (b : Nat) : Bool := decide (b = 32)
def spF (B : Nat → Nat) (p : Nat → Bool) : Nat → Nat → Nat
  | 0, k => k
  | n + 1, k => if p (B k) = true then spF B p n (k + 1) else k
section TK
variable (B : Nat → Nat) (T : Nat)
/-- the first place from k on where p fails -/
def sp (p : Nat → Bool) (k : Nat) : Nat := spF B p (T - k) k
def nb (k : Nat) : Nat := sp B T isBl k
/-- where a token that begins at k ends -/
def te (k : Nat) : Nat := if T ≤ k then k else if isSm (B k) = true then sp B T isSm (k + 1) else if isDg (B k) = true then sp B T isDg (k + 1) else k + 1
/-- where the j-th token begins -/
def tS : Nat → Nat
  | 0 => nb B T 0
  | j + 1 => nb B T (te B T (tS j))
def slc (p q : Nat) : List Nat := (List.range (q - p)).map (fun i => B (p + i))
def vlF : Nat → Nat → Nat → Nat
  | 0, _, v => v
  | n + 1, k, v => vlF n (k + 1) (if 1000000 < v then v else 10 * v + B k - 48)
end TK
def fnd (s : List Nat) : List (List Nat) → Nat → Option Nat
  | [], _ => none
  | w :: r, n => if w = s then some n else fnd s r (n + 1)
def wds : List (List Nat) := [[97, 103, 101, 115], [116, 117, 114, 110, 115], [98, 97, 114, 115], [105, 102], [111, 114], [97, 110, 100], [110, 111, 116], [113, 117, 101, 115, 116, 105, 111, 110], [121, 101, 97, 114, 115], [115, 111, 114, 116], [109, 111, 111, 100], [97, 115, 107, 101, 100], [97, 103, 101], [108, 101, 102, 116], [116, 101, 97], [100, 97, 121], [100, 111, 110, 101], [97, 110, 115, 119, 101, 114], [97, 115, 107], [112, 111, 117, 114], [112, 97, 115, 115], [104, 105, 100, 101], [116, 105, 109, 101, 115]]
def wdC (s : List Nat) : Nat := (fnd s wds 1).getD 0
section TL
variable (B : Nat → Nat) (T : Nat)
def cdT (p : Nat) : Nat := if T ≤ p then 0 else if isSm (B p) = true then wdC (slc B p (te B T p)) else if isDg (B p) = true then 50 else 100 + B p
def vlT (p : Nat) : Nat := if T ≤ p then 0 else if isDg (B p) = true then vlF B (te B T p - p) p 0 else 0
def tC (j : Nat) : Nat := cdT B T (tS B T j)
def tV (j : Nat) : Nat := vlT B T (tS B T j)
end TL
section TM
variable {B : Nat → Nat} {T : Nat} {p : Nat → Bool}
theorem spF_b : ∀ n k, k ≤ spF B p n k ∧ spF B p n k ≤ k + n
  | 0, k => ⟨Nat.le_refl _, Nat.le_refl _⟩
  | n + 1, k => by
    unfold spF
    split
    · have := spF_b n (k + 1); omega
    · omega
theorem sp_b {k : Nat} (hk : k ≤ T) : k ≤ sp B T p k ∧ sp B T p k ≤ T := by
  have := spF_b (B := B) (p := p) (T - k) k
  unfold sp
  omega
theorem sp_y {k : Nat} (hk : k < T) (h : p (B k) = true) : sp B T p k = sp B T p (k + 1) := by
  unfold sp
  rw [show T - k = (T - (k + 1)) + 1 by omega]
  show (if p (B k) = true then _ else _) = _
  rw [if_pos h]
theorem sp_n {k : Nat} (h : T ≤ k ∨ p (B k) = false) : sp B T p k = k := by
  unfold sp
  by_cases hk : T ≤ k
  · rw [show T - k = 0 by omega]; rfl
  · rw [show T - k = (T - (k + 1)) + 1 by omega]
    show (if p (B k) = true then _ else _) = _
    rw [if_neg]
    rcases h with h | h
    · exact absurd h hk
    · rw [h]; decide
theorem spF_out : ∀ n k, spF B p n k < k + n → p (B (spF B p n k)) = false
  | 0, k, h => by unfold spF at h; omega
  | n + 1, k, h => by
    unfold spF at h ⊢
    by_cases c : p (B k) = true
    · rw [if_pos c] at h ⊢
      exact spF_out n (k + 1) (by omega)
    · rw [if_neg c]; simpa using c
theorem sp_out {k : Nat} (hk : k ≤ T) (h : sp B T p k < T) : p (B (sp B T p k)) = false := spF_out _ _ (by unfold sp at h; omega)
theorem spF_in : ∀ n k i, k ≤ i → i < spF B p n k → p (B i) = true
  | 0, k, i, h1, h2 => by unfold spF at h2; omega
  | n + 1, k, i, h1, h2 => by
    unfold spF at h2
    by_cases c : p (B k) = true
    · rw [if_pos c] at h2
      by_cases e : i = k
      · rw [e]; exact c
      · exact spF_in n (k + 1) i (by omega) h2
    · rw [if_neg c] at h2; omega
theorem sp_in {k i : Nat} (h1 : k ≤ i) (h2 : i < sp B T p k) : p (B i) = true := spF_in _ _ i h1 h2
theorem te_b {k : Nat} (hk : k ≤ T) : k ≤ te B T k ∧ te B T k ≤ T ∧ (k < T → k < te B T k) := by
  unfold te
  by_cases h : T ≤ k
  · rw [if_pos h]; omega
  · rw [if_neg h]
    split
    · have := sp_b (B := B) (p := isSm) (show k + 1 ≤ T by omega); omega
    · split
      · have := sp_b (B := B) (p := isDg) (show k + 1 ≤ T by omega); omega
      · omega
theorem tS_b : ∀ j, tS B T j ≤ T
  | 0 => (sp_b (Nat.zero_le T)).2
  | j + 1 => (sp_b (te_b (tS_b j)).2.1).2
theorem tS_s (j : Nat) : tS B T j ≤ tS B T (j + 1) ∧ (tS B T j < T → tS B T j < tS B T (j + 1)) := by
  have h1 := te_b (B := B) (tS_b (B := B) (T := T) j)
  have h2 := sp_b (B := B) (p := isBl) h1.2.1
  have e : tS B T (j + 1) = sp B T isBl (te B T (tS B T j)) := rfl
  rw [e]
  refine ⟨by omega, fun h => ?_⟩
  have := h1.2.2 h
  omega
theorem tS_nb (j : Nat) (h : tS B T j < T) : ¬ B (tS B T j) = 32 := by
  have : isBl (B (tS B T j)) = false := by
    cases j with
    | zero => exact sp_out (Nat.zero_le T) h
    | succ j => exact sp_out (te_b (tS_b j)).2.1 h
  unfold isBl at this
  simpa using this
theorem tS_T {j : Nat} (h : tS B T j = T) : tS B T (j + 1) = T := by
  have := (tS_s (B := B) (T := T) j).1
  have := tS_b (B := B) (T := T) (j + 1)
  omega
theorem tS_ge : ∀ j, j ≤ tS B T j ∨ tS B T j = T
  | 0 => Or.inl (Nat.zero_le _)
  | j + 1 => by
    have hb := tS_b (B := B) (T := T) j
    by_cases h : tS B T j = T
    · exact Or.inr (tS_T h)
    · have := (tS_s (B := B) (T := T) j).2 (by omega)
      rcases tS_ge j with h1 | h1
      · left; omega
      · exact absurd h1 h
/-- how many tokens there are -/
theorem tN_ex : ∃ N, N ≤ T ∧ tS B T N = T ∧ ∀ j, j < N → tS B T j < T := by
  have hT : tS B T T = T := by
    rcases tS_ge (B := B) (T := T) T with h | h
    · have := tS_b (B := B) (T := T) T; omega
    · exact h
  have : ∀ n, n ≤ T → tS B T n = T → ∃ N, N ≤ T ∧ tS B T N = T ∧ ∀ j, j < N → tS B T j < T := by
    intro n
    induction n with
    | zero => intro _ h; exact ⟨0, by omega, h, fun j hj => absurd hj (by omega)⟩
    | succ n ih =>
      intro hn h
      by_cases c : tS B T n = T
      · exact ih (by omega) c
      · refine ⟨n + 1, hn, h, fun j hj => ?_⟩
        have hb := tS_b (B := B) (T := T) n
        have mono : ∀ i m, tS B T i ≤ tS B T (i + m) := by
          intro i m
          induction m with
          | zero => exact Nat.le_refl _
          | succ m ih2 => exact Nat.le_trans ih2 (tS_s (i + m)).1
        have := mono j (n - j)
        rw [show j + (n - j) = n by omega] at this
        omega
  exact this T (Nat.le_refl T) hT
theorem tS_ge2 {N : Nat} (h : tS B T N = T) : ∀ i, tS B T (N + i) = T
  | 0 => h
  | i + 1 => tS_T (tS_ge2 h i)
/-- as the class finds a token's end -/
theorem te_c {k : Nat} (hk : k < T) : te B T k = if sp B T (if B k ≤ 57 then isDg else isSm) k = k then k + 1 else sp B T (if B k ≤ 57 then isDg else isSm) k := by
  unfold te
  rw [if_neg (by omega)]
  by_cases c : B k ≤ 57
  · rw [if_pos c]
    have ns : isSm (B k) = false := by unfold isSm; rw [decide_eq_false (by omega)]; rfl
    rw [ns, if_neg (by decide)]
    by_cases dg : isDg (B k) = true
    · have := sp_y (B := B) hk dg
      have h2 := sp_b (B := B) (p := isDg) (show k + 1 ≤ T by omega)
      rw [if_pos dg, this, if_neg (by omega)]
    · rw [if_neg dg, sp_n (Or.inr (by simpa using dg)), if_pos rfl]
  · rw [if_neg c]
    have nd : isDg (B k) = false := by unfold isDg; rw [decide_eq_false (show ¬ B k ≤ 57 from c), Bool.and_false]
    by_cases sm : isSm (B k) = true
    · have := sp_y (B := B) hk sm
      have h2 := sp_b (B := B) (p := isSm) (show k + 1 ≤ T by omega)
      rw [if_pos sm, this, if_neg (by omega)]
    · rw [if_neg sm, nd, if_neg (by decide), sp_n (Or.inr (by simpa using sm)), if_pos rfl]
end TM
