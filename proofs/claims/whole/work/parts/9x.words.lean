/-! WORDS: which of its words the class finds, by the token's code -/
section WO
variable {B : Nat → Nat} {p q : Nat}
def mt (B : Nat → Nat) (p q : Nat) : List Nat → Nat → Option Nat
  | [], a => some a
  | c :: w, a => if p + a < q ∧ B (p + a) = c then mt B p q w (a + 1) else none
theorem plR_no (w r : List Nat) (pl : Nat) (h : ∀ c ∈ w, ¬ c = 32) : plR B p q (w ++ r) pl none = plR B p q r pl none := by
  induction w with
  | nil => rfl
  | cons c w ih =>
    show (if c = 32 then _ else _) = _
    rw [if_neg (h c List.mem_cons_self)]
    exact ih (fun x hx => h x (List.mem_cons_of_mem _ hx))
theorem plR_w (w r : List Nat) (pl : Nat) (h : ∀ c ∈ w, ¬ c = 32) : ∀ a, plR B p q (w ++ r) pl (some a) = plR B p q r pl (mt B p q w a) := by
  induction w with
  | nil => intro a; rfl
  | cons c w ih =>
    intro a
    have h2 : ∀ x ∈ w, ¬ x = 32 := fun x hx => h x (List.mem_cons_of_mem _ hx)
    show (if c = 32 then _ else _) = _
    rw [if_neg (h c List.mem_cons_self)]
    unfold mt
    show plR B p q (w ++ r) pl (if _ then _ else _) = _
    by_cases e : p + a < q ∧ B (p + a) = c
    · rw [if_pos e, if_pos e]; exact ih h2 (a + 1)
    · rw [if_neg e, if_neg e]; exact plR_no w r pl h2
theorem mt_i : ∀ (w : List Nat) a b, mt B p q w a = some b ↔ (b = a + w.length ∧ (w = [] ∨ p + a + w.length ≤ q) ∧ ∀ i, i < w.length → w.getD i 0 = B (p + a + i)) := by
  intro w
  induction w with
  | nil =>
    intro a b
    unfold mt
    constructor
    · intro h; cases h; exact ⟨rfl, Or.inl rfl, fun i hi => absurd hi (by simp)⟩
    · intro h; rw [h.1]; rfl
  | cons c w ih =>
    intro a b
    unfold mt
    by_cases e : p + a < q ∧ B (p + a) = c
    · rw [if_pos e, ih]
      constructor
      · rintro ⟨h1, h2, h3⟩
        refine ⟨by rw [h1, List.length_cons]; omega, Or.inr ?_, fun i hi => ?_⟩
        · rcases h2 with h2 | h2
          · rw [h2]; simp; omega
          · rw [List.length_cons]; omega
        · cases i with
          | zero => exact e.2.symm
          | succ i =>
            rw [List.length_cons] at hi
            have := h3 i (by omega)
            rw [show p + a + (i + 1) = p + (a + 1) + i by omega, ← this]
            rfl
      · rintro ⟨h1, h2, h3⟩
        rw [List.length_cons] at h1
        refine ⟨by omega, Or.inr ?_, fun i hi => ?_⟩
        · rcases h2 with h2 | h2
          · cases h2
          · rw [List.length_cons] at h2; omega
        · have := h3 (i + 1) (by rw [List.length_cons]; omega)
          rw [show p + (a + 1) + i = p + a + (i + 1) by omega, ← this]
          rfl
    · rw [if_neg e]
      constructor
      · intro h; cases h
      · rintro ⟨h1, h2, h3⟩
        refine absurd ⟨?_, ?_⟩ e
        · rcases h2 with h2 | h2
          · cases h2
          · rw [List.length_cons] at h2; omega
        · exact (h3 0 (by rw [List.length_cons]; omega)).symm
theorem slc_len : (slc B p q).length = q - p := by unfold slc; simp
theorem slc_at {i : Nat} (h : i < q - p) : (slc B p q).getD i 0 = B (p + i) := by
  unfold slc
  rw [List.getD_eq_getElem?_getD, List.getElem?_map, List.getElem?_range h]
  rfl
theorem lst_ext {a b : List Nat} (hl : a.length = b.length) (h : ∀ i, i < a.length → a.getD i 0 = b.getD i 0) : a = b := by
  refine List.ext_getElem hl (fun i h1 h2 => ?_)
  have := h i h1
  rw [List.getD_eq_getElem?_getD, List.getD_eq_getElem?_getD, List.getElem?_eq_getElem h1, List.getElem?_eq_getElem h2] at this
  exact this
theorem mt_s {w : List Nat} (hp : p ≤ q) (hw : ¬ w = []) : mt B p q w 0 = some (q - p) ↔ w = slc B p q := by
  rw [mt_i]
  constructor
  · rintro ⟨h1, -, h3⟩
    refine lst_ext (by rw [slc_len]; omega) (fun i hi => ?_)
    rw [slc_at (by omega), h3 i hi]
    rfl
  · intro h
    have hl : w.length = q - p := by rw [h, slc_len]
    refine ⟨by omega, Or.inr (by omega), fun i hi => ?_⟩
    rw [h, slc_at (by omega)]
    rfl
def jn : List (List Nat) → List Nat
  | [] => []
  | [w] => w
  | w :: x :: r => w ++ 32 :: jn (x :: r)
theorem plR_jn (hp : p ≤ q) : ∀ (ws : List (List Nat)) pl, ¬ ws = [] → (∀ w ∈ ws, ¬ w = [] ∧ ∀ c ∈ w, ¬ c = 32) → plR B p q (jn ws) pl (some 0) = fnd (slc B p q) ws pl
  | [], _, h, _ => absurd rfl h
  | [w], pl, _, h => by
    obtain ⟨h1, h2⟩ := h w List.mem_cons_self
    have := plR_w (B := B) (p := p) (q := q) w [] pl h2 0
    rw [List.append_nil] at this
    show plR B p q w pl (some 0) = _
    rw [this]
    unfold plR fnd fnd
    by_cases e : w = slc B p q
    · rw [if_pos ((mt_s hp h1).mpr e), if_pos e]
    · rw [if_neg (fun hh => e ((mt_s hp h1).mp hh)), if_neg e]
  | w :: x :: r, pl, _, h => by
    obtain ⟨h1, h2⟩ := h w List.mem_cons_self
    show plR B p q (w ++ 32 :: jn (x :: r)) pl (some 0) = _
    rw [plR_w w _ pl h2 0]
    show (if 32 = 32 then _ else _) = _
    rw [if_pos rfl]
    unfold fnd
    by_cases e : w = slc B p q
    · rw [if_pos ((mt_s hp h1).mpr e), if_pos e]
    · rw [if_neg (fun hh => e ((mt_s hp h1).mp hh)), if_neg e]
      exact plR_jn hp (x :: r) (pl + 1) (by simp) (fun w' hw' => h w' (List.mem_cons_of_mem _ hw'))
end WO
def wsOf (s : Nat) : List (List Nat) := match s with
  | 12 => [[97, 115, 107], [112, 111, 117, 114], [112, 97, 115, 115], [104, 105, 100, 101]]
  | 13 => [[97, 103, 101, 115], [116, 117, 114, 110, 115], [98, 97, 114, 115]]
  | 14 => [[97, 103, 101], [116, 101, 97], [100, 97, 121], [108, 101, 102, 116], [100, 111, 110, 101], [97, 110, 115, 119, 101, 114], [97, 115, 107, 101, 100]]
  | 15 => [[113, 117, 101, 115, 116, 105, 111, 110], [121, 101, 97, 114, 115], [115, 111, 114, 116], [97, 115, 107, 101, 100], [109, 111, 111, 100], [97, 103, 101], [116, 101, 97], [100, 97, 121], [108, 101, 102, 116]]
  | 16 => [[116, 105, 109, 101, 115]]
  | 17 => [[105, 102]]
  | 18 => [[110, 111, 116]]
  | 19 => [[97, 110, 100]]
  | 20 => [[111, 114]]
  | _ => [[1]]
/-- which of a string's words a token of code c is -/
def pln (s c : Nat) : Option Nat := match s with
  | 12 => if c = 19 then some 0 else if c = 20 then some 1 else if c = 21 then some 2 else if c = 22 then some 3 else none
  | 13 => if c = 1 then some 0 else if c = 2 then some 1 else if c = 3 then some 2 else none
  | 14 => if c = 13 then some 0 else if c = 15 then some 1 else if c = 16 then some 2 else if c = 14 then some 3 else if c = 17 then some 4 else if c = 18 then some 5 else if c = 12 then some 6 else none
  | 15 => if c = 8 then some 0 else if c = 9 then some 1 else if c = 10 then some 2 else if c = 12 then some 3 else if c = 11 then some 4 else if c = 13 then some 5 else if c = 15 then some 6 else if c = 16 then some 7 else if c = 14 then some 8 else none
  | 16 => if c = 23 then some 0 else none
  | 17 => if c = 4 then some 0 else none
  | 18 => if c = 7 then some 0 else none
  | 19 => if c = 6 then some 0 else none
  | 20 => if c = 5 then some 0 else none
  | _ => none
theorem ws_jn : ∀ j, j < 9 → sOf (12 + j) = jn (wsOf (12 + j)) ∧ ¬ wsOf (12 + j) = [] ∧ (∀ w ∈ wsOf (12 + j), ¬ w = [] ∧ ∀ c ∈ w, ¬ c = 32) ∧ (∀ w ∈ wsOf (12 + j), w ∈ wds) ∧ ∀ c ∈ sOf (12 + j), c < 128 := by decide +kernel
theorem wds_lk : ∀ w ∈ wds, ∀ j, j < 9 → fnd w (wsOf (12 + j)) 0 = pln (12 + j) (wdC w) := by decide +kernel
theorem wds_sm : ∀ w ∈ wds, ¬ w = [] ∧ ∀ c ∈ w, isSm c = true := by decide +kernel
theorem pln_no : ∀ j, j < 9 → pln (12 + j) 0 = none ∧ pln (12 + j) 50 = none := by decide +kernel
theorem pln_hi {j c : Nat} (hj : j < 9) (hc : 100 ≤ c) : pln (12 + j) c = none := by
  have : j = 0 ∨ j = 1 ∨ j = 2 ∨ j = 3 ∨ j = 4 ∨ j = 5 ∨ j = 6 ∨ j = 7 ∨ j = 8 := by omega
  rcases this with rfl | rfl | rfl | rfl | rfl | rfl | rfl | rfl | rfl <;> (unfold pln; simp only [show (12 + 0) = 12 from rfl]; repeat rw [if_neg (by omega)])
theorem fnd_no {s : List Nat} : ∀ (l : List (List Nat)) n, (∀ w ∈ l, ¬ w = s) → fnd s l n = none
  | [], _, _ => rfl
  | w :: r, n, h => by
    unfold fnd
    rw [if_neg (h w List.mem_cons_self)]
    exact fnd_no r (n + 1) (fun w' hw' => h w' (List.mem_cons_of_mem _ hw'))
theorem fnd_pl (s : List Nat) {j : Nat} (hj : j < 9) : fnd s (wsOf (12 + j)) 0 = pln (12 + j) (wdC s) := by
  by_cases h : s ∈ wds
  · exact wds_lk s h j hj
  · rw [fnd_no _ _ (fun w hw e => h (by rw [← e]; exact (ws_jn j hj).2.2.2.1 w hw))]
    unfold wdC
    rw [fnd_no wds 1 (fun w hw e => h (by rw [← e]; exact hw))]
    exact (pln_no j hj).1.symm
section WP
variable {B : Nat → Nat} {T : Nat}
theorem slc_hd {p q : Nat} (h : p < q) : B p ∈ slc B p q := by
  unfold slc
  exact List.mem_map.mpr ⟨0, List.mem_range.mpr (by omega), rfl⟩
/-- a place of a word, by the token -/
theorem pl_tok {j i : Nat} (hj : j < 9) : plR B (tS B T i) (te B T (tS B T i)) (sOf (12 + j)) 0 (some 0) = pln (12 + j) (tC B T i) := by
  have hb := tS_b (B := B) (T := T) i
  obtain ⟨t1, t2, t3⟩ := te_b (B := B) hb
  obtain ⟨a1, a2, a3, a4, -⟩ := ws_jn j hj
  rw [a1, plR_jn t1 _ 0 a2 a3]
  have no : (¬ ∃ w ∈ wds, w = slc B (tS B T i) (te B T (tS B T i))) → fnd (slc B (tS B T i) (te B T (tS B T i))) (wsOf (12 + j)) 0 = none := fun h => fnd_no _ _ (fun w hw e => h ⟨w, a4 w hw, e⟩)
  unfold tC cdT
  by_cases c1 : T ≤ tS B T i
  · rw [if_pos c1, (pln_no j hj).1]
    refine no (fun ⟨w, hw, e⟩ => (wds_sm w hw).1 ?_)
    have : (slc B (tS B T i) (te B T (tS B T i))).length = 0 := by rw [slc_len]; unfold te; rw [if_pos c1]; omega
    rw [e]
    exact List.eq_nil_of_length_eq_zero this
  · rw [if_neg c1]
    by_cases c2 : isSm (B (tS B T i)) = true
    · rw [if_pos c2]; exact fnd_pl _ hj
    · rw [if_neg c2]
      have nn := no (fun ⟨w, hw, e⟩ => c2 ((wds_sm w hw).2 _ (by rw [e]; exact slc_hd (t3 (by omega)))))
      rw [nn]
      by_cases c3 : isDg (B (tS B T i)) = true
      · rw [if_pos c3]; exact (pln_no j hj).2.symm
      · rw [if_neg c3]; exact (pln_hi hj (by omega)).symm
theorem wdC_le (s : List Nat) : wdC s ≤ 23 := by
  by_cases h : s ∈ wds
  · have : ∀ w ∈ wds, wdC w ≤ 23 := by decide +kernel
    exact this s h
  · unfold wdC
    rw [fnd_no wds 1 (fun w hw e => h (by rw [← e]; exact hw))]
    exact Nat.zero_le _
/-- a sign, by the token -/
theorem sg_tok {i c : Nat} (h1 : isSm c = false) (h2 : isDg c = false) : (tS B T i < T ∧ B (tS B T i) = c) ↔ tC B T i = 100 + c := by
  unfold tC cdT
  by_cases c1 : T ≤ tS B T i
  · rw [if_pos c1]; constructor <;> (intro h; omega)
  · rw [if_neg c1]
    by_cases c2 : isSm (B (tS B T i)) = true
    · rw [if_pos c2]
      have := wdC_le (slc B (tS B T i) (te B T (tS B T i)))
      constructor
      · intro h; rw [h.2, h1] at c2; cases c2
      · intro h; omega
    · rw [if_neg c2]
      by_cases c3 : isDg (B (tS B T i)) = true
      · rw [if_pos c3]
        constructor
        · intro h; rw [h.2, h2] at c3; cases c3
        · intro h; omega
      · rw [if_neg c3]
        constructor
        · intro h; omega
        · intro h; exact ⟨by omega, by omega⟩
theorem tC_le {i : Nat} (hB : ∀ k, k < T → B k < 256) : tC B T i ≤ 355 := by
  unfold tC cdT
  by_cases c1 : T ≤ tS B T i
  · rw [if_pos c1]; omega
  · rw [if_neg c1]
    have := hB _ (Nat.not_le.mp c1)
    have := wdC_le (slc B (tS B T i) (te B T (tS B T i)))
    split
    · omega
    · split <;> omega
theorem vlF_le : ∀ n k v, v ≤ 10000009 → (∀ i, k ≤ i → i < k + n → B i ≤ 57) → vlF B n k v ≤ 10000009
  | 0, _, v, h, _ => h
  | n + 1, k, v, h, hb => by
    unfold vlF
    have := hb k (Nat.le_refl k) (by omega)
    refine vlF_le n (k + 1) _ ?_ (fun i h1 h2 => hb i (by omega) (by omega))
    split <;> omega
theorem dg_in {i k : Nat} (h : isDg (B (tS B T i)) = true) (hi : tS B T i < T) (h1 : tS B T i ≤ k) (h2 : k < te B T (tS B T i)) : 48 ≤ B k ∧ B k ≤ 57 := by
  have hd : isDg (B k) = true := by
    by_cases e : k = tS B T i
    · rw [e]; exact h
    · have ns : isSm (B (tS B T i)) = false := by
        unfold isDg at h
        unfold isSm
        simp only [Bool.and_eq_true, decide_eq_true_eq] at h
        rw [decide_eq_false (by omega)]; rfl
      unfold te at h2
      rw [if_neg (by omega), ns, if_neg (by decide), if_pos h] at h2
      exact sp_in (p := isDg) (show tS B T i + 1 ≤ k by omega) h2
  unfold isDg at hd
  simpa using hd
theorem tV_le {i : Nat} : tV B T i ≤ 10000009 := by
  unfold tV vlT
  by_cases c1 : T ≤ tS B T i
  · rw [if_pos c1]; omega
  · rw [if_neg c1]
    split
    · rename_i h
      have tb := te_b (B := B) (tS_b (B := B) (T := T) i)
      exact vlF_le _ _ _ (by omega) (fun k h1 h2 => (dg_in h (by omega) h1 (by omega)).2)
    · omega
end WP
