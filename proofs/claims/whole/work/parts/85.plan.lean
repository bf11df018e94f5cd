/-! PLANS: sets of things, what is least behind each -/
def dn (s g : Nat) : Nat := s &&& (255 ^^^ g)
theorem dn_n {s g : Nat} (hs : s < 256) (hg : g < 256) : nI s &&& (nI g ^^^ mI 1) = nI (dn s g) := by
  have key : ∀ g, g < 256 → nI g ^^^ mI 1 = nI (4294967295 - g) := by decide +kernel
  rw [key g hg, nn_and]
  congr 1
  apply Nat.eq_of_testBit_eq
  intro i
  unfold dn
  rw [Nat.testBit_and, Nat.testBit_and]
  by_cases hi : i < 8
  · congr 1
    rw [Nat.testBit_xor, show (255 : Nat) = 2 ^ 8 - 1 from rfl, Nat.testBit_two_pow_sub_one, show 4294967295 - g = 2 ^ 32 - (g + 1) by omega, Nat.testBit_two_pow_sub_succ (by omega)]
    rw [decide_eq_true (show i < 32 by omega), decide_eq_true hi]
    cases g.testBit i <;> rfl
  · rw [Nat.testBit_lt_two_pow (x := s) (i := i) (Nat.lt_of_lt_of_le hs (by
      have : 2 ^ 8 ≤ 2 ^ i := Nat.pow_le_pow_right (by omega) (by omega)
      omega))]
    rfl
theorem dn_lt {s g : Nat} (hs : s < 256) : dn s g < 256 := and_256 hs
theorem pc_bt (s : Nat) : pc s = bt s 0 + bt s 1 + bt s 2 + bt s 3 + bt s 4 + bt s 5 + bt s 6 + bt s 7 := by
  unfold pc bt
  simp only [Nat.reducePow, Nat.div_one]
theorem pc_sub {a s : Nat} (ha : a < 256) (hs : s < 256) (h : ∀ t, t < 8 → bt a t ≤ bt s t) : pc a ≤ pc s ∧ (pc a = pc s → a = s) := by
  have h0 := h 0 (by omega)
  have h1 := h 1 (by omega)
  have h2 := h 2 (by omega)
  have h3 := h 3 (by omega)
  have h4 := h 4 (by omega)
  have h5 := h 5 (by omega)
  have h6 := h 6 (by omega)
  have h7 := h 7 (by omega)
  rw [pc_bt, pc_bt]
  refine ⟨by omega, fun e => bt_ext ha hs (fun t ht => ?_)⟩
  have : t = 0 ∨ t = 1 ∨ t = 2 ∨ t = 3 ∨ t = 4 ∨ t = 5 ∨ t = 6 ∨ t = 7 := by omega
  rcases this with rfl | rfl | rfl | rfl | rfl | rfl | rfl | rfl <;> omega
theorem bt_alk {a n s x t : Nat} (hn : n ≤ 8) (ht : t < 8) : bt (alk a n s x) t = if t < n ∧ bt s t = 1 ∧ an a t = x then 1 else 0 := by
  unfold alk
  rw [bt_bs _ n hn t ht]
  simp only [Bool.and_eq_true, decide_eq_true_eq]
theorem alk_le {a n s x t : Nat} (hn : n ≤ 8) (ht : t < 8) : bt (alk a n s x) t ≤ bt s t := by
  rw [bt_alk hn ht]
  split
  · rename_i h; rw [h.2.1]; omega
  · omega
theorem pc_alk {a n s x : Nat} (hn : n ≤ 8) (hs : s < 256) (h : ¬ alk a n s x = s) : pc (alk a n s x) < pc s := by
  have hb : alk a n s x < 256 := bs_256 hn
  obtain ⟨h1, h2⟩ := pc_sub (a := alk a n s x) hb hs (fun t ht => alk_le hn ht)
  rcases Nat.lt_or_ge (pc (alk a n s x)) (pc s) with h3 | h3
  · exact h3
  · exact absurd (h2 (by omega)) h
theorem alk_lt {a n s x : Nat} (hn : n ≤ 8) (hs : s < 256) (h : ¬ alk a n s x = s) : alk a n s x < s := by
  have := alk_and (a := a) (x := x) hn hs
  have h2 : s &&& thA a n x ≤ s := Nat.and_le_left
  omega
theorem alk_in {a n s x A : Nat} (hn : n ≤ 8) (hs : s < 256) (h : dn s A = 0) : dn (alk a n s x) A = 0 := by
  rw [← alk_and hn hs]
  unfold dn at *
  rw [Nat.and_assoc, Nat.and_comm (thA a n x), ← Nat.and_assoc, h, Nat.zero_and]
theorem dn_pc {s A : Nat} (hs : s < 256) (hA : A < 256) (h : dn s A = 0) : pc s ≤ pc A := by
  refine (pc_sub hs hA (fun t ht => ?_)).1
  have e : bt (dn s A) t = 0 := by rw [h]; unfold bt; rw [Nat.zero_div]
  unfold dn at e
  rw [bt_and, bt_tb (255 ^^^ A), Nat.testBit_xor, show (255 : Nat) = 2 ^ 8 - 1 from rfl, Nat.testBit_two_pow_sub_one, decide_eq_true ht] at e
  rw [bt_tb A]
  rcases bt_01 s t with b | b
  · omega
  · rw [b] at e ⊢
    cases hb : A.testBit t
    · rw [hb] at e; exact absurd e (by decide)
    · decide
theorem dn_self : ∀ s, s < 256 → dn s s = 0 := by decide +kernel
theorem dn_0 (g : Nat) : dn 0 g = 0 := Nat.zero_and _
def tld (g : Option Nat) (s : Nat) : Bool := match g with
  | none => decide (pc s ≤ 1)
  | some g => decide (s &&& g = 0) || decide (dn s g = 0)
theorem tld_pc {g : Option Nat} {s : Nat} (hs : s < 256) (hg : ∀ k, g = some k → k < 256) (h : tld g s = false) : 2 ≤ pc s := by
  cases g with
  | none => have := of_decide_eq_false h; omega
  | some g =>
    have key : ∀ t, t < 8 → ∀ g, g < 256 → 2 ^ t &&& g = 0 ∨ dn (2 ^ t) g = 0 := by decide +kernel
    rcases Nat.lt_or_ge (pc s) 2 with h2 | h2
    · exfalso
      unfold tld at h
      rw [Bool.or_eq_false_iff, decide_eq_false_iff_not, decide_eq_false_iff_not] at h
      rcases Nat.eq_zero_or_pos (pc s) with h3 | h3
      · have := (pc_sub (a := 0) (by omega) hs (fun t _ => by unfold bt; rw [Nat.zero_div]; omega)).2 (by rw [h3]; rfl)
        subst this
        exact h.1 (Nat.zero_and _)
      · obtain ⟨t, ht, rfl⟩ := pc_one s hs (by omega)
        rcases key t ht g (hg g rfl) with e | e
        · exact h.1 e
        · exact h.2 e
    · exact h2
theorem wS_alk {a n s : Nat} {w : Nat → Nat} (hn : n ≤ 8) : ∀ i, i ≤ n → wSum w (alk a n s 0) i + wSum w (alk a n s 1) i + wSum w (alk a n s 2) i + wSum w (alk a n s 3) i = wSum w s i
  | 0, _ => rfl
  | i + 1, h => by
    have ih := wS_alk (a := a) (s := s) (w := w) hn i (by omega)
    show wSum w (alk a n s 0) i + bt (alk a n s 0) i * w i + (wSum w (alk a n s 1) i + bt (alk a n s 1) i * w i) + (wSum w (alk a n s 2) i + bt (alk a n s 2) i * w i) + (wSum w (alk a n s 3) i + bt (alk a n s 3) i * w i) = wSum w s i + bt s i * w i
    rw [bt_alk hn (by omega), bt_alk hn (by omega), bt_alk hn (by omega), bt_alk hn (by omega)]
    have l := an_lt a i
    rcases bt_01 s i with b | b
    · rw [b, if_neg (by omega), if_neg (by omega), if_neg (by omega), if_neg (by omega)]; omega
    · rw [b]
      have : an a i = 0 ∨ an a i = 1 ∨ an a i = 2 ∨ an a i = 3 := by omega
      rcases this with e | e | e | e
      · rw [if_pos (by omega), if_neg (by omega), if_neg (by omega), if_neg (by omega)]; omega
      · rw [if_neg (by omega), if_pos (by omega), if_neg (by omega), if_neg (by omega)]; omega
      · rw [if_neg (by omega), if_neg (by omega), if_pos (by omega), if_neg (by omega)]; omega
      · rw [if_neg (by omega), if_neg (by omega), if_neg (by omega), if_pos (by omega)]; omega
/-- behind a question: sum and most of what is left -/
def bhx (T : Nat → Option Nat) (a n s : Nat) : Nat → Option (Nat × Nat)
  | 0 => some (0, 0)
  | x + 1 => match bhx T a n s x with
    | none => none
    | some b => if alk a n s x = s then none else match T (alk a n s x) with
      | none => none
      | some v => some (b.1 + v, if b.2 < v then v else b.2)
section PL
variable (n m : Nat) (a w : Nat → Nat) (y : Nat → Nat → Nat) (ok : Nat → Nat → Bool) (md : Bool) (g : Option Nat)
def wtS (s : Nat) : Nat := if md = true then wSum w s n else 1
def cnd (T : Nat → Option Nat) (s q : Nat) : Option Nat := if ok q (pc s) = true then (match bhx T (a q) n s 4 with
  | none => none
  | some b => some (y q (pc s) * wtS n w md s + (if md = true then b.1 else b.2))) else none
def cel (T : Nat → Option Nat) (s : Nat) : Nat → Option (Nat × Nat)
  | 0 => none
  | q + 1 => match cnd n a w y ok md T s q with
    | none => cel T s q
    | some v => match cel T s q with
      | none => some (v, q)
      | some b => if v < b.1 then some (v, q) else some b
def tbl : Nat → Nat → Option Nat
  | 0 => fun _ => none
  | s + 1 => fun s' => if s' = s then (if tld g s = true then some 0 else (cel n a w y ok md (tbl s) s m).map Prod.fst) else tbl s s'
end PL
section PB
variable {n m : Nat} {a w : Nat → Nat} {y : Nat → Nat → Nat} {ok : Nat → Nat → Bool} {md : Bool} {g : Option Nat}
def tbB (n : Nat) (w : Nat → Nat) (md : Bool) (T : Nat → Option Nat) : Prop := ∀ s v, T s = some v → v ≤ 99 * pc s * wtS n w md s
theorem wtS_le (hn : n ≤ 8) (hw : ∀ t, t < n → w t ≤ 99) (s : Nat) : wtS n w md s ≤ 792 := by
  unfold wtS
  split
  · have := wSum_le (s := s) n hw; omega
  · omega
theorem tbB_le {T : Nat → Option Nat} (hn : n ≤ 8) (hw : ∀ t, t < n → w t ≤ 99) (h : tbB n w md T) {s v : Nat} (e : T s = some v) : v ≤ 627264 := by
  have h1 := h s v e
  have h2 := wtS_le (md := md) hn hw s
  have h3 := pc_le s
  have h4 : 99 * pc s * wtS n w md s ≤ 792 * 792 := Nat.mul_le_mul (by omega) h2
  omega
theorem bhx_b {T : Nat → Option Nat} {A s : Nat} (hn : n ≤ 8) (hw : ∀ t, t < n → w t ≤ 99) (hs : s < 256) (h : tbB n w md T) : ∀ x b, bhx T A n s x = some b → b.1 ≤ 627264 * x ∧ b.2 ≤ 627264 ∧ (md = false → b.2 ≤ 99 * (pc s - 1))
  | 0, b, e => by cases e; simp
  | x + 1, b, e => by
    unfold bhx at e
    cases e1 : bhx T A n s x with
    | none => rw [e1] at e; cases e
    | some b1 =>
      rw [e1] at e
      dsimp only at e
      by_cases c : alk A n s x = s
      · rw [if_pos c] at e; cases e
      · rw [if_neg c] at e
        cases e2 : T (alk A n s x) with
        | none => rw [e2] at e; cases e
        | some v =>
          rw [e2] at e
          cases e
          obtain ⟨i1, i2, i3⟩ := bhx_b hn hw hs h x b1 e1
          have l1 := tbB_le hn hw h e2
          have l2 := h _ _ e2
          have l3 := pc_alk hn hs c
          dsimp only
          refine ⟨by omega, by split <;> omega, fun hm => ?_⟩
          have i3 := i3 hm
          rw [hm] at l2
          have l2 : v ≤ 99 * pc (alk A n s x) * 1 := l2
          split <;> omega
theorem bhx_s {T : Nat → Option Nat} {A s : Nat} (hn : n ≤ 8) (hs : s < 256) (h : tbB n w true T) : ∀ x b, bhx T A n s x = some b → x ≤ 4 → b.1 ≤ 99 * (pc s - 1) * ((if 0 < x then wSum w (alk A n s 0) n else 0) + (if 1 < x then wSum w (alk A n s 1) n else 0) + (if 2 < x then wSum w (alk A n s 2) n else 0) + (if 3 < x then wSum w (alk A n s 3) n else 0))
  | 0, b, e, _ => by cases e; simp
  | x + 1, b, e, hx => by
    unfold bhx at e
    cases e1 : bhx T A n s x with
    | none => rw [e1] at e; cases e
    | some b1 =>
      rw [e1] at e
      dsimp only at e
      by_cases c : alk A n s x = s
      · rw [if_pos c] at e; cases e
      · rw [if_neg c] at e
        cases e2 : T (alk A n s x) with
        | none => rw [e2] at e; cases e
        | some v =>
          rw [e2] at e
          cases e
          have i1 := bhx_s hn hs h x b1 e1 (by omega)
          have l2 : v ≤ 99 * pc (alk A n s x) * wSum w (alk A n s x) n := h _ _ e2
          have l3 := pc_alk hn hs c
          have l4 : 99 * pc (alk A n s x) * wSum w (alk A n s x) n ≤ 99 * (pc s - 1) * wSum w (alk A n s x) n := Nat.mul_le_mul_right _ (by omega)
          dsimp only
          generalize 99 * (pc s - 1) = P at *
          have : x = 0 ∨ x = 1 ∨ x = 2 ∨ x = 3 := by omega
          rcases this with rfl | rfl | rfl | rfl <;> simp only [Nat.reduceAdd, Nat.reduceLT, if_true, if_false, Nat.add_zero, Nat.mul_add, Nat.zero_add, Nat.mul_zero, Nat.lt_irrefl] at * <;> omega
theorem cnd_b {T : Nat → Option Nat} {s q v : Nat} (hn : n ≤ 8) (hw : ∀ t, t < n → w t ≤ 99) (hs : s < 256) (hp : 1 ≤ pc s) (hy : y q (pc s) ≤ 99) (h : tbB n w md T) (e : cnd n a w y ok md T s q = some v) : v ≤ 99 * pc s * wtS n w md s := by
  unfold cnd at e
  by_cases o : ok q (pc s) = true
  · rw [if_pos o] at e
    cases e1 : bhx T (a q) n s 4 with
    | none => rw [e1] at e; cases e
    | some b =>
      rw [e1] at e
      cases e
      obtain ⟨b1, b2, b3⟩ := bhx_b hn hw hs h 4 b e1
      cases md with
      | false =>
        have := b3 rfl
        simp only [wtS, Bool.false_eq_true, if_false, Nat.mul_one]
        omega
      | true =>
        have b4 := bhx_s hn hs h 4 b e1 (by omega)
        simp only [Nat.reduceLT, if_true] at b4
        rw [wS_alk hn n (Nat.le_refl _)] at b4
        simp only [wtS, if_true]
        have b5 : y q (pc s) * wSum w s n ≤ 99 * wSum w s n := Nat.mul_le_mul_right _ hy
        have b6 : 99 * (pc s - 1) * wSum w s n + 99 * wSum w s n = 99 * pc s * wSum w s n := by
          rw [← Nat.add_mul]; congr 1; omega
        omega
  · rw [if_neg o] at e; cases e
theorem cel_b {T : Nat → Option Nat} {s : Nat} (hn : n ≤ 8) (hw : ∀ t, t < n → w t ≤ 99) (hs : s < 256) (hp : 1 ≤ pc s) (h : tbB n w md T) : ∀ q b, (∀ j, j < q → y j (pc s) ≤ 99) → cel n a w y ok md T s q = some b → b.1 ≤ 99 * pc s * wtS n w md s ∧ b.2 < q
  | 0, b, _, e => by cases e
  | q + 1, b, hy, e => by
    have ih := fun b e => cel_b hn hw hs hp h q b (fun j hj => hy j (by omega)) e
    unfold cel at e
    cases e1 : cnd n a w y ok md T s q with
    | none =>
      rw [e1] at e
      have := ih b e
      omega
    | some v =>
      have l := cnd_b hn hw hs hp (hy q (by omega)) h e1
      rw [e1] at e
      dsimp only at e
      cases e2 : cel n a w y ok md T s q with
      | none => rw [e2] at e; cases e; exact ⟨l, by omega⟩
      | some b1 =>
        rw [e2] at e
        dsimp only at e
        by_cases c : v < b1.1
        · rw [if_pos c] at e; cases e; exact ⟨l, by omega⟩
        · rw [if_neg c] at e; cases e
          have := ih _ e2
          omega
theorem tbl_b (hn : n ≤ 8) (hw : ∀ t, t < n → w t ≤ 99) (hg : ∀ k, g = some k → k < 256) (hy : ∀ q l, q < m → l ≤ 8 → y q l ≤ 99) : ∀ s, s ≤ 256 → tbB n w md (tbl n m a w y ok md g s)
  | 0, _ => fun s v e => by cases e
  | s + 1, h => fun s' v e => by
    have ih := tbl_b hn hw hg hy s (by omega)
    unfold tbl at e
    by_cases c : s' = s
    · subst c
      rw [if_pos rfl] at e
      by_cases t : tld g s' = true
      · rw [if_pos t] at e; cases e; exact Nat.zero_le _
      · rw [if_neg t] at e
        cases e1 : cel n a w y ok md (tbl n m a w y ok md g s') s' m with
        | none => rw [e1] at e; cases e
        | some b =>
          rw [e1] at e
          cases e
          have := tld_pc (s := s') (by omega) hg (by simpa using t)
          exact (cel_b hn hw (by omega) (by omega) ih m b (fun j hj => hy j _ hj (pc_le _)) e1).1
    · rw [if_neg c] at e
      exact ih _ _ e
theorem tbl_at (s : Nat) : tbl n m a w y ok md g (s + 1) s = if tld g s = true then some 0 else (cel n a w y ok md (tbl n m a w y ok md g s) s m).map Prod.fst := by
  show (if s = s then _ else _) = _
  rw [if_pos rfl]
theorem tbl_ne {s s' : Nat} (h : ¬ s' = s) : tbl n m a w y ok md g (s + 1) s' = tbl n m a w y ok md g s s' := by
  show (if s' = s then _ else _) = _
  rw [if_neg h]
end PB
