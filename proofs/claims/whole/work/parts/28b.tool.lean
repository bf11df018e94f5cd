/-! BOTH HUTS WRITTEN ALIKE -/
theorem p_u_nx {α : Type} {f : Nat → Nat → α} {a k b : Nat} {v : α} (h : ¬ b = a) : p_u f a k v b = f b := if_neg h
def mxk (k : Nat) : Nat := if k = 1 then 99 else if k = 2 then 9999 else if k < 13 then 999 else if k < 29 then 99 else if k < 37 then 1 else if k < 45 then 65535 else if k < 51 then 255 else if k = 51 then 9 else if k < 54 then 8 else 6
def vldB (K : Nat → Int32) : Prop := ∀ k, 1 ≤ k → k < 56 → k ≠ 4 → bn (K k) (mxk k)
theorem vld_iff {K : Nat → Int32} : vld K ↔ vldB K ∧ vldH K := by
  constructor
  · rintro ⟨v1, v2, v3⟩
    refine ⟨fun k k1 k2 k3 => ?_, v3⟩
    have arr : ∀ i, i < 8 → _ := v2
    by_cases a1 : k < 5
    · have : k = 1 ∨ k = 2 ∨ k = 3 := by omega
      rcases this with rfl | rfl | rfl
      · exact v1.2.2.2.2.1
      · exact v1.2.2.2.2.2.1
      · exact v1.2.2.2.2.2.2.1
    by_cases a2 : k < 13
    · obtain ⟨i, rfl⟩ : ∃ i, k = 5 + i := ⟨k - 5, by omega⟩
      have e : mxk (5 + i) = 999 := by unfold mxk; simp only [if_neg (show ¬ 5 + i = 1 by omega), if_neg (show ¬ 5 + i = 2 by omega), if_pos a2]
      rw [e]; exact (v2 i (by omega)).2.2.2.2.1
    by_cases a3 : k < 21
    · obtain ⟨i, rfl⟩ : ∃ i, k = 13 + i := ⟨k - 13, by omega⟩
      have e : mxk (13 + i) = 99 := by unfold mxk; simp only [if_neg (show ¬ 13 + i = 1 by omega), if_neg (show ¬ 13 + i = 2 by omega), if_neg a2, if_pos (show 13 + i < 29 by omega)]
      rw [e]; exact (v2 i (by omega)).1
    by_cases a4 : k < 29
    · obtain ⟨i, rfl⟩ : ∃ i, k = 21 + i := ⟨k - 21, by omega⟩
      have e : mxk (21 + i) = 99 := by unfold mxk; simp only [if_neg (show ¬ 21 + i = 1 by omega), if_neg (show ¬ 21 + i = 2 by omega), if_neg a2, if_pos a4]
      rw [e]; exact (v2 i (by omega)).2.1
    by_cases a5 : k < 37
    · obtain ⟨i, rfl⟩ : ∃ i, k = 29 + i := ⟨k - 29, by omega⟩
      have e : mxk (29 + i) = 1 := by unfold mxk; simp only [if_neg (show ¬ 29 + i = 1 by omega), if_neg (show ¬ 29 + i = 2 by omega), if_neg a2, if_neg a4, if_pos a5]
      rw [e]; exact (v2 i (by omega)).2.2.1
    by_cases a6 : k < 45
    · obtain ⟨i, rfl⟩ : ∃ i, k = 37 + i := ⟨k - 37, by omega⟩
      have e : mxk (37 + i) = 65535 := by unfold mxk; simp only [if_neg (show ¬ 37 + i = 1 by omega), if_neg (show ¬ 37 + i = 2 by omega), if_neg a2, if_neg a4, if_neg a5, if_pos a6]
      rw [e]; exact (v2 i (by omega)).2.2.2.1
    by_cases a7 : k < 51
    · obtain ⟨i, rfl⟩ : ∃ i, k = 45 + i := ⟨k - 45, by omega⟩
      have e : mxk (45 + i) = 255 := by unfold mxk; simp only [if_neg (show ¬ 45 + i = 1 by omega), if_neg (show ¬ 45 + i = 2 by omega), if_neg a2, if_neg a4, if_neg a5, if_neg a6, if_pos a7]
      rw [e]; exact (v2 i (by omega)).2.2.2.2.2 (by omega)
    have : k = 51 ∨ k = 52 ∨ k = 53 ∨ k = 54 ∨ k = 55 := by omega
    rcases this with rfl | rfl | rfl | rfl | rfl
    · exact v1.2.2.2.2.2.2.2
    · exact v1.1
    · exact v1.2.1
    · exact v1.2.2.1
    · exact v1.2.2.2.1
  · rintro ⟨b, hh⟩
    refine ⟨⟨b 52 (by omega) (by omega) (by omega), b 53 (by omega) (by omega) (by omega), b 54 (by omega) (by omega) (by omega), b 55 (by omega) (by omega) (by omega), b 1 (by omega) (by omega) (by omega), b 2 (by omega) (by omega) (by omega), b 3 (by omega) (by omega) (by omega), b 51 (by omega) (by omega) (by omega)⟩, fun i hi => ⟨?_, ?_, ?_, ?_, ?_, fun h6 => ?_⟩, hh⟩
    · have := b (13 + i) (by omega) (by omega) (by omega)
      have e : mxk (13 + i) = 99 := by unfold mxk; simp only [if_neg (show ¬ 13 + i = 1 by omega), if_neg (show ¬ 13 + i = 2 by omega), if_neg (show ¬ 13 + i < 13 by omega), if_pos (show 13 + i < 29 by omega)]
      rwa [e] at this
    · have := b (21 + i) (by omega) (by omega) (by omega)
      have e : mxk (21 + i) = 99 := by unfold mxk; simp only [if_neg (show ¬ 21 + i = 1 by omega), if_neg (show ¬ 21 + i = 2 by omega), if_neg (show ¬ 21 + i < 13 by omega), if_pos (show 21 + i < 29 by omega)]
      rwa [e] at this
    · have := b (29 + i) (by omega) (by omega) (by omega)
      have e : mxk (29 + i) = 1 := by unfold mxk; simp only [if_neg (show ¬ 29 + i = 1 by omega), if_neg (show ¬ 29 + i = 2 by omega), if_neg (show ¬ 29 + i < 13 by omega), if_neg (show ¬ 29 + i < 29 by omega), if_pos (show 29 + i < 37 by omega)]
      rwa [e] at this
    · have := b (37 + i) (by omega) (by omega) (by omega)
      have e : mxk (37 + i) = 65535 := by unfold mxk; simp only [if_neg (show ¬ 37 + i = 1 by omega), if_neg (show ¬ 37 + i = 2 by omega), if_neg (show ¬ 37 + i < 13 by omega), if_neg (show ¬ 37 + i < 29 by omega), if_neg (show ¬ 37 + i < 37 by omega), if_pos (show 37 + i < 45 by omega)]
      rwa [e] at this
    · have := b (5 + i) (by omega) (by omega) (by omega)
      have e : mxk (5 + i) = 999 := by unfold mxk; simp only [if_neg (show ¬ 5 + i = 1 by omega), if_neg (show ¬ 5 + i = 2 by omega), if_pos (show 5 + i < 13 by omega)]
      rwa [e] at this
    · have := b (45 + i) (by omega) (by omega) (by omega)
      have e : mxk (45 + i) = 255 := by unfold mxk; simp only [if_neg (show ¬ 45 + i = 1 by omega), if_neg (show ¬ 45 + i = 2 by omega), if_neg (show ¬ 45 + i < 13 by omega), if_neg (show ¬ 45 + i < 29 by omega), if_neg (show ¬ 45 + i < 37 by omega), if_neg (show ¬ 45 + i < 45 by omega), if_pos (show 45 + i < 51 by omega)]
      rwa [e] at this
theorem mx_5 : ∀ i, i < 8 → mxk (5 + i) = 999 := by decide
theorem mx_13 : ∀ i, i < 8 → mxk (13 + i) = 99 := by decide
theorem mx_21 : ∀ i, i < 8 → mxk (21 + i) = 99 := by decide
theorem mx_29 : ∀ i, i < 8 → mxk (29 + i) = 1 := by decide
theorem mx_37 : ∀ i, i < 8 → mxk (37 + i) = 65535 := by decide
theorem mx_45 : ∀ i, i < 6 → mxk (45 + i) = 255 := by decide
def updL (K : Nat → Int32) : List (Nat × Int32) → Nat → Int32
  | [] => K
  | (k, v) :: r => updL (upd K k v) r
/-- the class's writes of a hut at a -/
def wC (a : Nat) (I : Nat → Nat → Int32) : List (Nat × Int32) → Nat → Nat → Int32
  | [] => I
  | (k, v) :: r => wC a (p_u I (a + da k) (ix k) v) r
def wsOk : List (Nat × Int32) → Prop
  | [] => True
  | (k, v) :: r => (k < 57 ∧ k ≠ 55 ∧ (k = 0 ∨ k = 4 ∨ k = 56 ∨ bn v (mxk k))) ∧ wsOk r
theorem updL_vB : ∀ (ws : List (Nat × Int32)) {K : Nat → Int32}, wsOk ws → vldB K → vldB (updL K ws)
  | [], _, _, h => h
  | (k, v) :: r, K, o, h => updL_vB r o.2 (fun j j1 j2 j3 => by
      by_cases e : j = k
      · subst e
        rw [upd_eq]
        rcases o.1.2.2 with e | e | e | e
        · omega
        · omega
        · omega
        · exact e
      · rw [upd_ne e]; exact h j j1 j2 j3)
theorem updL_hR {a : Nat} : ∀ (ws : List (Nat × Int32)) {I : Nat → Nat → Int32} {K : Nat → Int32}, wsOk ws → hutR I a K → hutR (wC a I ws) a (updL K ws)
  | [], _, _, _, h => h
  | (k, v) :: r, I, K, o, h => updL_hR r o.2 (hutR_w (k := k) o.1.1 rfl rfl h)
theorem updL_hi : ∀ (ws : List (Nat × Int32)) {K : Nat → Int32}, wsOk ws → ∀ j, j = 55 ∨ 57 ≤ j → updL K ws j = K j
  | [], _, _, _, _ => rfl
  | (k, v) :: r, K, o, j, hj => by
    rw [updL, updL_hi r o.2 j hj, upd_ne]
    have := o.1
    omega
theorem Inv_ws {I J : Nat → Nat → Int32} {R : Nat → Nat → Option Nat} {X : List pKd} (ws : List (Nat × Int32)) (H : Inv I R X) (ho : wsOk ws) (hH : vldH (updL (I 125) ws))
    (hc : ∀ b, 71 ≤ b → b ≤ 78 → J b = wC 71 I ws b) (hm : J 125 = updL (I 125) ws)
    (fr : ∀ a, a ≠ 32 → (a < 71 ∨ 78 < a) → a ≠ 80 → a ≠ 81 → a ≠ 123 → a ≠ 125 → a ≠ 136 → J a = I a) (e1 : J 32 10 = I 32 10) (e2 : J 123 46 = I 123 46) (e3 : J 123 13 = I 123 13) (hC : invC J) (hU : invU J) : Inv J R X :=
  Inv_mv H fr e1 e2 e3 hC hU (by rw [hm]; exact hutR_f (updL_hR ws ho H.2.2.2.2.2.2.1.1) hc) (by rw [hm]; exact vld_iff.mpr ⟨updL_vB ws ho (vld_iff.mp H.2.2.2.2.2.2.2).1, hH⟩) (fun k k1 _ => by rw [hm]; exact updL_hi ws ho k (Or.inr k1)) (by rw [hm]; exact updL_hi ws ho 55 (Or.inl rfl))
theorem b_78 {b : Nat} (b1 : 71 ≤ b) (b2 : b ≤ 78) : b = 71 ∨ b = 72 ∨ b = 73 ∨ b = 74 ∨ b = 75 ∨ b = 76 ∨ b = 77 ∨ b = 78 := by omega
/-- a number told by comparisons -/
theorem bn_le {x : Int32} {m : Nat} (hm : m < 65536) (h1 : 0 ≤ x) (h2 : x ≤ Int32.ofNat m) : bn x m := by
  obtain ⟨k, hk, e⟩ := nI_of (x := x) (Int32.not_lt.mpr h1)
  subst e
  exact ⟨k, (nI_leI (by omega) (by omega)).mp h2, rfl⟩
theorem b2i_T [i : Decidable True] : @b2i True i = 1 := if_pos trivial
theorem b2i_F [i : Decidable False] : @b2i False i = 0 := if_neg id
theorem ne_20 : ((2 : Int32) = 0) = False := eq_false (by decide)
theorem ne_21 : ((2 : Int32) = 1) = False := eq_false (by decide)
