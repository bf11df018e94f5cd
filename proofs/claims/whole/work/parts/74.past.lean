/-! THE PAST, one act more -/
theorem past_act {I : Nat → Nat → Int32} {K K' M : Nat → Int32} {n k : Nat} {kd : Int32} (hp : pastRel n k (I 81) M K) (hR : hutR I 71 K) (hV : vld K) (hkd : bn kd 3) (h52 : K' 52 = K 52) : pastRel ((n + 1) % 17) (min (k + 1) 16) (upd (drf I n) (n * 14) kd) (kpM K M k kd) K' := by
  have hn := hp.1
  generalize hI : p_fn I 125 K = I0
  have i125 : I0 125 = K := by rw [← hI, pf_at]
  have iN : ∀ a, a ≠ 125 → I0 a = I a := fun a ha => by rw [← hI, pf_ne ha]
  have hR0 : hutR I0 71 (I0 125) := by rw [i125]; exact hutR_f hR (fun b b1 b2 => iN b (by omega))
  have ed : drf I0 n = drf I n := by
    unfold drf
    rw [iN 76 (by omega), iN 81 (by omega), iN 71 (by omega), iN 78 (by omega)]
  have r81 : ∀ s i, s < 17 → s ≠ n → i < 14 → upd (drf I n) (n * 14) kd (14 * s + i) = I 81 (14 * s + i) := fun s i hs hsn hi => by
    rw [upd_ne (by omega)]; exact drf_row hn s i hs hsn hi
  have c0 : upd (drf I n) (n * 14) kd (14 * n) = kd := by rw [show 14 * n = n * 14 by omega, upd_eq]
  have c1 : ∀ i, 0 < i → i < 14 → upd (drf I n) (n * 14) kd (14 * n + i) = drf I0 n (14 * n + i) := fun i h0 hi => by rw [upd_ne (by omega), ed]
  have hk16 := hp.2.1
  have hV0 : vld (I0 125) := by rw [i125]; exact hV
  have h520 : K' 52 = I0 125 52 := by rw [i125]; exact h52
  have : k < 16 ∨ k = 16 := by omega
  rcases this with hk | rfl
  · have e : kpM K M k kd = upd (va_cpy K M 0 (14 * k) 13) (14 * k + 13) kd := if_pos hk
    rw [show min (k + 1) 16 = k + 1 by omega, e]
    have m1 : ∀ i, i < 13 → upd (va_cpy K M 0 (14 * k) 13) (14 * k + 13) kd (14 * k + i) = I0 125 i := fun i hi => by
      rw [upd_ne (by omega), i125]; unfold va_cpy; rw [if_pos (by omega)]; congr 1; omega
    have m0 : upd (va_cpy K M 0 (14 * k) 13) (14 * k + 13) kd (14 * k + 13) = kd := upd_eq
    refine past_keep hp hk r81 (fun i hi => ?_) h52 (drf_rel hR0 c0 c1 m1 m0) (drf_vld h520 hV0 hkd m1 m0)
    rw [upd_ne (by omega)]; unfold va_cpy; rw [if_neg (by omega)]
  · have e : kpM K M 16 kd = upd (va_cpy K (va_cpy M M 14 0 210) 0 210 13) 223 kd := rfl
    rw [e]
    have m1 : ∀ i, i < 13 → upd (va_cpy K (va_cpy M M 14 0 210) 0 210 13) 223 kd (210 + i) = I0 125 i := fun i hi => by
      rw [upd_ne (by omega), i125]; unfold va_cpy; rw [if_pos (by omega), show 0 + (210 + i - 210) = i by omega]
    have m0 : upd (va_cpy K (va_cpy M M 14 0 210) 0 210 13) 223 kd (210 + 13) = kd := upd_eq
    refine past_full hp r81 (fun i hi => ?_) h52 (drf_rel hR0 c0 c1 m1 m0) (drf_vld h520 hV0 hkd m1 m0)
    rw [upd_ne (by omega)]; unfold va_cpy; rw [if_neg (by omega), if_pos (by omega)]; rfl
/-- the class's side: a hut that stands for K, a past that stands for k rows of M -/
def clS (I : Nat → Nat → Int32) (K : Nat → Int32) (k : Nat) (M : Nat → Int32) : Prop := hutR I 71 K ∧ ∃ n, I 80 1 = nI n ∧ I 80 2 = nI k ∧ pastRel n k (I 81) M K
/-- the reference's -/
def rfS (I : Nat → Nat → Int32) (K : Nat → Int32) (k : Nat) (M : Nat → Int32) : Prop := I 125 = K ∧ I 123 31 = nI k ∧ k ≤ 16 ∧ ∀ i, i < 14 * k → I 136 i = M i
/-- an act: what can be undone then -/
def nxK (c : Option (List tCl)) (K : Nat → Int32) (kd : Nat) (v : Int32) : Nat → Int32 := updL K (actW c K kd v).2
def nxN (c : Option (List tCl)) (K : Nat → Int32) (kd : Nat) (v : Int32) (k : Nat) : Nat := if (actW c K kd v).2 = [] then k else min (k + 1) 16
def nxM (c : Option (List tCl)) (K : Nat → Int32) (kd : Nat) (v : Int32) (k : Nat) (M : Nat → Int32) : Nat → Int32 := if (actW c K kd v).2 = [] then M else kpM K M k (nI kd)
