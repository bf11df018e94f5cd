/-! THE INVARIANT between the class and the reference, over the planes of the pure heap -/
theorem vin_c (k n : Nat) : vp_in (OfNat.ofNat k) n = (0 ≤ (OfNat.ofNat k : Int32).toInt ∧ (OfNat.ofNat k : Int32).toInt < (n : Int)) := propext vp_in_iff
/-- an int that is a number of at most m -/
def bn (x : Int32) (m : Nat) : Prop := ∃ k : Nat, k ≤ m ∧ x = nI k
/-- a law's Text stands for its row of tokens -/
def lawRel (I : Nat → Nat → Int32) (R : Nat → Nat → Option Nat) (X : List pKd) (t : Nat) (K : Nat → Int32) (i : Nat) : Prop :=
  i < 6 ∧ 142 ≤ t ∧ p_nth X (t - 142) = (0, 7) ∧ kOk K i ∧ ∃ (n : Nat) (CL : List tCl) (a1 a2 a3 a4 a5 a7 a8 m1 m2 : Nat), pX false (kC K i) (kV K i) (K (57 + i)).toNatClampNeg n 0 0 0 0 [] = some (.ok CL) ∧
    I t 0 = nI CL.length ∧ CL.length ≤ 12 ∧ CL.length ≤ m1 ∧ (clCode CL).length ≤ m2 ∧ m1 ≤ 12 ∧ m2 ≤ 400 ∧
    (R t 1 = some a1 ∧ R t 2 = some a2 ∧ R t 3 = some a3 ∧ R t 4 = some a4 ∧ R t 5 = some a5 ∧ R t 7 = some a7 ∧ R t 8 = some a8) ∧
    (142 ≤ a1 ∧ 142 ≤ a2 ∧ 142 ≤ a3 ∧ 142 ≤ a4 ∧ 142 ≤ a5 ∧ 142 ≤ a7 ∧ 142 ≤ a8) ∧
    (p_nth X (a1 - 142) = (1, m1) ∧ p_nth X (a2 - 142) = (1, m1) ∧ p_nth X (a3 - 142) = (1, m1) ∧ p_nth X (a4 - 142) = (1, m1) ∧ p_nth X (a5 - 142) = (1, m1) ∧ p_nth X (a7 - 142) = (1, m2) ∧ p_nth X (a8 - 142) = (1, m2)) ∧
    txA I a1 a2 a3 a4 a5 a7 a8 CL
theorem kC_same {K K' : Nat → Int32} {i : Nat} (hi : i < 6) (hK : ∀ k, 57 ≤ k → k < 5664 → K' k = K k) (o : kOk K i) : kC K' i = kC K i ∧ kV K' i = kV K i ∧ K' (57 + i) = K (57 + i) := by
  obtain ⟨T, hT, e, -⟩ := o
  have e1 := hK (57 + i) (by omega) (by omega)
  have e2 : (K (57 + i)).toNatClampNeg = T := by rw [e, nI_clamp (by omega)]
  refine ⟨?_, ?_, e1⟩
  · funext k
    unfold kC
    rw [e1, e2]
    by_cases c : k < T
    · rw [if_pos c, if_pos c, hK _ (by omega) (by omega)]
    · rw [if_neg c, if_neg c]
  · funext k
    unfold kV
    rw [e1, e2]
    by_cases c : k < T
    · rw [if_pos c, if_pos c, hK _ (by omega) (by omega)]
    · rw [if_neg c, if_neg c]
theorem lawRel_same {I I' : Nat → Nat → Int32} {R R' : Nat → Nat → Option Nat} {X : List pKd} {t : Nat} {K K' : Nat → Int32} {i : Nat} (h : lawRel I R X t K i) (hI : ∀ a, 142 ≤ a → I' a = I a) (hR : ∀ a, 142 ≤ a → R' a = R a) (hK : ∀ k, 57 ≤ k → k < 5664 → K' k = K k) : lawRel I' R' X t K' i := by
  obtain ⟨hi, ht, h0, ho, n, CL, a1, a2, a3, a4, a5, a7, a8, m1, m2, h1, h2, h3, h4, h5, h6, h7, hr, ha, hx, htx⟩ := h
  obtain ⟨e1, e2, e3⟩ := kC_same hi hK ho
  refine ⟨hi, ht, h0, ?_, n, CL, a1, a2, a3, a4, a5, a7, a8, m1, m2, by rw [e1, e2, e3]; exact h1, by rw [hI t ht]; exact h2, h3, h4, h5, h6, h7, by rw [hR t ht]; exact hr, ha, hx, ?_⟩
  · obtain ⟨T, hT, e, hk⟩ := ho
    refine ⟨T, hT, e3.trans e, fun k hk' => ?_⟩
    rw [e1, e2, hK _ (by omega) (by omega), hK _ (by omega) (by omega)]
    exact hk k hk'
  · unfold txA at *
    rw [hI a1 ha.1, hI a2 ha.2.1, hI a3 ha.2.2.1, hI a4 ha.2.2.2.1, hI a5 ha.2.2.2.2.1, hI a7 ha.2.2.2.2.2.1, hI a8 ha.2.2.2.2.2.2]
    exact htx
/-- where the class's Hut keeps what the reference keeps at k -/
def da (k : Nat) : Nat := if k ≤ 1 ∨ k = 4 ∨ 52 ≤ k then 0 else if k ≤ 3 ∨ k = 51 then 7 else if k < 13 then 5 else if k < 21 then 1 else if k < 29 then 2 else if k < 37 then 3 else if k < 45 then 4 else 6
def ix (k : Nat) : Nat := if k < 5 then [8, 9, 2, 0, 7].getD k 0 else if k < 13 then k - 5 else if k < 21 then k - 13 else if k < 29 then k - 21 else if k < 37 then k - 29 else if k < 45 then k - 37 else if k < 51 then k - 45 else [1, 0, 2, 10, 13, 15].getD (k - 51) 0
def hutR (I : Nat → Nat → Int32) (a : Nat) (K : Nat → Int32) : Prop := ∀ k, k < 57 → I (a + da k) (ix k) = K k
theorem da_le : ∀ k, k < 57 → da k ≤ 7 := by decide +kernel
theorem da_inj : ∀ k, k < 57 → ∀ j, j < 57 → da k = da j → ix k = ix j → k = j := by decide +kernel
theorem da_5 : ∀ n, n < 8 → da (5 + n) = 5 ∧ ix (5 + n) = n := by decide +kernel
theorem da_13 : ∀ n, n < 8 → da (13 + n) = 1 ∧ ix (13 + n) = n := by decide +kernel
theorem da_21 : ∀ n, n < 8 → da (21 + n) = 2 ∧ ix (21 + n) = n := by decide +kernel
theorem da_29 : ∀ n, n < 8 → da (29 + n) = 3 ∧ ix (29 + n) = n := by decide +kernel
theorem da_37 : ∀ n, n < 8 → da (37 + n) = 4 ∧ ix (37 + n) = n := by decide +kernel
theorem da_45 : ∀ n, n < 6 → da (45 + n) = 6 ∧ ix (45 + n) = n := by decide +kernel
/-- a place for a law holds none or a Text -/
def txR (R : Nat → Nat → Option Nat) (X : List pKd) (a : Nat) : Prop := ∀ i, i < 6 → R a i = none ∨ ∃ t, R a i = some t ∧ 142 ≤ t ∧ p_nth X (t - 142) = (0, 7)
def hutL (I : Nat → Nat → Int32) (R : Nat → Nat → Option Nat) (X : List pKd) (a : Nat) (K : Nat → Int32) : Prop :=
  txR R X (a + 8) ∧ ∀ i, i < (K 55).toNatClampNeg → ∃ t, R (a + 8) i = some t ∧ 142 ≤ t ∧ lawRel I R X t K i
def hutRel (I : Nat → Nat → Int32) (R : Nat → Nat → Option Nat) (X : List pKd) (a : Nat) (K : Nat → Int32) : Prop := hutR I a K ∧ hutL I R X a K
def vldN (K : Nat → Int32) : Prop := bn (K 52) 8 ∧ bn (K 53) 8 ∧ bn (K 54) 6 ∧ bn (K 55) 6 ∧ bn (K 1) 99 ∧ bn (K 2) 9999 ∧ bn (K 3) 999 ∧ bn (K 51) 9
def vldA (K : Nat → Int32) : Prop := ∀ i, i < 8 → bn (K (13 + i)) 99 ∧ bn (K (21 + i)) 99 ∧ bn (K (29 + i)) 1 ∧ bn (K (37 + i)) 65535 ∧ bn (K (5 + i)) 999 ∧ (i < 6 → bn (K (45 + i)) 255)
def vldH (K : Nat → Int32) : Prop := (K 4 = -1 ∨ ∃ t, t < (K 52).toNatClampNeg ∧ K 4 = nI t) ∧ (∃ s, s < 2 ^ (K 52).toNatClampNeg ∧ K 0 = nI s) ∧ (K 56 = -1 ∨ ∃ f, f < (K 55).toNatClampNeg ∧ K 56 = nI f)
def vld (K : Nat → Int32) : Prop := vldN K ∧ vldA K ∧ vldH K
/-- counters and what the latest calls left -/
def invC (I : Nat → Nat → Int32) : Prop := (∀ k, k < 7 → I 122 k = I 124 k) ∧ I 32 14 = I 123 0 ∧ I 32 15 = I 123 14 ∧ I 32 16 = I 123 37 ∧ I 32 17 = I 123 6
def invT (I : Nat → Nat → Int32) : Prop := bn (I 33 1) 400 ∧ I 123 13 = I 33 1 ∧ ∀ k, k < (I 33 1).toNatClampNeg → bn (I 34 k) 255 ∧ I 130 k = (I 34 k).toInt8.toInt32
def rowRel (C M : Nat → Int32) (c m : Nat) : Prop := C c = M (m + 13) ∧ C (c + 1) = M (m + 4) ∧ C (c + 2) = M m ∧ C (c + 3) = M (m + 1) ∧ C (c + 4) = M (m + 3) ∧ C (c + 5) = M (m + 2) ∧ ∀ i, i < 8 → C (c + 6 + i) = M (m + 5 + i)
def rowVld (K M : Nat → Int32) (m : Nat) : Prop := bn (M (m + 13)) 3 ∧ (M (m + 4) = -1 ∨ ∃ t, t < (K 52).toNatClampNeg ∧ M (m + 4) = nI t) ∧ (∃ s, s < 2 ^ (K 52).toNatClampNeg ∧ M m = nI s) ∧ bn (M (m + 1)) 99 ∧ bn (M (m + 3)) 999 ∧ bn (M (m + 2)) 9999 ∧ ∀ i, i < 8 → bn (M (m + 5 + i)) 999
/-- what can be undone: a ring of 17 rows at (p, r), a row of 16 rows at M -/
def pastRel (n k : Nat) (C M : Nat → Int32) (K : Nat → Int32) : Prop := n < 17 ∧ k ≤ 16 ∧ ∀ j, j < k → rowRel C M (14 * ((n + 17 - k + j) % 17)) (14 * j) ∧ rowVld K M (14 * j)
def invU (I : Nat → Nat → Int32) : Prop := ∃ n k : Nat, I 80 1 = nI n ∧ I 80 2 = nI k ∧ I 123 31 = nI k ∧ pastRel n k (I 81) (I 136) (I 125)
def invI (I : Nat → Nat → Int32) (R : Nat → Nat → Option Nat) (X : List pKd) : Prop := ∀ j, j < 2 → I 121 j = I 127 j ∧ (I 121 j = 0 ∨ (I 121 j = 1 ∧ hutRel I R X (103 + 9 * j) (fun k => I 126 (5664 * j + k)) ∧ vld (fun k => I 126 (5664 * j + k))))
def invD (I : Nat → Nat → Int32) : Prop := (I 32 10 = 0 ∧ I 123 46 = -1) ∨ (I 32 10 = 1 ∧ I 123 46 = I 93 2 ∧ bn (I 93 2) 8 ∧ I 93 8 = I 141 0 ∧ I 93 9 = I 141 1 ∧ I 100 2 = I 141 2 ∧ I 100 0 = I 141 3 ∧ ∀ i, i < 8 → I 98 i = I 141 (5 + i))
/-- the reference's words -/
def p_wds : List Int32 := [97, 103, 101, 115, 32, 116, 117, 114, 110, 115, 32, 98, 97, 114, 115, 32, 105, 102, 32, 111, 114, 32, 97, 110, 100, 32, 110, 111, 116, 32, 113, 117, 101, 115, 116, 105, 111, 110, 32, 121, 101, 97, 114, 115, 32, 115, 111, 114, 116, 32, 109, 111, 111, 100, 32, 97, 115, 107, 101, 100, 32, 97, 103, 101, 32, 108, 101, 102, 116, 32, 116, 101, 97, 32, 100, 97, 121, 32, 100, 111, 110, 101, 32, 97, 110, 115, 119, 101, 114, 32, 97, 115, 107, 32, 112, 111, 117, 114, 32, 112, 97, 115, 115, 32, 104, 105, 100, 101, 32, 116, 105, 109, 101, 115, 32]
/-- what never changes -/
def invK (I : Nat → Nat → Int32) : Prop := (I 0 0 = 1 ∧ I 0 1 = 2 ∧ I 0 2 = 3 ∧ I 0 3 = 5 ∧ I 0 4 = 6) ∧ (I 1 0 = 999 ∧ I 1 1 = 9 ∧ I 1 2 = 9999) ∧ I 30 3 = 1 ∧ (∀ j, j < 9 → I (12 + j) 1 = 0 ∧ ∀ k, k < p_lens9.getD j 0 → I (3 + j) k = (p_strs.getD j []).getD k 0) ∧ I 129 = fun k => p_wds.getD k 0
def Inv (I : Nat → Nat → Int32) (R : Nat → Nat → Option Nat) (X : List pKd) : Prop := invK I ∧ invC I ∧ invT I ∧ invU I ∧ invI I R X ∧ invD I ∧ hutRel I R X 71 (I 125) ∧ vld (I 125)
def InvH (Ls : Nat) (h : pHp) : Prop := ∃ I L R X, h = p_mk Ls I L R X ∧ Inv I R X
/-- the class's method, and behind it the reference's: the same answer, the invariant -/
def Same (d yc ym : Nat) (vs : List Value) (Ls : Nat) (h : pHp) : Prop := P_m d yc (.ref 32 :: vs) h (fun v h1 => ∃ r : Int32, v = some (.int r) ∧ P_m d ym (.ref 123 :: vs) h1 (fun v2 h2 => v2 = some (.int r) ∧ InvH Ls h2))
-- writes
theorem p_u_ne {α : Type} {f : Nat → Nat → α} {a k b : Nat} {v : α} (h : ¬ b = a) : p_u f a k v b = f b := if_neg h
theorem p_u_at {α : Type} {f : Nat → Nat → α} {a k j : Nat} {v : α} : p_u f a k v a j = if j = k then v else f a j := by
  unfold p_u; rw [p_fn_eq]
theorem vin_l {x : Int32} {n : Nat} (h1 : 0 ≤ x.toInt) (h2 : x.toInt < (n : Int)) : vp_in x n = True := eq_true (vp_in_iff.mpr ⟨h1, h2⟩)
/-- small numbers: index, next -/
theorem nI_c {n : Nat} (h : n < 65536) : (nI n).toNatClampNeg = n := nI_clamp (by omega)
theorem vin_k {k n : Nat} (h : k < n) (hn : n < 65536) : vp_in (nI k) n := vp_in_nI h (by omega)
theorem bn_of {x : Int32} {m : Nat} (h : bn x m) : ∃ k : Nat, k ≤ m ∧ x = nI k := h
theorem la (k n : Nat) (hk : k < 65536) : (Int32.ofNat k : Int32) + nI n = nI (k + n) := nI_add k n
theorem la_5 (n : Nat) : (5 : Int32) + nI n = nI (5 + n) := nI_add 5 n
theorem la_13 (n : Nat) : (13 : Int32) + nI n = nI (13 + n) := nI_add 13 n
theorem la_21 (n : Nat) : (21 : Int32) + nI n = nI (21 + n) := nI_add 21 n
theorem la_29 (n : Nat) : (29 : Int32) + nI n = nI (29 + n) := nI_add 29 n
theorem la_37 (n : Nat) : (37 : Int32) + nI n = nI (37 + n) := nI_add 37 n
theorem la_45 (n : Nat) : (45 : Int32) + nI n = nI (45 + n) := nI_add 45 n
theorem la_57 (n : Nat) : (57 : Int32) + nI n = nI (57 + n) := nI_add 57 n
theorem la_64 (n : Nat) : (64 : Int32) + nI n = nI (64 + n) := nI_add 64 n
theorem la_2864 (n : Nat) : (2864 : Int32) + nI n = nI (2864 + n) := nI_add 2864 n
theorem p_u_self {f : Nat → Nat → Int32} {a k : Nat} {v : Int32} : p_u f a k v a = upd (f a) k v := p_fn_eq
theorem upd_at {f : Nat → Int32} {k j : Nat} {v : Int32} : upd f k v j = if j = k then v else f j := rfl
theorem upd_ne {f : Nat → Int32} {k j : Nat} {v : Int32} (h : j ≠ k) : upd f k v j = f j := if_neg h
theorem upd_eq {f : Nat → Int32} {k : Nat} {v : Int32} : upd f k v k = v := if_pos rfl
/-- a write of what both keep at k -/
theorem hutR_w {I : Nat → Nat → Int32} {a : Nat} {K : Nat → Int32} {k b i : Nat} {v : Int32} (hk : k < 57) (hb : b = a + da k) (hi : i = ix k) (h : hutR I a K) : hutR (p_u I b i v) a (upd K k v) := by
  intro j hj
  subst hb; subst hi
  by_cases hjk : j = k
  · subst hjk
    rw [p_u_at, if_pos rfl, upd_eq]
  · rw [upd_ne hjk]
    by_cases hd : a + da j = a + da k
    · rw [hd, p_u_at, if_neg (fun e => hjk (da_inj j hj k hk (by omega) e)), ← hd]
      exact h j hj
    · rw [p_u_ne hd]
      exact h j hj
theorem hutR_f {I J : Nat → Nat → Int32} {a : Nat} {K : Nat → Int32} (h : hutR I a K) (e : ∀ b, a ≤ b → b ≤ a + 7 → J b = I b) : hutR J a K := by
  intro k hk
  have := da_le k hk
  rw [e (a + da k) (by omega) (by omega)]
  exact h k hk
