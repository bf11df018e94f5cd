/-! ORDER: the years of a question as its turn comes -/
def kU (K : Nat → Int32) (u : Nat) : Nat → Int32 := upd K 2 (nI (kn K 2 + u))
def yO (c : Option (List tCl)) (K : Nat → Int32) (q u : Nat) : Option Nat := if bv c (kU K u) q (pc (kn K 0)) = true then none else some (yv c (kU K u) q (pc (kn K 0)))
def yL (c : Option (List tCl)) (K : Nat → Int32) (q u : Nat) : Option Nat := match yO c K q u with
  | none => none
  | some t => if kn K 2 + u + t ≤ 9999 then some t else none
theorem env_U {K : Nat → Int32} (hV : vld K) {q u : Nat} (hq : q < 8) (hu : u ≤ 2000) : envOk (kU K u) q := by
  obtain ⟨e0, e1, e2, e3, e4, e5, e6, e7⟩ := vld_env hV hq
  have g2 := (kn_e hV (j := 2) (by omega) (by omega) (by omega)).2
  have g2' : kn K 2 ≤ 9999 := g2
  unfold kU
  refine ⟨e0, ?_, ?_, ?_, ?_, ?_, ?_, ?_⟩
  · rw [upd_ne (by omega)]; exact e1
  · rw [upd_ne (by omega)]; exact e2
  · rw [upd_ne (by omega)]; exact e3
  · rw [upd_ne (by omega)]; exact e4
  · rw [upd_eq]; exact ⟨kn K 2 + u, by omega, rfl⟩
  · rw [upd_ne (by omega)]; exact e6
  · rw [upd_ne (by omega)]; exact e7
theorem yO_le {c : Option (List tCl)} {K : Nat → Int32} (hV : vld K) {q u t : Nat} (hq : q < 8) (hu : u ≤ 2000) (h : yO c K q u = some t) : t ≤ 99 := by
  unfold yO at h
  split at h
  · cases h
  · cases h
    exact (yv_e (env_U hV hq hu) (pc_le _)).2
theorem yL_O {c : Option (List tCl)} {K : Nat → Int32} {q u t : Nat} (h : yL c K q u = some t) : yO c K q u = some t ∧ kn K 2 + u + t ≤ 9999 := by
  unfold yL at h
  split at h
  · cases h
  · rename_i t' e
    split at h
    · rename_i h2; cases h; exact ⟨e, h2⟩
    · cases h
theorem bt_255 : ∀ s, s < 256 → ∀ q, q < 8 → bt (255 - s) q = 1 - bt s q := by decide +kernel
theorem bt_rm : ∀ s, s < 256 → ∀ q, q < 8 → bt s q = 1 → 2 ^ q ≤ s ∧ pc (s - 2 ^ q) + 1 = pc s ∧ (∀ t, t < 8 → bt (s - 2 ^ q) t = if t = q then 0 else bt s t) ∧ (nI s &&& (nI (2 ^ q) ^^^ mI 1)) = nI (s - 2 ^ q) := by decide +kernel
theorem bt_ad : ∀ s, s < 256 → ∀ q, q < 8 → bt s q = 0 → s + 2 ^ q < 256 ∧ pc (s + 2 ^ q) = pc s + 1 ∧ (∀ t, t < 8 → bt (s + 2 ^ q) t = if t = q then 1 else bt s t) ∧ (nI s ||| nI (2 ^ q)) = nI (s + 2 ^ q) := by decide +kernel
theorem bt_none : ∀ s, s < 256 → (pc s = 0 ↔ s = 0) := by decide +kernel
/-- the reference's kept, when what is not in S has been asked, u years later -/
def stK (K0 : Nat → Int32) (c : Option (List tCl)) (S u : Nat) (K : Nat → Int32) : Prop := K 2 = nI (kn K0 2 + u) ∧ (∀ j, ¬ j = 2 → (∀ q, q < 8 → bt S q = 0 → ¬ j = 5 + q) → K j = K0 j) ∧ vld K ∧ lawOf K c
theorem gd_ap {p q : List Nat} {j : Nat} (h : j < p.length) : (p ++ q).getD j 0 = p.getD j 0 := by
  rw [List.getD_eq_getElem?_getD, List.getD_eq_getElem?_getD, List.getElem?_append_left h]
section OF
variable {K0 K : Nat → Int32} {c : Option (List tCl)} {S u : Nat}
theorem stK_0 (hV : vld K0) (hc : lawOf K0 c) : stK K0 c S 0 K0 := ⟨(kn_e hV (j := 2) (by omega) (by omega) (by omega)).1, fun _ _ _ => rfl, hV, hc⟩
theorem stK_e {j : Nat} (h : stK K0 c S u K) (h2 : ¬ j = 2) (h5 : j < 5 ∨ 13 ≤ j) : K j = K0 j := h.2.1 j h2 (fun q hq _ => by omega)
theorem stK_w {q : Nat} {lf : Int32} (h : stK K0 c S u K) (hq : q < 8) (hb : bt S q = 1) : wEnv K q lf = wEnv (kU K0 u) q lf := by
  have e5 : K (5 + q) = K0 (5 + q) := h.2.1 _ (by omega) (fun q' hq' hb' e => by
    have : q' = q := by omega
    subst this; omega)
  unfold kU
  funext j
  unfold wEnv
  rw [e5, stK_e h (j := 21 + q) (by omega) (by omega), stK_e h (j := 29 + q) (by omega) (by omega), stK_e h (j := 51) (by omega) (by omega), stK_e h (j := 1) (by omega) (by omega), stK_e h (j := 3) (by omega) (by omega), h.1, upd_ne (show ¬ 21 + q = 2 by omega), upd_ne (show ¬ 29 + q = 2 by omega), upd_ne (show ¬ 5 + q = 2 by omega), upd_ne (show ¬ 51 = 2 by omega), upd_ne (show ¬ 1 = 2 by omega), upd_ne (show ¬ 3 = 2 by omega), upd_eq]
theorem stK_kn0 (h : stK K0 c S u K) : kn K 0 = kn K0 0 := by unfold kn; rw [stK_e h (by omega) (by omega)]
theorem stK_kn2 (h : stK K0 c S u K) (hu : kn K0 2 + u ≤ 20000) : kn K 2 = kn K0 2 + u := by
  show (K 2).toNatClampNeg = _
  rw [h.1, nI_clamp (by omega)]
theorem stK_may {q : Nat} (h : stK K0 c S u K) (hu : kn K0 2 + u ≤ 20000) (hq : q < 8) (hb : bt S q = 1) : (yL c K0 q u = none ∧ (!bv c K q (pc (kn K 0)) && decide (kn K 2 + yv c K q (pc (kn K 0)) ≤ 9999)) = false) ∨ (yL c K0 q u = some (yv c K q (pc (kn K 0))) ∧ kn K 2 + yv c K q (pc (kn K 0)) ≤ 9999 ∧ (!bv c K q (pc (kn K 0)) && decide (kn K 2 + yv c K q (pc (kn K 0)) ≤ 9999)) = true) := by
  unfold yL yO yv bv
  rw [stK_kn0 h, stK_kn2 h hu, stK_w h hq hb]
  cases hdF c (wEnv (kU K0 u) q (nI (pc (kn K0 0)))) 2 with
  | true => exact Or.inl ⟨rfl, rfl⟩
  | false =>
    by_cases e : kn K0 2 + u + (agF c (wEnv (kU K0 u) q (nI (pc (kn K0 0))))).toNat ≤ 9999
    · refine Or.inr ⟨?_, e, ?_⟩
      · show (if _ then _ else _) = _
        rw [if_pos e]
      · rw [decide_eq_true e]; rfl
    · refine Or.inl ⟨?_, ?_⟩
      · show (if _ then _ else _) = _
        rw [if_neg e]
      · rw [decide_eq_false e]; rfl
theorem stK_s {q t : Nat} (h : stK K0 c S u K) (hS : S < 256) (hq : q < 8) (hb : bt S q = 1) (ht : kn K0 2 + u + t ≤ 9999) : stK K0 c (S - 2 ^ q) (u + t) (upd (upd K 2 (nI (kn K0 2 + u + t))) (5 + q) (nI (min (kn K (5 + q) + 1) 999))) := by
  obtain ⟨e1, e2, e3, e4⟩ := h
  have br := (bt_rm S hS q hq hb).2.2.1
  have ho : wsOk [(2, nI (kn K0 2 + u + t)), (5 + q, nI (min (kn K (5 + q) + 1) 999))] := ⟨⟨by omega, by omega, Or.inr (Or.inr (Or.inr ⟨kn K0 2 + u + t, ht, rfl⟩))⟩, ⟨by omega, by omega, Or.inr (Or.inr (Or.inr ⟨min (kn K (5 + q) + 1) 999, by rw [mx_5 q hq]; omega, rfl⟩))⟩, trivial⟩
  refine ⟨?_, fun j j2 hj => ?_, ?_, ?_⟩
  · rw [upd_ne (by omega), upd_eq, Nat.add_assoc]
  · have b5 : ¬ j = 5 + q := hj q hq (by rw [br q hq, if_pos rfl])
    rw [upd_ne b5, upd_ne j2]
    refine e2 j j2 (fun q' hq' hb' => hj q' hq' ?_)
    rw [br q' hq']
    split <;> omega
  · rw [vld_iff] at e3 ⊢
    obtain ⟨v1, v2, v3, v4⟩ := e3
    refine ⟨updL_vB _ ho v1, ?_, ?_, ?_⟩
    · rw [upd_ne (by omega), upd_ne (by omega), upd_ne (by omega), upd_ne (by omega)]; exact v2
    · rw [upd_ne (by omega), upd_ne (by omega), upd_ne (by omega), upd_ne (by omega)]; exact v3
    · rw [upd_ne (by omega), upd_ne (by omega), upd_ne (by omega), upd_ne (by omega)]; exact v4
  · refine upd_law ho ?_ e4
    show upd (upd K 2 _) (5 + q) _ 56 = K 56
    rw [upd_ne (by omega), upd_ne (by omega)]
end OF
