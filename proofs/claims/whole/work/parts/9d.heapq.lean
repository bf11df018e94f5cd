section HV
variable {c : Option (List tCl)} {K : Nat → Int32}
def alS (c : Option (List tCl)) (K : Nat → Int32) (i : Nat) : Nat := bs (fun q => !bv c K q (pc (kn K 0))) i
theorem pk_ex : ∀ j, j < 8 → ∀ i, i < j → ∃ k, k < 28 ∧ uP k = i ∧ tP k = j := by decide
theorem tlM_tb {a : Nat → Nat} {n S k : Nat} (hk : k < 28) : ∀ i, (tlM a n S i).testBit k = (decide (tP k < n) && t2F a S (uP k) (tP k) i)
  | 0 => by
    show (0 : Nat).testBit k = (_ && false)
    rw [Nat.zero_testBit, Bool.and_false]
  | i + 1 => by
    have ih := tlM_tb (a := a) (n := n) (S := S) hk i
    unfold tlM t2F
    split
    · rename_i h
      rw [Nat.testBit_or, ih, decide_eq_true h, Bool.true_and]
      unfold apM
      rw [bs_tb, decide_eq_true hk, Bool.true_and]
      cases decide (tP k < n) <;> cases t2F a S (uP k) (tP k) i <;> rfl
    · rename_i h
      rw [ih, decide_eq_false h, Bool.false_and, Bool.or_false]
theorem dM_tap {S : Nat} (hV : vld K) : dM (wM (kn K 0) 8) (tlM (fun q => kn K (37 + q)) (kn K 52) S (kn K 53)) = 0 ↔ tapF K S := by
  obtain ⟨n1, n2⟩ := kn_52 hV
  obtain ⟨k1, k2, k3⟩ := kn_0 hV
  have wt : ∀ k, k < 28 → (wM (kn K 0) 8).testBit k = ((kn K 0).testBit (tP k) && (kn K 0).testBit (uP k)) := fun k hk => by
    unfold wM
    rw [bs_tb, decide_eq_true hk, decide_eq_true (up_lt k hk).2, Bool.true_and, Bool.true_and]
  constructor
  · intro h i j hij hj
    obtain ⟨k, hk, rfl, rfl⟩ := pk_ex j (by omega) i hij
    unfold pkF
    cases hA : ((kn K 0).testBit (uP k) && (kn K 0).testBit (tP k)) with
    | false => rfl
    | true =>
      have h2 := congrArg (fun x => x.testBit k) h
      unfold dM at h2
      rw [Nat.testBit_and, Nat.testBit_xor, show (268435455 : Nat) = 2 ^ 28 - 1 from rfl, Nat.testBit_two_pow_sub_one, wt k hk, Bool.and_comm ((kn K 0).testBit (tP k)), hA, tlM_tb hk, decide_eq_true hk, decide_eq_true hj, Nat.zero_testBit, Bool.true_and, Bool.true_and] at h2
      cases ht : t2F (fun q => kn K (37 + q)) S (uP k) (tP k) (kn K 53) with
      | true => rfl
      | false => rw [ht] at h2; exact absurd h2 (by decide)
  · intro h
    refine Nat.eq_of_testBit_eq (fun k => ?_)
    rw [Nat.zero_testBit]
    unfold dM
    rw [Nat.testBit_and]
    by_cases hk : k < 28
    · rw [Nat.testBit_xor, show (268435455 : Nat) = 2 ^ 28 - 1 from rfl, Nat.testBit_two_pow_sub_one, wt k hk, tlM_tb hk, decide_eq_true hk]
      cases hT : (kn K 0).testBit (tP k) with
      | false => rfl
      | true =>
        cases hU : (kn K 0).testBit (uP k) with
        | false => rfl
        | true =>
          have ht : tP k < kn K 52 := by
            rcases Nat.lt_or_ge (tP k) (kn K 52) with h9 | h9
            · exact h9
            · have := Nat.testBit_lt_two_pow (x := kn K 0) (i := tP k) (Nat.lt_of_lt_of_le k2 (Nat.pow_le_pow_right (by omega) h9))
              rw [this] at hT; cases hT
          have := h (uP k) (tP k) (up_lt k hk).1 ht
          unfold pkF at this
          rw [hT, hU] at this
          rw [decide_eq_true ht, show t2F (fun q => kn K (37 + q)) S (uP k) (tP k) (kn K 53) = true from this]
          rfl
    · unfold wM
      rw [bs_tb, decide_eq_false hk]
      rfl
theorem hpS_yes {S : Nat} : ∀ i, (∀ q, q < i → bt S q = 1 → bv c K q (pc (kn K 0)) = false) → hpS (yH c K) S i = some (ysF (fun q => yv c K q (pc (kn K 0))) S i)
  | 0, _ => rfl
  | i + 1, h => by
    have es : ysF (fun q => yv c K q (pc (kn K 0))) S (i + 1) = ysF (fun q => yv c K q (pc (kn K 0))) S i + (if bt S i = 1 then yv c K i (pc (kn K 0)) else 0) := rfl
    unfold hpS
    rw [hpS_yes i (fun q hq => h q (by omega)), es]
    dsimp only
    by_cases e : bt S i = 1
    · rw [if_pos e, if_pos e]
      have : yH c K i = some (yv c K i (pc (kn K 0))) := by unfold yH; rw [h i (by omega) e, if_neg (by decide)]
      rw [this]
    · rw [if_neg e, if_neg e]; rfl
theorem hpS_no {S q : Nat} (hb : bt S q = 1) (hv : bv c K q (pc (kn K 0)) = true) {i : Nat} (hq : q < i) : hpS (yH c K) S i = none := by
  have h1 : hpS (yH c K) S (q + 1) = none := by
    unfold hpS
    cases hpS (yH c K) S q with
    | none => rfl
    | some v =>
      dsimp only
      have : yH c K q = none := by unfold yH; rw [hv, if_pos rfl]
      rw [if_pos hb, this]
  have := hpS_n h1 (i - (q + 1))
  rwa [show q + 1 + (i - (q + 1)) = i by omega] at this
theorem dn_al {S : Nat} (hV : vld K) (hS : S < 2 ^ kn K 53) : dn S (alS c K (kn K 53)) = 0 ↔ ∀ q, q < kn K 53 → bt S q = 1 → bv c K q (pc (kn K 0)) = false := by
  obtain ⟨m1, m2⟩ := kn_53 hV
  constructor
  · intro h q hq e
    have h2 := congrArg (fun x => x.testBit q) h
    unfold dn alS at h2
    have hs : S.testBit q = true := by rw [← bt1_tb, e]; rfl
    rw [Nat.testBit_and, Nat.testBit_xor, show (255 : Nat) = 2 ^ 8 - 1 from rfl, Nat.testBit_two_pow_sub_one, bs_tb, decide_eq_true hq, decide_eq_true (show q < 8 by omega), hs, Nat.zero_testBit] at h2
    cases hb : bv c K q (pc (kn K 0)) with
    | false => rfl
    | true => rw [hb] at h2; exact absurd h2 (by decide)
  · intro h
    refine Nat.eq_of_testBit_eq (fun k => ?_)
    rw [Nat.zero_testBit]
    unfold dn alS
    rw [Nat.testBit_and, Nat.testBit_xor, show (255 : Nat) = 2 ^ 8 - 1 from rfl, Nat.testBit_two_pow_sub_one, bs_tb]
    by_cases hk : k < kn K 53
    · rw [decide_eq_true hk, decide_eq_true (show k < 8 by omega)]
      cases hs : S.testBit k with
      | false => rfl
      | true =>
        have e : bt S k = 1 := of_decide_eq_true (by rw [bt1_tb, hs])
        rw [h k hk e]; rfl
    · rw [Nat.testBit_lt_two_pow (x := S) (i := k) (Nat.lt_of_lt_of_le hS (Nat.pow_le_pow_right (by omega) (by omega)))]
      rfl
theorem vH_yes {S : Nat} (hV : vld K) (hS : S < 2 ^ kn K 53) (h1 : dn S (alS c K (kn K 53)) = 0) (h2 : tapF K S) : vH c K S = some (ysF (fun q => yv c K q (pc (kn K 0))) S (kn K 53)) := by
  unfold vH hpV
  rw [hpS_yes _ ((dn_al hV hS).mp h1)]
  dsimp only
  rw [if_pos ((dM_tap hV).mpr h2)]
theorem vH_no {S : Nat} (hV : vld K) (hS : S < 2 ^ kn K 53) (h : ¬ dn S (alS c K (kn K 53)) = 0 ∨ ¬ tapF K S) : vH c K S = none := by
  unfold vH hpV
  rcases h with h | h
  · have : ∃ q, q < kn K 53 ∧ bt S q = 1 ∧ bv c K q (pc (kn K 0)) = true := by
      refine Classical.byContradiction (fun hn => h ((dn_al hV hS).mpr (fun q hq e => ?_)))
      cases hb : bv c K q (pc (kn K 0)) with
      | false => rfl
      | true => exact absurd ⟨q, hq, e, hb⟩ hn
    obtain ⟨q, hq, e, hb⟩ := this
    rw [hpS_no e hb hq]
  · cases hpS (yH c K) S (kn K 53) with
    | none => rfl
    | some v =>
      dsimp only
      rw [if_neg (fun e => h ((dM_tap hV).mp e))]
theorem hpF_up {V : Nat → Option Nat} {A : Nat} : ∀ k, (∀ S, A ≤ S → S < A + k → V S = none) → hpF V (A + k) = hpF V A
  | 0, _ => rfl
  | k + 1, h => by
    have e : hpF V (A + k + 1) = (match V (A + k) with
      | none => hpF V (A + k)
      | some v => match hpF V (A + k) with
        | none => some (v, A + k)
        | some b => if v < b.1 then some (v, A + k) else some b) := rfl
    rw [h (A + k) (by omega) (by omega)] at e
    refine e.trans ?_
    exact hpF_up k (fun S a1 a2 => h S a1 (by omega))
theorem dn_le {s g : Nat} (hs : s < 256) (hg : g < 256) (h : dn s g = 0) : s ≤ g := by
  have : s &&& g = s := by
    refine Nat.eq_of_testBit_eq (fun k => ?_)
    rw [Nat.testBit_and]
    have h2 := congrArg (fun x => x.testBit k) h
    unfold dn at h2
    rw [Nat.testBit_and, Nat.testBit_xor, show (255 : Nat) = 2 ^ 8 - 1 from rfl, Nat.testBit_two_pow_sub_one, Nat.zero_testBit] at h2
    by_cases hk : k < 8
    · rw [decide_eq_true hk] at h2
      cases h3 : s.testBit k <;> cases h4 : g.testBit k <;> rw [h3, h4] at h2 <;> first | rfl | exact absurd h2 (by decide)
    · rw [Nat.testBit_lt_two_pow (x := s) (i := k) (Nat.lt_of_lt_of_le hs (by
        have : 2 ^ 8 ≤ 2 ^ k := Nat.pow_le_pow_right (by omega) (by omega)
        omega))]
      rfl
  rw [← this]
  exact Nat.and_le_right
theorem hpF_al (hV : vld K) : hpF (vH c K) (2 ^ kn K 53) = hpF (vH c K) (alS c K (kn K 53) + 1) := by
  obtain ⟨m1, m2⟩ := kn_53 hV
  have p2 : 2 ^ kn K 53 ≤ 2 ^ 8 := Nat.pow_le_pow_right (by omega) m2
  have al : alS c K (kn K 53) < 2 ^ kn K 53 := bs_lt _ _
  have := hpF_up (V := vH c K) (A := alS c K (kn K 53) + 1) (2 ^ kn K 53 - (alS c K (kn K 53) + 1)) (fun S a1 a2 => vH_no hV (by omega) (Or.inl (fun e => by
    have := dn_le (by omega) (by omega) e
    omega)))
  rwa [show alS c K (kn K 53) + 1 + (2 ^ kn K 53 - (alS c K (kn K 53) + 1)) = 2 ^ kn K 53 by omega] at this
end HV
