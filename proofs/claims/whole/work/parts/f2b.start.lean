section ZJ
def ze_b : List zEv → Nat → Nat → Bool
  | [], _, _ => false
  | e :: r, a, m => if e.1 = 0 then (decide (e.2.1 = a) || ze_b r a m) else (decide (e.1 = 1 ∧ e.2.1 = a → e.2.2.1 < m) && ze_b r a m)
theorem ze_i0 {a k m : Nat} (hm : m ≤ k) : ∀ es, ze_b es a m = true → ze_i es a k = some 0
  | [], H => by cases H
  | e :: r, H => by
    unfold ze_b at H
    unfold ze_i
    by_cases c : e.1 = 0
    · rw [if_pos c] at H ⊢
      by_cases ca : e.2.1 = a
      · rw [if_pos ca]
      · rw [if_neg ca]
        rw [decide_eq_false ca, Bool.false_or] at H
        exact ze_i0 hm r H
    · rw [if_neg c] at H ⊢
      rw [Bool.and_eq_true, decide_eq_true_eq] at H
      have ih := ze_i0 hm r H.2
      by_cases c1 : e.1 = 1
      · rw [if_pos c1, if_neg (fun x => by have := H.1 ⟨c1, x.1⟩; have := x.2; omega)]
        exact ih
      · rw [if_neg c1]; exact ih
theorem z2_b : ze_b zE2 129 115 = true := by decide +kernel
theorem ze_ilo {a k : Nat} (ha : a < 32) : ∀ es : List zEv, es.all (fun e => decide (32 ≤ e.2.1)) = true → ze_i es a k = none ∧ ze_r es a k = none
  | [], _ => ⟨rfl, rfl⟩
  | e :: r, H => by
    rw [List.all_cons, Bool.and_eq_true, decide_eq_true_eq] at H
    obtain ⟨i1, i2⟩ := ze_ilo ha r H.2
    have ne : ¬ e.2.1 = a := by omega
    have n2 : ¬ (e.2.1 = a ∧ e.2.2.1 = k) := fun x => ne x.1
    unfold ze_i ze_r
    simp only [if_neg ne, if_neg n2, ite_self]
    exact ⟨i1, i2⟩
variable {L : Nat} {xs : Nat → Int32} {sio : Option Nat}
theorem z2_I {a k : Nat} {v : Int32} (e : ze_i zE2 a k = some v) : p_I (ze_H (p_h0 L xs sio) zE2) a k = v := by
  rw [ze_id rfl zE2 z2_w, e, Option.getD_some]
theorem z2_I0 {a : Nat} (ha : a < 32) : p_I (ze_H (p_h0 L xs sio) zE2) a = p_I0 xs a := by
  funext k
  rw [ze_id rfl zE2 z2_w, (ze_ilo ha zE2 z2_lo).1]; rfl
theorem sr_row : ∀ l ∈ p_srT, l.length ≤ 50 := by decide +kernel
theorem nt2_h2 {α : Type} : ∀ (l : List α) (k : Nat), l.length ≤ k → p_nt2 l k = none
  | [], _, _ => rfl
  | _ :: l, 0, h => by simp at h
  | _ :: l, k + 1, h => nt2_h2 l k (by simpa using h)
theorem nt2_mem {α : Type} : ∀ (l : List α) (k : Nat) {x : α}, p_nt2 l k = some x → x ∈ l
  | [], _, _, h => by cases h
  | y :: l, 0, x, h => by cases h; exact List.mem_cons_self
  | _ :: l, k + 1, x, h => List.mem_cons_of_mem _ (nt2_mem l k h)
theorem sr_hk {a k : Nat} (h : 50 ≤ k) : p_sr a k = none := by
  unfold p_sr
  split
  · rename_i l hl
    rw [nt2_h2 l k (Nat.le_trans (sr_row l (nt2_mem _ _ hl)) h)]; rfl
  · rfl
theorem z2_ovl : p_ovl (p_R (ze_H (p_h0 L xs sio) zE2)) = p_R (ze_H (p_h0 L xs sio) zE2) := by
  funext a k
  unfold p_ovl
  cases hs : p_sr a k with
  | none => rfl
  | some b =>
    show some b = p_R (ze_H (p_h0 L xs sio) zE2) a k
    rcases Nat.lt_or_ge k 50 with hk | hk
    · rcases Nat.lt_or_ge a 142 with ha | ha
      · rcases Nat.lt_or_ge a 32 with h3 | h3
        · rw [ze_rd rfl zE2 z2_w, (ze_ilo h3 zE2 z2_lo).2]
          show some b = p_R0 sio a k
          have := z2_R0 a h3 k hk
          rw [hs] at this
          exact (R0_sio (of_decide_eq_true this)).symm
        · have := z2_R a ha k hk h3
          rw [hs] at this
          have := of_decide_eq_true this
          rw [ze_rd rfl zE2 z2_w, this]; rfl
      · rw [sr_hi ha] at hs; cases hs
    · rw [sr_hk hk] at hs; cases hs
theorem p_eta (h : pHp) : h = (p_I h, p_L h, p_R h, h.2.2.2) := rfl
theorem z2_mk : ze_H (p_h0 L xs sio) zE2 = p_mk L (p_I (ze_H (p_h0 L xs sio) zE2)) (p_L (ze_H (p_h0 L xs sio) zE2)) (p_R (ze_H (p_h0 L xs sio) zE2)) [] := by
  have e : (ze_H (p_h0 L xs sio) zE2).2.2.2 = p_SH L ++ [] := by
    rw [ze_kinds, z2_ks]; rfl
  have o := z2_ovl (L := L) (xs := xs) (sio := sio)
  generalize ze_H (p_h0 L xs sio) zE2 = G at *
  unfold p_mk
  rw [o, ← e]
  exact p_eta G
theorem z2_bn {x : Int32} {m : Nat} (h : x = 0) : bn x m := ⟨0, Nat.zero_le m, h⟩
theorem z2_Inv : Inv (p_I (ze_H (p_h0 L xs sio) zE2)) (p_R (ze_H (p_h0 L xs sio) zE2)) [] := by
  have K : ∀ j, j < 57 → p_I (ze_H (p_h0 L xs sio) zE2) 125 j = if j = 4 ∨ j = 56 then -1 else 0 := fun j hj => z2_I (z2_K j hj)
  have K0 : ∀ j, j < 57 → ¬ j = 4 → ¬ j = 56 → p_I (ze_H (p_h0 L xs sio) zE2) 125 j = 0 := fun j hj h4 h5 => by rw [K j hj, if_neg (by omega)]
  have K4 : p_I (ze_H (p_h0 L xs sio) zE2) 125 4 = -1 := K 4 (by omega)
  have K56 : p_I (ze_H (p_h0 L xs sio) zE2) 125 56 = -1 := K 56 (by omega)
  have Ku : ∀ j, j < 57 → p_I (ze_H (p_h0 L xs sio) zE2) (71 + da j) (ix j) = p_I (ze_H (p_h0 L xs sio) zE2) 125 j := fun j hj => by rw [K j hj]; exact z2_I (z2_hut j hj)
  have R79 : ∀ i, i < 6 → p_R (ze_H (p_h0 L xs sio) zE2) 79 i = none := fun i hi => by rw [ze_rd rfl zE2 z2_w, z2_79 i hi]; rfl
  obtain ⟨c1, c2, c3, c4, c5, c6, c7, c8⟩ := z2_v
  obtain ⟨d1, d2, d3, d4, d5, d6, d7⟩ := z2_v2
  refine ⟨⟨?_, ?_, ?_, ?_, ?_⟩, ⟨fun k hk => ?_, ?_, ?_, ?_, ?_⟩, ⟨z2_bn (z2_I d1), ?_, fun k hk => ?_⟩, ⟨0, 0, z2_I d3, z2_I d4, z2_I d5, by omega, by omega, fun j hj => absurd hj (Nat.not_lt_zero j)⟩, fun j hj => ?_, Or.inl ⟨z2_I d6, z2_I d7⟩, ⟨Ku, fun i hi => Or.inl (R79 i hi), fun i hi => ?_⟩, ⟨⟨?_, ?_, ?_, ?_, ?_, ?_, ?_, ?_⟩, fun i hi => ⟨?_, ?_, ?_, ?_, ?_, fun h6 => ?_⟩, Or.inl K4, ⟨0, ?_, K0 0 (by omega) (by omega) (by omega)⟩, Or.inl K56⟩⟩
  · rw [z2_I0 (by omega)]; exact ⟨rfl, rfl, rfl, rfl, rfl⟩
  · rw [z2_I0 (by omega)]; exact ⟨rfl, rfl, rfl⟩
  · rw [z2_I0 (by omega)]; rfl
  · intro j hj
    rw [z2_I0 (by omega), z2_I0 (by omega)]
    have : j = 0 ∨ j = 1 ∨ j = 2 ∨ j = 3 ∨ j = 4 ∨ j = 5 ∨ j = 6 ∨ j = 7 ∨ j = 8 := by omega
    rcases this with rfl | rfl | rfl | rfl | rfl | rfl | rfl | rfl | rfl <;> exact ⟨rfl, fun _ _ => rfl⟩
  · funext k
    rcases Nat.lt_or_ge k 115 with hk | hk
    · exact z2_I (z2_wd k hk)
    · rw [z2_I (ze_i0 hk zE2 z2_b)]
      have hl : p_wds.length ≤ k := Nat.le_trans (by decide) hk
      rw [List.getD_eq_getElem?_getD, List.getElem?_eq_none hl]; rfl
  · rw [z2_I (z2_c k hk).1, z2_I (z2_c k hk).2]
  · rw [z2_I c1, z2_I c2]
  · rw [z2_I c3, z2_I c4]
  · rw [z2_I c5, z2_I c6]
  · rw [z2_I c7, z2_I c8]
  · rw [z2_I d1, z2_I d2]
  · rw [z2_I d1] at hk
    exact absurd hk (Nat.not_lt_zero k)
  · rw [z2_I (z2_v3 j hj).1, z2_I (z2_v3 j hj).2]
    exact ⟨rfl, Or.inl rfl⟩
  · rw [K0 55 (by omega) (by omega) (by omega)] at hi
    exact absurd hi (Nat.not_lt_zero i)
  · exact z2_bn (K0 52 (by omega) (by omega) (by omega))
  · exact z2_bn (K0 53 (by omega) (by omega) (by omega))
  · exact z2_bn (K0 54 (by omega) (by omega) (by omega))
  · exact z2_bn (K0 55 (by omega) (by omega) (by omega))
  · exact z2_bn (K0 1 (by omega) (by omega) (by omega))
  · exact z2_bn (K0 2 (by omega) (by omega) (by omega))
  · exact z2_bn (K0 3 (by omega) (by omega) (by omega))
  · exact z2_bn (K0 51 (by omega) (by omega) (by omega))
  · exact z2_bn (K0 (13 + i) (by omega) (by omega) (by omega))
  · exact z2_bn (K0 (21 + i) (by omega) (by omega) (by omega))
  · exact z2_bn (K0 (29 + i) (by omega) (by omega) (by omega))
  · exact z2_bn (K0 (37 + i) (by omega) (by omega) (by omega))
  · exact z2_bn (K0 (5 + i) (by omega) (by omega) (by omega))
  · exact z2_bn (K0 (45 + i) (by omega) (by omega) (by omega))
  · exact Nat.two_pow_pos _
end ZJ
