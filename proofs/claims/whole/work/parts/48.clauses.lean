/-! CLAUSES: what a law tells of a question -/
def clA (W : Nat → Int32) (c : tCl) (y : Int) : Int := if cl_k c = 0 ∧ cl_g c W = some true then (match cl_f c W with
  | some v => if v < 0 then 0 else if 99 < v then 99 else v
  | none => y) else y
/-- by how much she ages -/
def lawA (CL : List tCl) (W : Nat → Int32) (y : Int) : Int := CL.foldl (fun y c => clA W c y) y
/-- whether a clause of a kind without a sum holds -/
def clH (W : Nat → Int32) (kd : Nat) (c : tCl) : Bool := decide (cl_k c = kd) && decide (cl_g c W = some true)
def lawH (CL : List tCl) (W : Nat → Int32) (kd : Nat) : Bool := CL.any (clH W kd)
def clOk (o : Bool) (b : Nat) (c : tCl) : Prop :=
  ((hasS o (cl_k c) = true ∧ ∃ nd, nd ≤ 50 ∧ gS (nw o) (cl_s c) (cl_f c) nd) ∨ (hasS o (cl_k c) = false ∧ cl_s c = [] ∧ cl_f c = fun _ => some 1)) ∧
  ((cl_b c = [] ∧ cl_g c = fun _ => some true) ∨ ∃ nd, nd ≤ 50 ∧ gB (nw o) (b + (cl_s c).length) (cl_b c) (cl_g c) nd) ∧ cl_k c ≤ 3 ∧ 1 ≤ cl_t c ∧ cl_t c ≤ 20
theorem lawA_in {CL : List tCl} {W : Nat → Int32} {y : Int} (h1 : 0 ≤ y) (h2 : y ≤ 99) : 0 ≤ lawA CL W y ∧ lawA CL W y ≤ 99 := by
  unfold lawA
  induction CL generalizing y with
  | nil => exact ⟨h1, h2⟩
  | cons c r ih =>
    rw [List.foldl_cons]
    have : 0 ≤ clA W c y ∧ clA W c y ≤ 99 := by
      unfold clA
      split
      · split
        · split
          · omega
          · split <;> omega
        · exact ⟨h1, h2⟩
      · exact ⟨h1, h2⟩
    exact ih this.1 this.2
section PC
variable {o : Bool} {C V : Nat → Nat} {T : Nat}
theorem hdK_le {c : Nat} (h : ¬ hdK o c = 9) : hdK o c ≤ 3 := by
  unfold hdK at *
  repeat' split at h
  all_goals first | (exact absurd rfl h) | skip
  · rw [if_pos (by assumption), if_pos (by assumption)]; omega
  · rw [if_neg (by assumption), if_pos (by assumption)]; omega
theorem pC_g {n k l c : Nat} {r : Nat × Nat × tCl} (hl : l ≤ 50) (h : pC o C V n k l c = some (.ok r)) : clOk o c r.2.2 ∧ k < r.1 ∧ l ≤ r.2.1 ∧ r.2.1 ≤ 50 ∧ k + ((cl_s r.2.2).length + (cl_b r.2.2).length) < r.1 := by
  unfold pC at h
  split at h
  · cases h
  rename_i hk
  have hk3 := hdK_le hk
  obtain ⟨a, e1, e2⟩ := bnd_iok h
  obtain ⟨t, e3, e4⟩ := bnd_iok e2
  obtain ⟨b, e5, e6⟩ := bnd_iok e4
  cases e6
  have ha : ((hasS o (hdK o (C k)) = true ∧ ∃ nd, nd ≤ 50 ∧ gS (nw o) a.2.2.2 a.2.2.1 nd) ∨ (hasS o (hdK o (C k)) = false ∧ a.2.2.2 = [] ∧ a.2.2.1 = fun _ => some 1)) ∧ k < a.1 ∧ l ≤ a.2.1 ∧ a.2.1 ≤ 50 ∧ k + 1 + a.2.2.2.length ≤ a.1 := by
    unfold pSm at e1
    split at e1
    · rename_i hs
      obtain ⟨g1, g2, g3, g4, g5⟩ := (pS_g n).2.1 _ _ _ _ _ _ e1
      exact ⟨Or.inl ⟨hs, _, by omega, g1⟩, by omega, by omega, g3, by omega⟩
    · rename_i hs
      cases e1
      exact ⟨Or.inr ⟨by cases hh : hasS o (hdK o (C k)) with
        | true => exact absurd hh hs
        | false => rfl, rfl, rfl⟩, Nat.lt_succ_self k, Nat.le_refl _, hl, Nat.le_refl _⟩
  obtain ⟨a1, a2, a3, a4, a5⟩ := ha
  have ht : a.1 ≤ t.1 ∧ 1 ≤ t.2 ∧ t.2 ≤ 20 := by
    unfold pTm at e3
    split at e3
    · split at e3
      · cases e3
        rename_i hh
        exact ⟨by show a.1 ≤ a.1 + 2; omega, hh.2.1, hh.2.2⟩
      · cases e3
    · cases e3
      exact ⟨Nat.le_refl _, by show 1 ≤ 1; omega, by show 1 ≤ 20; omega⟩
  obtain ⟨t1, t2, t3⟩ := ht
  have hb : ((b.2.2.2 = [] ∧ b.2.2.1 = fun _ => some true) ∨ ∃ nd, nd ≤ 50 ∧ gB (nw o) (c + a.2.2.2.length) b.2.2.2 b.2.2.1 nd) ∧ t.1 ≤ b.1 ∧ a.2.1 ≤ b.2.1 ∧ b.2.1 ≤ 50 ∧ t.1 + b.2.2.2.length ≤ b.1 := by
    unfold pIf at e5
    split at e5
    · obtain ⟨g1, g2, g3, g4, g5⟩ := (pB_g n).2.1 _ _ _ _ _ _ _ _ e5
      exact ⟨Or.inr ⟨_, by omega, g1⟩, by omega, by omega, g3, by omega⟩
    · cases e5
      exact ⟨Or.inl ⟨rfl, rfl⟩, Nat.le_refl _, Nat.le_refl _, a4, Nat.le_refl _⟩
  obtain ⟨b1, b2, b3, b4, b5⟩ := hb
  refine ⟨⟨a1, b1, hk3, t2, t3⟩, by show k < b.1; omega, by show l ≤ b.2.1; omega, b4, ?_⟩
  show k + (a.2.2.2.length + b.2.2.2.length) < b.1
  omega
theorem clB_app : ∀ (a b : List tCl) (j : Nat), clB (a ++ b) (a.length + j) = clB a a.length + clB b j
  | [], b, j => by
    show clB b (0 + j) = 0 + clB b j
    rw [Nat.zero_add, Nat.zero_add]
  | c :: a, b, j => by
    rw [List.cons_append, List.length_cons, show a.length + 1 + j = (a.length + j) + 1 by omega]
    show (cl_s c).length + (cl_b c).length + clB (a ++ b) (a.length + j) = (cl_s c).length + (cl_b c).length + clB a a.length + clB b j
    rw [clB_app a b j]; omega
theorem clB_le : ∀ (a b : List tCl) (j : Nat), j ≤ a.length → clB (a ++ b) j = clB a j
  | [], b, j, h => by
    have : j = 0 := by simpa using h
    subst this
    cases b <;> rfl
  | c :: a, b, 0, _ => rfl
  | c :: a, b, j + 1, h => by
    show (cl_s c).length + (cl_b c).length + clB (a ++ b) j = (cl_s c).length + (cl_b c).length + clB a j
    rw [clB_le a b j (by simpa using h)]
theorem clCode_len : ∀ (a : List tCl), (clCode a).length = clB a a.length
  | [] => rfl
  | c :: a => by
    show (cl_s c ++ (cl_b c ++ clCode a)).length = (cl_s c).length + (cl_b c).length + clB a a.length
    rw [List.length_append, List.length_append, clCode_len a]; omega
theorem pX_g : ∀ n m k l c acc CL, l ≤ 50 → m = acc.length → m ≤ 11 → c = clB acc m → c ≤ k → (∀ j cl, acc[j]? = some cl → clOk o (clB acc j) cl) → pX o C V T n m k l c acc = some (.ok CL) → (∀ j cl, CL[j]? = some cl → clOk o (clB CL j) cl) ∧ 1 ≤ CL.length ∧ CL.length ≤ 12 ∧ clB CL CL.length ≤ T
  | 0, _, _, _, _, _, _, _, _, _, _, _, _, h => by cases h
  | n + 1, m, k, l, c, acc, CL, hl, hm, hm2, hc, hck, ha, h => by
    unfold pX at h
    obtain ⟨a, e1, e2⟩ := bnd_iok h
    obtain ⟨g1, g2, g3, g4, g5⟩ := pC_g hl e1
    have hacc : ∀ j cl, (acc ++ [a.2.2])[j]? = some cl → clOk o (clB (acc ++ [a.2.2]) j) cl := by
      intro j cl hj
      rcases Nat.lt_or_ge j acc.length with hj2 | hj2
      · rw [List.getElem?_append_left hj2] at hj
        rw [clB_le acc _ j (by omega)]
        exact ha j cl hj
      · have : j = acc.length := by
          rcases Nat.lt_or_ge acc.length j with h9 | h9
          · rw [List.getElem?_append_right hj2, List.getElem?_eq_none (by simp only [List.length_cons, List.length_nil]; omega)] at hj
            cases hj
          · omega
        subst this
        rw [List.getElem?_append_right (Nat.le_refl _), Nat.sub_self] at hj
        cases hj
        have := clB_app acc [a.2.2] 0
        rw [Nat.add_zero] at this
        rw [this]
        show clOk o (clB acc acc.length + 0) _
        rw [Nat.add_zero, ← hm, ← hc]
        exact g1
    have hlen : clB (acc ++ [a.2.2]) (acc.length + 1) = c + (cl_s a.2.2).length + (cl_b a.2.2).length := by
      rw [clB_app acc [a.2.2] 1, ← hm, ← hc]
      show c + ((cl_s a.2.2).length + (cl_b a.2.2).length + 0) = _
      omega
    have hl1 : (acc ++ [a.2.2]).length = acc.length + 1 := by rw [List.length_append, List.length_cons, List.length_nil]
    split at e2
    · rename_i hT
      cases e2
      refine ⟨hacc, by omega, by omega, ?_⟩
      rw [hl1, hlen]
      omega
    · split at e2
      · split at e2
        · cases e2
        · rename_i h11
          refine pX_g n (m + 1) _ _ _ _ CL g4 (by omega) (by omega) ?_ (by omega) hacc e2
          rw [hm, hlen]
      · cases e2
end PC
