/-! WHAT IS READ, RUN BY THE CLASS -/
def gS (N : Nat) (cs : tCd) (f : tDS) (nd : Nat) : Prop := 1 ≤ nd ∧ DSok N f ∧ CS N cs f nd ∧ CSp N cs f nd
def gB (N : Nat) (c : Nat) (cs : tCd) (g : tDB) (nd : Nat) : Prop := 1 ≤ nd ∧ CB N c cs g nd ∧ CBp N c cs g nd
theorem gS_op {N p n1 n2 : Nat} {cs1 cs2 : tCd} {f1 f2 : tDS} (hp : 5 ≤ p) (hp2 : p ≤ 9) (h1 : gS N cs1 f1 n1) (h2 : gS N cs2 f2 n2) : gS N (cs1 ++ (cs2 ++ [(p, 0)])) (opS p f1 f2) (n1 + n2) := by
  obtain ⟨a1, a2, a3, a4⟩ := h1
  obtain ⟨b1, b2, b3, b4⟩ := h2
  refine ⟨by omega, fun W hW v hv => ?_, CS_op hp hp2 a1 b1 a2 b2 a3 b3, CS_opp hp hp2 a1 b1 a2 b2 a4 b4⟩
  unfold opS at hv
  cases e1 : f1 W with
  | none => rw [e1] at hv; cases hv
  | some x =>
    cases e2 : f2 W with
    | none => rw [e1, e2] at hv; cases hv
    | some y => rw [e1, e2] at hv; exact opv_in hv
theorem gB_cmp {N p n1 n2 c : Nat} {cs1 cs2 : tCd} {f1 f2 : tDS} (hp : 10 ≤ p) (hp2 : p ≤ 12) (h1 : gS N cs1 f1 n1) (h2 : gS N cs2 f2 n2) : gB N c (cs1 ++ (cs2 ++ [(p, 0)])) (cmpS p f1 f2) (n1 + n2) := by
  obtain ⟨a1, a2, a3, a4⟩ := h1
  obtain ⟨b1, b2, b3, b4⟩ := h2
  exact ⟨by omega, CB_cmp hp hp2 a1 b1 a2 b2 a3 b3, CB_cmpp hp hp2 a1 b1 a2 b2 a4 b4⟩
theorem notD_f (g : tDB) : notD false g = g := by
  funext W
  unfold notD
  cases g W with
  | none => rfl
  | some b => cases b <;> rfl
theorem gB_not {N n c : Nat} {cs : tCd} {g : tDB} (p : Bool) (h1 : gB N c cs g n) : gB N c (cs ++ notC p) (notD p g) n := by
  obtain ⟨a1, a2, a3⟩ := h1
  cases p with
  | true => exact ⟨a1, CB_not a1 a2, CB_notp a1 a3⟩
  | false => rw [notD_f, show notC false = [] from rfl, List.append_nil]; exact ⟨a1, a2, a3⟩
theorem mulOp_in {c : Nat} (h : ¬ mulOp c = 0) : 5 ≤ mulOp c ∧ mulOp c ≤ 9 := by
  unfold mulOp at *
  repeat' split at h
  all_goals first | (exact absurd rfl h) | skip
  · rw [if_pos (by assumption)]; omega
  · rw [if_neg (by assumption), if_pos (by assumption)]; omega
  · rw [if_neg (by assumption), if_neg (by assumption), if_pos (by assumption)]; omega
theorem addOp_in {c : Nat} (h : ¬ addOp c = 0) : 5 ≤ addOp c ∧ addOp c ≤ 9 := by
  unfold addOp at *
  repeat' split at h
  all_goals first | (exact absurd rfl h) | skip
  · rw [if_pos (by assumption)]; omega
  · rw [if_neg (by assumption), if_pos (by assumption)]; omega
theorem cmpOp_in {c : Nat} (h : ¬ cmpOp c = 0) : 10 ≤ cmpOp c ∧ cmpOp c ≤ 12 := by
  unfold cmpOp at *
  repeat' split at h
  all_goals first | (exact absurd rfl h) | skip
  · rw [if_pos (by assumption)]; omega
  · rw [if_neg (by assumption), if_pos (by assumption)]; omega
  · rw [if_neg (by assumption), if_neg (by assumption), if_pos (by assumption)]; omega
theorem wdi_lt (c : Nat) : wdi c < 19 := by
  unfold wdi
  repeat' split
  all_goals omega
theorem isLf_50 {o : Bool} {v : Nat} (h : isLf o 50 v = true) : v ≤ 1000 := by
  unfold isLf at h
  cases o <;> simp at h <;> omega
theorem wdi_9 : ∀ c, 8 ≤ c → c ≤ 16 → wdi c < 9 := by
  intro c h1 h2
  have : c = 8 ∨ c = 9 ∨ c = 10 ∨ c = 11 ∨ c = 12 ∨ c = 13 ∨ c = 14 ∨ c = 15 ∨ c = 16 := by omega
  rcases this with rfl | rfl | rfl | rfl | rfl | rfl | rfl | rfl | rfl <;> decide
theorem nw_t : nw true = 19 := rfl
theorem nw_f : nw false = 9 := rfl
section PR
variable {o : Bool} {C V : Nat → Nat}
theorem pLf_g {k l : Nat} {r : Nat × Nat × tDS × tCd} (h : pLf o C V k l = some (.ok r)) : gS (nw o) r.2.2.2 r.2.2.1 (r.2.1 - l) ∧ r.2.1 = l + 1 ∧ l < 50 ∧ k < r.1 ∧ r.2.2.2.length = 1 := by
  unfold pLf at h
  split at h
  · cases h
  split at h
  · cases h
  rename_i h1 h2
  split at h
  · rename_i h3
    cases h
    have hv : V k ≤ 1000 := isLf_50 (o := o) (by rw [← h3]; cases hh : isLf o (C k) (V k) with
      | true => rfl
      | false => exact absurd hh h1)
    refine ⟨⟨(show 1 ≤ l + 1 - l by omega), fun W hW v hv' => by cases hv'; unfold inB; omega, ?_, ?_⟩, rfl, by omega, Nat.lt_succ_self k, rfl⟩
    · rw [show l + 1 - l = 1 by omega]; exact CS_num hv
    · rw [show l + 1 - l = 1 by omega]; exact CS_nump hv
  split at h
  · rename_i hot
    split at h
    · rename_i h4
      cases h
      have ot : o = true := hot.1
      refine ⟨⟨(show 1 ≤ l + 1 - l by omega), fun W hW v hv' => by cases hv'; rw [ot, nw_t] at hW; exact hW _ (fun _ => by omega) (by omega), ?_, ?_⟩, rfl, by omega, (show k < k + 2 by omega), rfl⟩
      · rw [show l + 1 - l = 1 by omega]; exact CS_wrd (by omega)
      · rw [show l + 1 - l = 1 by omega]; exact CS_wrdp (by omega)
    · cases h
  · cases h
    rename_i h3 hno
    have hwd : wdi (C k) < nw o := by
      cases o with
      | true => exact wdi_lt _
      | false =>
        have h1' : isLf false (C k) (V k) = true := by
          cases hh : isLf false (C k) (V k) with
          | true => rfl
          | false => exact absurd hh h1
        unfold isLf at h1'
        rw [decide_eq_false h3, Bool.false_and, Bool.false_or] at h1'
        simp only [Bool.false_eq_true, if_false, Bool.and_eq_true, decide_eq_true_eq] at h1'
        exact wdi_9 _ h1'.1 h1'.2
    have hw5 : nw o = 19 → 5 ≤ wdi (C k) := by
      cases o with
      | false => intro e; exact absurd e (by decide)
      | true =>
        intro _
        have h1' : isLf true (C k) (V k) = true := by
          cases hh : isLf true (C k) (V k) with
          | true => rfl
          | false => exact absurd hh h1
        unfold isLf at h1'
        rw [decide_eq_false h3, Bool.false_and, Bool.false_or] at h1'
        simp only [if_true, Bool.and_eq_true, decide_eq_true_eq] at h1'
        have n12 : ¬ C k = 12 := fun e => hno ⟨rfl, e⟩
        have : C k = 13 ∨ C k = 14 ∨ C k = 15 ∨ C k = 16 ∨ C k = 17 ∨ C k = 18 := by omega
        rcases this with e | e | e | e | e | e <;> rw [e] <;> decide
    refine ⟨⟨(show 1 ≤ l + 1 - l by omega), fun W hW v hv' => by cases hv'; exact hW _ hw5 hwd, ?_, ?_⟩, rfl, by omega, Nat.lt_succ_self k, rfl⟩
    · rw [show l + 1 - l = 1 by omega]; exact CS_wrd (wdi_lt _)
    · rw [show l + 1 - l = 1 by omega]; exact CS_wrdp (wdi_lt _)
/-- what reads as a sum: its code, how many parts, how many tokens -/
theorem pS_g : ∀ n,
    (∀ d k l f cs r, pS o C V n 0 d k l f cs = some (.ok r) → gS (nw o) r.2.2.2 r.2.2.1 (r.2.1 - l) ∧ l < r.2.1 ∧ r.2.1 ≤ 50 ∧ k < r.1 ∧ k + r.2.2.2.length ≤ r.1) ∧
    (∀ d k l f cs r, pS o C V n 1 d k l f cs = some (.ok r) → gS (nw o) r.2.2.2 r.2.2.1 (r.2.1 - l) ∧ l < r.2.1 ∧ r.2.1 ≤ 50 ∧ k < r.1 ∧ k + r.2.2.2.length ≤ r.1) ∧
    (∀ d k l f cs r nd, l ≤ 50 → gS (nw o) cs f nd → pS o C V n 2 d k l f cs = some (.ok r) → gS (nw o) r.2.2.2 r.2.2.1 (nd + (r.2.1 - l)) ∧ l ≤ r.2.1 ∧ r.2.1 ≤ 50 ∧ k ≤ r.1 ∧ k + r.2.2.2.length ≤ r.1 + cs.length) ∧
    (∀ d k l f cs r nd, l ≤ 50 → gS (nw o) cs f nd → pS o C V n 3 d k l f cs = some (.ok r) → gS (nw o) r.2.2.2 r.2.2.1 (nd + (r.2.1 - l)) ∧ l ≤ r.2.1 ∧ r.2.1 ≤ 50 ∧ k ≤ r.1 ∧ k + r.2.2.2.length ≤ r.1 + cs.length)
  | 0 => ⟨fun _ _ _ _ _ _ h => (by cases h), fun _ _ _ _ _ _ h => (by cases h), fun _ _ _ _ _ _ _ _ _ h => (by cases h), fun _ _ _ _ _ _ _ _ _ h => (by cases h)⟩
  | n + 1 => by
    obtain ⟨i0, i1, i2, i3⟩ := pS_g n
    refine ⟨fun d k l f cs r h => ?_, fun d k l f cs r h => ?_, fun d k l f cs r nd hl hg h => ?_, fun d k l f cs r nd hl hg h => ?_⟩
    · unfold pS at h
      split at h
      · split at h
        · cases h
        · obtain ⟨a, e1, e2⟩ := bnd_iok h
          obtain ⟨g1, g2, g3, g4, g5⟩ := i1 _ _ _ _ _ _ e1
          split at e2
          · cases e2
            exact ⟨g1, g2, g3, by show k < a.1 + 1; omega, by show k + a.2.2.2.length ≤ a.1 + 1; omega⟩
          · cases e2
      · obtain ⟨g1, g2, g3, g4, g5⟩ := pLf_g h
        exact ⟨g1, by omega, by omega, g4, by omega⟩
    · unfold pS at h
      obtain ⟨a, e1, e2⟩ := bnd_iok h
      obtain ⟨b, e3, e4⟩ := bnd_iok e2
      obtain ⟨g1, g2, g3, g4, g5⟩ := i0 _ _ _ _ _ _ e1
      obtain ⟨g6, g7, g8, g9, g10⟩ := i2 _ _ _ _ _ _ _ g3 g1 e3
      obtain ⟨g11, g12, g13, g14, g15⟩ := i3 _ _ _ _ _ _ _ g8 g6 e4
      rw [show a.2.1 - l + (b.2.1 - a.2.1) + (r.2.1 - b.2.1) = r.2.1 - l by omega] at g11
      exact ⟨g11, by omega, g13, by omega, by omega⟩
    · unfold pS at h
      split at h
      · cases h
        rw [Nat.sub_self, Nat.add_zero]
        exact ⟨hg, Nat.le_refl _, hl, Nat.le_refl _, Nat.le_refl _⟩
      · rename_i hm
        obtain ⟨a, e1, e2⟩ := bnd_iok h
        obtain ⟨g1, g2, g3, g4, g5⟩ := i0 _ _ _ _ _ _ e1
        obtain ⟨m1, m2⟩ := mulOp_in hm
        obtain ⟨g6, g7, g8, g9, g10⟩ := i2 _ _ _ _ _ _ _ g3 (gS_op m1 m2 hg g1) e2
        rw [show nd + (a.2.1 - l) + (r.2.1 - a.2.1) = nd + (r.2.1 - l) by omega] at g6
        simp only [List.length_append, List.length_cons, List.length_nil] at g10
        exact ⟨g6, by omega, g8, by omega, by omega⟩
    · unfold pS at h
      split at h
      · cases h
        rw [Nat.sub_self, Nat.add_zero]
        exact ⟨hg, Nat.le_refl _, hl, Nat.le_refl _, Nat.le_refl _⟩
      · rename_i hm
        obtain ⟨a, e1, e2⟩ := bnd_iok h
        obtain ⟨b, e3, e4⟩ := bnd_iok e2
        obtain ⟨g1, g2, g3, g4, g5⟩ := i0 _ _ _ _ _ _ e1
        obtain ⟨g6, g7, g8, g9, g10⟩ := i2 _ _ _ _ _ _ _ g3 g1 e3
        obtain ⟨m1, m2⟩ := addOp_in hm
        obtain ⟨g11, g12, g13, g14, g15⟩ := i3 _ _ _ _ _ _ _ g8 (gS_op m1 m2 hg g6) e4
        rw [show nd + (a.2.1 - l + (b.2.1 - a.2.1)) + (r.2.1 - b.2.1) = nd + (r.2.1 - l) by omega] at g11
        simp only [List.length_append, List.length_cons, List.length_nil] at g15
        exact ⟨g11, by omega, g13, by omega, by omega⟩
theorem pB_g : ∀ n,
    (∀ p d k l c g cs r, pB o C V n 0 p d k l c g cs = some (.ok r) → gB (nw o) c r.2.2.2 r.2.2.1 (r.2.1 - l) ∧ l < r.2.1 ∧ r.2.1 ≤ 50 ∧ k < r.1 ∧ k + r.2.2.2.length ≤ r.1 + (if p = true then 1 else 0)) ∧
    (∀ p d k l c g cs r, pB o C V n 1 p d k l c g cs = some (.ok r) → gB (nw o) c r.2.2.2 r.2.2.1 (r.2.1 - l) ∧ l < r.2.1 ∧ r.2.1 ≤ 50 ∧ k < r.1 ∧ k + r.2.2.2.length ≤ r.1) ∧
    (∀ p d k l c g cs r nd, l ≤ 50 → gB (nw o) c cs g nd → pB o C V n 2 p d k l c g cs = some (.ok r) → gB (nw o) c r.2.2.2 r.2.2.1 (nd + (r.2.1 - l)) ∧ l ≤ r.2.1 ∧ r.2.1 ≤ 50 ∧ k ≤ r.1 ∧ k + r.2.2.2.length ≤ r.1 + cs.length) ∧
    (∀ p d k l c g cs r nd, l ≤ 50 → gB (nw o) c cs g nd → pB o C V n 3 p d k l c g cs = some (.ok r) → gB (nw o) c r.2.2.2 r.2.2.1 (nd + (r.2.1 - l)) ∧ l ≤ r.2.1 ∧ r.2.1 ≤ 50 ∧ k ≤ r.1 ∧ k + r.2.2.2.length ≤ r.1 + cs.length)
  | 0 => ⟨fun _ _ _ _ _ _ _ _ h => (by cases h), fun _ _ _ _ _ _ _ _ h => (by cases h), fun _ _ _ _ _ _ _ _ _ _ _ h => (by cases h), fun _ _ _ _ _ _ _ _ _ _ _ h => (by cases h)⟩
  | n + 1 => by
    obtain ⟨i0, i1, i2, i3⟩ := pB_g n
    have s1 := (pS_g (o := o) (C := C) (V := V) n).2.1
    have nl : ∀ p, (notC p).length = if p = true then 1 else 0 := fun p => by cases p <;> rfl
    refine ⟨fun p d k l c g cs r h => ?_, fun p d k l c g cs r h => ?_, fun p d k l c g cs r nd hl hg h => ?_, fun p d k l c g cs r nd hl hg h => ?_⟩
    · unfold pB at h
      split at h
      · obtain ⟨g1, g2, g3, g4, g5⟩ := i0 _ _ _ _ _ _ _ _ h
        refine ⟨g1, g2, g3, by omega, ?_⟩
        have : (if (!p) = true then 1 else 0) ≤ 1 := by split <;> omega
        cases p <;> simp at g5 ⊢ <;> omega
      split at h
      · split at h
        · cases h
        · obtain ⟨a, e1, e2⟩ := bnd_iok h
          obtain ⟨g1, g2, g3, g4, g5⟩ := i1 _ _ _ _ _ _ _ _ e1
          split at e2
          · cases e2
            refine ⟨gB_not p g1, g2, g3, by show k < a.1 + 1; omega, ?_⟩
            show k + (a.2.2.2 ++ notC p).length ≤ a.1 + 1 + _
            rw [List.length_append, nl]
            omega
          · cases e2
      · obtain ⟨a, e1, e2⟩ := bnd_iok h
        obtain ⟨g1, g2, g3, g4, g5⟩ := s1 _ _ _ _ _ _ e1
        split at e2
        · cases e2
        · rename_i hm
          obtain ⟨b, e3, e4⟩ := bnd_iok e2
          obtain ⟨g6, g7, g8, g9, g10⟩ := s1 _ _ _ _ _ _ e3
          cases e4
          obtain ⟨m1, m2⟩ := cmpOp_in hm
          have := gB_not (c := c) p (gB_cmp m1 m2 g1 g6)
          rw [show a.2.1 - l + (b.2.1 - a.2.1) = b.2.1 - l by omega, List.append_assoc, List.append_assoc] at this
          refine ⟨this, by show l < b.2.1; omega, g8, by show k < b.1; omega, ?_⟩
          show k + (a.2.2.2 ++ (b.2.2.2 ++ ((cmpOp (C a.1), 0) :: notC p))).length ≤ b.1 + _
          rw [List.length_append, List.length_append, List.length_cons, nl]
          omega
    · unfold pB at h
      obtain ⟨a, e1, e2⟩ := bnd_iok h
      obtain ⟨b, e3, e4⟩ := bnd_iok e2
      obtain ⟨g1, g2, g3, g4, g5⟩ := i0 _ _ _ _ _ _ _ _ e1
      obtain ⟨g6, g7, g8, g9, g10⟩ := i2 _ _ _ _ _ _ _ _ _ g3 g1 e3
      obtain ⟨g11, g12, g13, g14, g15⟩ := i3 _ _ _ _ _ _ _ _ _ g8 g6 e4
      rw [show a.2.1 - l + (b.2.1 - a.2.1) + (r.2.1 - b.2.1) = r.2.1 - l by omega] at g11
      simp at g5
      exact ⟨g11, by omega, g13, by omega, by omega⟩
    · unfold pB at h
      split at h
      · obtain ⟨a, e1, e2⟩ := bnd_iok h
        obtain ⟨g1, g2, g3, g4, g5⟩ := i0 _ _ _ _ _ _ _ _ e1
        obtain ⟨h1, h2, h3⟩ := hg
        obtain ⟨h4, h5, h6⟩ := g1
        obtain ⟨g6, g7, g8, g9, g10⟩ := i2 _ _ _ _ _ _ _ _ _ g3 ⟨by omega, CB_and h1 h2 h5, CB_andp h1 h3 h6⟩ e2
        rw [show nd + (a.2.1 - l) + (r.2.1 - a.2.1) = nd + (r.2.1 - l) by omega] at g6
        simp only [List.length_append, List.length_cons] at g10
        simp at g5
        exact ⟨g6, by omega, g8, by omega, by omega⟩
      · cases h
        rw [Nat.sub_self, Nat.add_zero]
        exact ⟨hg, Nat.le_refl _, hl, Nat.le_refl _, Nat.le_refl _⟩
    · unfold pB at h
      split at h
      · obtain ⟨a, e1, e2⟩ := bnd_iok h
        obtain ⟨b, e3, e4⟩ := bnd_iok e2
        obtain ⟨g1, g2, g3, g4, g5⟩ := i0 _ _ _ _ _ _ _ _ e1
        obtain ⟨g6, g7, g8, g9, g10⟩ := i2 _ _ _ _ _ _ _ _ _ g3 g1 e3
        obtain ⟨h1, h2, h3⟩ := hg
        obtain ⟨h4, h5, h6⟩ := g6
        obtain ⟨g11, g12, g13, g14, g15⟩ := i3 _ _ _ _ _ _ _ _ _ g8 ⟨by omega, CB_or h1 h2 h5, CB_orp h1 h3 h6⟩ e4
        rw [show nd + (a.2.1 - l + (b.2.1 - a.2.1)) + (r.2.1 - b.2.1) = nd + (r.2.1 - l) by omega] at g11
        simp only [List.length_append, List.length_cons] at g15
        simp at g5
        exact ⟨g11, by omega, g13, by omega, by omega⟩
      · cases h
        rw [Nat.sub_self, Nat.add_zero]
        exact ⟨hg, Nat.le_refl _, hl, Nat.le_refl _, Nat.le_refl _⟩
end PR
