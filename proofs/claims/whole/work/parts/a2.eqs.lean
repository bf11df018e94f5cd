/-! THE READERS' EQUATIONS, without fuel -/
def RS (o : Bool) (C V : Nat → Nat) (md d k l : Nat) (f : tDS) (cs : tCd) : tRS := pS o C V 2200 md d k l f cs
def RB (o : Bool) (C V : Nat → Nat) (md : Nat) (p : Bool) (d k l c : Nat) (g : tDB) (cs : tCd) : tRB := pB o C V 2200 md p d k l c g cs
def RC (o : Bool) (C V : Nat → Nat) (k l c : Nat) : Option (Except Nat (Nat × Nat × tCl)) := pC o C V 2200 k l c
def RX (o : Bool) (C V : Nat → Nat) (T m k l c : Nat) (acc : List tCl) : Option (Except Nat (List tCl)) := pX o C V T 2200 m k l c acc
theorem bnd_cg {α β : Type} {x x' : Option (Except Nat α)} {g g' : α → Option (Except Nat β)} (h : x = x') (hg : ∀ a, x = some (.ok a) → g a = g' a) : bnd x g = bnd x' g' := by
  subst h
  match x, hg with
  | none, _ => rfl
  | some (.error e), _ => rfl
  | some (.ok a), hg => exact hg a rfl
section EQ
variable {o : Bool} {C V : Nat → Nat} {N : Nat}
theorem stSS (hN : ∀ k, N ≤ k → C k = 0) (h4 : N ≤ 400) {md d k l : Nat} {f : tDS} {cs : tCd} (hk : k ≤ N) (hm : md ≤ 3) : pS o C V 2199 md d k l f cs = RS o C V md d k l f cs := by
  have ht := pS_t (o := o) (V := V) hN (N - k) k hk (Nat.le_refl _)
  have t : okO (pS o C V 2199 md d k l f cs) := by
    have : md = 0 ∨ md = 1 ∨ md = 2 ∨ md = 3 := by omega
    rcases this with rfl | rfl | rfl | rfl
    · exact ht.1 _ _ _ _ _ (by omega)
    · exact ht.2.1 _ _ _ _ _ (by omega)
    · exact ht.2.2.1 _ _ _ _ _ (by omega)
    · exact ht.2.2.2 _ _ _ _ _ (by omega)
  exact (st_n (x := fun n => pS o C V n md d k l f cs) (fun n => pS_up n _ _ _ _ _ _) (n := 2199) (m := 2200) t (by omega)).symm
theorem stBB (hN : ∀ k, N ≤ k → C k = 0) (h4 : N ≤ 400) {md d k l c : Nat} {p : Bool} {g : tDB} {cs : tCd} (hk : k ≤ N) (hm : md ≤ 3) : pB o C V 2199 md p d k l c g cs = RB o C V md p d k l c g cs := by
  have ht := pB_t (o := o) (V := V) hN (N - k) k hk (Nat.le_refl _)
  have t : okO (pB o C V 2199 md p d k l c g cs) := by
    have : md = 0 ∨ md = 1 ∨ md = 2 ∨ md = 3 := by omega
    rcases this with rfl | rfl | rfl | rfl
    · exact ht.1 _ _ _ _ _ _ _ (by omega)
    · exact ht.2.1 _ _ _ _ _ _ _ (by omega)
    · exact ht.2.2.1 _ _ _ _ _ _ _ (by omega)
    · exact ht.2.2.2 _ _ _ _ _ _ _ (by omega)
  exact (st_n (x := fun n => pB o C V n md p d k l c g cs) (fun n => pB_up n _ _ _ _ _ _ _ _) (n := 2199) (m := 2200) t (by omega)).symm
theorem RS_pr (hN : ∀ k, N ≤ k → C k = 0) {md d k l : Nat} {f : tDS} {cs : tCd} {r : Nat × Nat × tDS × tCd} (h : RS o C V md d k l f cs = some (.ok r)) (hk : k ≤ N) : r.1 ≤ N ∧ (md ≤ 1 → k < r.1 ∧ r.2.2.2.length ≤ r.1 - k) ∧ (2 ≤ md → k ≤ r.1 ∧ r.2.2.2.length ≤ cs.length + (r.1 - k)) := pS_pr hN 2200 md d k l f cs r h hk
theorem RB_pr (hN : ∀ k, N ≤ k → C k = 0) {md d k l c : Nat} {p : Bool} {g : tDB} {cs : tCd} {r : Nat × Nat × tDB × tCd} (h : RB o C V md p d k l c g cs = some (.ok r)) (hk : k ≤ N) : r.1 ≤ N ∧ (md = 0 → k < r.1 ∧ r.2.2.2.length ≤ r.1 - k + (if p = true then 1 else 0)) ∧ (md = 1 → k < r.1 ∧ r.2.2.2.length ≤ r.1 - k) ∧ (2 ≤ md → k ≤ r.1 ∧ r.2.2.2.length ≤ cs.length + (r.1 - k)) := pB_pr hN 2200 md p d k l c g cs r h hk
theorem RS_t (hN : ∀ k, N ≤ k → C k = 0) (h4 : N ≤ 400) {md d k l : Nat} {f : tDS} {cs : tCd} (hk : k ≤ N) (hm : md ≤ 3) : okO (RS o C V md d k l f cs) := by
  have ht := pS_t (o := o) (V := V) hN (N - k) k hk (Nat.le_refl _)
  have : md = 0 ∨ md = 1 ∨ md = 2 ∨ md = 3 := by omega
  rcases this with rfl | rfl | rfl | rfl
  · exact ht.1 _ _ _ _ _ (by omega)
  · exact ht.2.1 _ _ _ _ _ (by omega)
  · exact ht.2.2.1 _ _ _ _ _ (by omega)
  · exact ht.2.2.2 _ _ _ _ _ (by omega)
theorem RB_t (hN : ∀ k, N ≤ k → C k = 0) (h4 : N ≤ 400) {md d k l c : Nat} {p : Bool} {g : tDB} {cs : tCd} (hk : k ≤ N) (hm : md ≤ 3) : okO (RB o C V md p d k l c g cs) := by
  have ht := pB_t (o := o) (V := V) hN (N - k) k hk (Nat.le_refl _)
  have : md = 0 ∨ md = 1 ∨ md = 2 ∨ md = 3 := by omega
  rcases this with rfl | rfl | rfl | rfl
  · exact ht.1 _ _ _ _ _ _ _ (by omega)
  · exact ht.2.1 _ _ _ _ _ _ _ (by omega)
  · exact ht.2.2.1 _ _ _ _ _ _ _ (by omega)
  · exact ht.2.2.2 _ _ _ _ _ _ _ (by omega)
theorem kN_of (hN : ∀ k, N ≤ k → C k = 0) {k : Nat} (h : ¬ C k = 0) : k < N := Nat.not_le.mp (fun h2 => h (hN k h2))
theorem RS_0 (hN : ∀ k, N ≤ k → C k = 0) (h4 : N ≤ 400) {d k l : Nat} {f : tDS} {cs : tCd} : RS o C V 0 d k l f cs = if C k = 191 then (if 8 ≤ d then some (.error k) else bnd (RS o C V 1 (d + 1) (k + 1) l f []) fun r => if C r.1 = 193 then some (.ok (r.1 + 1, r.2)) else some (.error r.1)) else pLf o C V k l := by
  show (if C k = 191 then (if 8 ≤ d then some (.error k) else bnd (pS o C V 2199 1 (d + 1) (k + 1) l f []) fun r => if C r.1 = 193 then some (.ok (r.1 + 1, r.2)) else some (.error r.1)) else pLf o C V k l) = _
  by_cases c : C k = 191
  · have := kN_of hN (show ¬ C k = 0 by omega)
    rw [if_pos c, if_pos c, stSS hN h4 (by omega) (by omega)]
  · rw [if_neg c, if_neg c]
theorem RS_1 (hN : ∀ k, N ≤ k → C k = 0) (h4 : N ≤ 400) {d k l : Nat} {f : tDS} {cs : tCd} (hk : k ≤ N) : RS o C V 1 d k l f cs = bnd (RS o C V 0 d k l f []) fun r => bnd (RS o C V 2 d r.1 r.2.1 r.2.2.1 r.2.2.2) fun r => RS o C V 3 d r.1 r.2.1 r.2.2.1 r.2.2.2 := by
  show bnd (pS o C V 2199 0 d k l f []) (fun r => bnd (pS o C V 2199 2 d r.1 r.2.1 r.2.2.1 r.2.2.2) fun r => pS o C V 2199 3 d r.1 r.2.1 r.2.2.1 r.2.2.2) = _
  refine bnd_cg (stSS hN h4 hk (by omega)) (fun a ha => ?_)
  rw [stSS hN h4 hk (by omega)] at ha
  have a1 := (RS_pr hN ha hk).1
  refine bnd_cg (stSS hN h4 a1 (by omega)) (fun b hb => ?_)
  rw [stSS hN h4 a1 (by omega)] at hb
  exact stSS hN h4 (RS_pr hN hb a1).1 (by omega)
theorem RS_2 (hN : ∀ k, N ≤ k → C k = 0) (h4 : N ≤ 400) {d k l : Nat} {f : tDS} {cs : tCd} : RS o C V 2 d k l f cs = if mulOp (C k) = 0 then some (.ok (k, l, f, cs)) else bnd (RS o C V 0 d (k + 1) l f []) fun r => RS o C V 2 d r.1 r.2.1 (opS (mulOp (C k)) f r.2.2.1) (cs ++ (r.2.2.2 ++ [(mulOp (C k), 0)])) := by
  show (if mulOp (C k) = 0 then some (.ok (k, l, f, cs)) else bnd (pS o C V 2199 0 d (k + 1) l f []) fun r => pS o C V 2199 2 d r.1 r.2.1 (opS (mulOp (C k)) f r.2.2.1) (cs ++ (r.2.2.2 ++ [(mulOp (C k), 0)]))) = _
  by_cases c : mulOp (C k) = 0
  · rw [if_pos c, if_pos c]
  · have kN := kN_of hN (show ¬ C k = 0 from fun h => c (by rw [h]; rfl))
    rw [if_neg c, if_neg c]
    refine bnd_cg (stSS hN h4 (by omega) (by omega)) (fun a ha => ?_)
    rw [stSS hN h4 (by omega) (by omega)] at ha
    exact stSS hN h4 (RS_pr hN ha (by omega)).1 (by omega)
theorem RS_3 (hN : ∀ k, N ≤ k → C k = 0) (h4 : N ≤ 400) {d k l : Nat} {f : tDS} {cs : tCd} : RS o C V 3 d k l f cs = if addOp (C k) = 0 then some (.ok (k, l, f, cs)) else bnd (RS o C V 0 d (k + 1) l f []) fun r => bnd (RS o C V 2 d r.1 r.2.1 r.2.2.1 r.2.2.2) fun r => RS o C V 3 d r.1 r.2.1 (opS (addOp (C k)) f r.2.2.1) (cs ++ (r.2.2.2 ++ [(addOp (C k), 0)])) := by
  show (if addOp (C k) = 0 then some (.ok (k, l, f, cs)) else bnd (pS o C V 2199 0 d (k + 1) l f []) fun r => bnd (pS o C V 2199 2 d r.1 r.2.1 r.2.2.1 r.2.2.2) fun r => pS o C V 2199 3 d r.1 r.2.1 (opS (addOp (C k)) f r.2.2.1) (cs ++ (r.2.2.2 ++ [(addOp (C k), 0)]))) = _
  by_cases c : addOp (C k) = 0
  · rw [if_pos c, if_pos c]
  · have kN := kN_of hN (show ¬ C k = 0 from fun h => c (by rw [h]; rfl))
    rw [if_neg c, if_neg c]
    refine bnd_cg (stSS hN h4 (by omega) (by omega)) (fun a ha => ?_)
    rw [stSS hN h4 (by omega) (by omega)] at ha
    have a1 := (RS_pr hN ha (by omega)).1
    refine bnd_cg (stSS hN h4 a1 (by omega)) (fun b hb => ?_)
    rw [stSS hN h4 a1 (by omega)] at hb
    exact stSS hN h4 (RS_pr hN hb a1).1 (by omega)
theorem RB_0 (hN : ∀ k, N ≤ k → C k = 0) (h4 : N ≤ 400) {d k l c : Nat} {p : Bool} {g : tDB} {cs : tCd} (hk : k ≤ N) : RB o C V 0 p d k l c g cs = if C k = 7 then RB o C V 0 (!p) d (k + 1) l c g [] else if C k = 140 then (if 8 ≤ d then some (.error k) else bnd (RB o C V 1 false (d + 1) (k + 1) l c g []) fun r => if C r.1 = 141 then some (.ok (r.1 + 1, r.2.1, notD p r.2.2.1, r.2.2.2 ++ notC p)) else some (.error r.1)) else bnd (RS o C V 1 d k l (fun _ => none) []) fun r => if cmpOp (C r.1) = 0 then some (.error r.1) else bnd (RS o C V 1 d (r.1 + 1) r.2.1 (fun _ => none) []) fun s => some (.ok (s.1, s.2.1, notD p (cmpS (cmpOp (C r.1)) r.2.2.1 s.2.2.1), r.2.2.2 ++ (s.2.2.2 ++ ((cmpOp (C r.1), 0) :: notC p)))) := by
  show (if C k = 7 then pB o C V 2199 0 (!p) d (k + 1) l c g [] else if C k = 140 then (if 8 ≤ d then some (.error k) else bnd (pB o C V 2199 1 false (d + 1) (k + 1) l c g []) fun r => if C r.1 = 141 then some (.ok (r.1 + 1, r.2.1, notD p r.2.2.1, r.2.2.2 ++ notC p)) else some (.error r.1)) else bnd (pS o C V 2199 1 d k l (fun _ => none) []) fun r => if cmpOp (C r.1) = 0 then some (.error r.1) else bnd (pS o C V 2199 1 d (r.1 + 1) r.2.1 (fun _ => none) []) fun s => some (.ok (s.1, s.2.1, notD p (cmpS (cmpOp (C r.1)) r.2.2.1 s.2.2.1), r.2.2.2 ++ (s.2.2.2 ++ ((cmpOp (C r.1), 0) :: notC p))))) = _
  by_cases c1 : C k = 7
  · have := kN_of hN (show ¬ C k = 0 by omega)
    rw [if_pos c1, if_pos c1, stBB hN h4 (by omega) (by omega)]
  · rw [if_neg c1, if_neg c1]
    by_cases c2 : C k = 140
    · have := kN_of hN (show ¬ C k = 0 by omega)
      rw [if_pos c2, if_pos c2, stBB hN h4 (by omega) (by omega)]
    · rw [if_neg c2, if_neg c2]
      refine bnd_cg (stSS hN h4 hk (by omega)) (fun a ha => ?_)
      by_cases c3 : cmpOp (C a.1) = 0
      · rw [if_pos c3, if_pos c3]
      · have := kN_of hN (show ¬ C a.1 = 0 from fun h => c3 (by rw [h]; rfl))
        rw [if_neg c3, if_neg c3, stSS hN h4 (by omega) (by omega)]
theorem RB_1 (hN : ∀ k, N ≤ k → C k = 0) (h4 : N ≤ 400) {d k l c : Nat} {p : Bool} {g : tDB} {cs : tCd} (hk : k ≤ N) : RB o C V 1 p d k l c g cs = bnd (RB o C V 0 false d k l c g []) fun r => bnd (RB o C V 2 false d r.1 r.2.1 c r.2.2.1 r.2.2.2) fun r => RB o C V 3 false d r.1 r.2.1 c r.2.2.1 r.2.2.2 := by
  show bnd (pB o C V 2199 0 false d k l c g []) (fun r => bnd (pB o C V 2199 2 false d r.1 r.2.1 c r.2.2.1 r.2.2.2) fun r => pB o C V 2199 3 false d r.1 r.2.1 c r.2.2.1 r.2.2.2) = _
  refine bnd_cg (stBB hN h4 hk (by omega)) (fun a ha => ?_)
  rw [stBB hN h4 hk (by omega)] at ha
  have a1 := (RB_pr hN ha hk).1
  refine bnd_cg (stBB hN h4 a1 (by omega)) (fun b hb => ?_)
  rw [stBB hN h4 a1 (by omega)] at hb
  exact stBB hN h4 (RB_pr hN hb a1).1 (by omega)
theorem RB_2 (hN : ∀ k, N ≤ k → C k = 0) (h4 : N ≤ 400) {d k l c : Nat} {p : Bool} {g : tDB} {cs : tCd} : RB o C V 2 p d k l c g cs = if C k = 6 then bnd (RB o C V 0 false d (k + 1) l (c + cs.length + 1) g []) fun r => RB o C V 2 false d r.1 r.2.1 c (andD g r.2.2.1) (cs ++ ((3, c + cs.length + 1 + r.2.2.2.length) :: r.2.2.2)) else some (.ok (k, l, g, cs)) := by
  show (if C k = 6 then bnd (pB o C V 2199 0 false d (k + 1) l (c + cs.length + 1) g []) fun r => pB o C V 2199 2 false d r.1 r.2.1 c (andD g r.2.2.1) (cs ++ ((3, c + cs.length + 1 + r.2.2.2.length) :: r.2.2.2)) else some (.ok (k, l, g, cs))) = _
  by_cases c1 : C k = 6
  · have kN := kN_of hN (show ¬ C k = 0 by omega)
    rw [if_pos c1, if_pos c1]
    refine bnd_cg (stBB hN h4 (by omega) (by omega)) (fun a ha => ?_)
    rw [stBB hN h4 (by omega) (by omega)] at ha
    exact stBB hN h4 (RB_pr hN ha (by omega)).1 (by omega)
  · rw [if_neg c1, if_neg c1]
theorem RB_3 (hN : ∀ k, N ≤ k → C k = 0) (h4 : N ≤ 400) {d k l c : Nat} {p : Bool} {g : tDB} {cs : tCd} : RB o C V 3 p d k l c g cs = if C k = 5 then bnd (RB o C V 0 false d (k + 1) l (c + cs.length + 1) g []) fun r => bnd (RB o C V 2 false d r.1 r.2.1 (c + cs.length + 1) r.2.2.1 r.2.2.2) fun r => RB o C V 3 false d r.1 r.2.1 c (orD g r.2.2.1) (cs ++ ((4, c + cs.length + 1 + r.2.2.2.length) :: r.2.2.2)) else some (.ok (k, l, g, cs)) := by
  show (if C k = 5 then bnd (pB o C V 2199 0 false d (k + 1) l (c + cs.length + 1) g []) fun r => bnd (pB o C V 2199 2 false d r.1 r.2.1 (c + cs.length + 1) r.2.2.1 r.2.2.2) fun r => pB o C V 2199 3 false d r.1 r.2.1 c (orD g r.2.2.1) (cs ++ ((4, c + cs.length + 1 + r.2.2.2.length) :: r.2.2.2)) else some (.ok (k, l, g, cs))) = _
  by_cases c1 : C k = 5
  · have kN := kN_of hN (show ¬ C k = 0 by omega)
    rw [if_pos c1, if_pos c1]
    refine bnd_cg (stBB hN h4 (by omega) (by omega)) (fun a ha => ?_)
    rw [stBB hN h4 (by omega) (by omega)] at ha
    have a1 := (RB_pr hN ha (by omega)).1
    refine bnd_cg (stBB hN h4 a1 (by omega)) (fun b hb => ?_)
    rw [stBB hN h4 a1 (by omega)] at hb
    exact stBB hN h4 (RB_pr hN hb a1).1 (by omega)
  · rw [if_neg c1, if_neg c1]
/-- a clause, without fuel -/
def RSm (o : Bool) (C V : Nat → Nat) (k l kd : Nat) : tRS := if hasS o kd = true then RS o C V 1 0 k l (fun _ => none) [] else some (.ok (k, l, fun _ => some 1, []))
def RIf (o : Bool) (C V : Nat → Nat) (k l c : Nat) : tRB := if C k = 4 then RB o C V 1 false 0 (k + 1) l c (fun _ => none) [] else some (.ok (k, l, fun _ => some true, []))
theorem RC_e {k l c : Nat} : RC o C V k l c = if hdK o (C k) = 9 then some (.error k) else bnd (RSm o C V (k + 1) l (hdK o (C k))) fun r => bnd (pTm o C V r.1) fun t => bnd (RIf o C V t.1 r.2.1 (c + r.2.2.2.length)) fun b => some (.ok (b.1, b.2.1, hdK o (C k), t.2, r.2.2.2, b.2.2.2, r.2.2.1, b.2.2.1)) := rfl
theorem hdK_0 : hdK o 0 = 9 := by cases o <;> rfl
theorem pTm_pr (hN : ∀ k, N ≤ k → C k = 0) {k : Nat} {r : Nat × Nat} (hk : k ≤ N) (h : pTm o C V k = some (.ok r)) : k ≤ r.1 ∧ r.1 ≤ N ∧ 1 ≤ r.2 ∧ r.2 ≤ 20 := by
  unfold pTm at h
  split at h
  · split at h
    · rename_i c
      cases h
      have := kN_of hN (show ¬ C (k + 1) = 0 by omega)
      exact ⟨by simp, (by show k + 2 ≤ N; omega), c.2.1, c.2.2⟩
    · cases h
  · cases h
    exact ⟨Nat.le_refl _, hk, Nat.le_refl _, (by show 1 ≤ 20; omega)⟩
theorem pC_pr (hN : ∀ k, N ≤ k → C k = 0) {n k l c : Nat} {r : Nat × Nat × tCl} (hk : k ≤ N) (h : pC o C V n k l c = some (.ok r)) : k < r.1 ∧ r.1 ≤ N ∧ (cl_s r.2.2).length + (cl_b r.2.2).length ≤ r.1 - k - 1 := by
  unfold pC at h
  split at h
  · cases h
  · rename_i c1
    have kN := kN_of hN (show ¬ C k = 0 from fun h => c1 (by rw [h]; exact hdK_0))
    obtain ⟨a, h1, h2⟩ := bnd_iok h
    obtain ⟨t, h3, h4⟩ := bnd_iok h2
    obtain ⟨b, h5, h6⟩ := bnd_iok h4
    cases h6
    have a1 : k + 1 ≤ a.1 ∧ a.1 ≤ N ∧ a.2.2.2.length ≤ a.1 - (k + 1) := by
      unfold pSm at h1
      split at h1
      · obtain ⟨x1, x2, -⟩ := pS_pr hN n 1 _ _ _ _ _ _ h1 (by omega)
        have x2 := x2 (by omega)
        exact ⟨by omega, x1, by omega⟩
      · cases h1
        exact ⟨Nat.le_refl _, (by show k + 1 ≤ N; omega), by simp⟩
    have t1 := pTm_pr hN a1.2.1 h3
    have b1 : t.1 ≤ b.1 ∧ b.1 ≤ N ∧ b.2.2.2.length ≤ b.1 - t.1 := by
      unfold pIf at h5
      split at h5
      · rename_i c2
        have := kN_of hN (show ¬ C t.1 = 0 by omega)
        obtain ⟨x1, -, x2, -⟩ := pB_pr hN n 1 _ _ _ _ _ _ _ _ h5 (by omega)
        have x2 := x2 rfl
        exact ⟨by omega, x1, by omega⟩
      · cases h5
        exact ⟨Nat.le_refl _, t1.2.1, by simp⟩
    refine ⟨(by show k < b.1; omega), b1.2.1, ?_⟩
    show a.2.2.2.length + b.2.2.2.length ≤ b.1 - k - 1
    omega
theorem pC_up (n k l c : Nat) : lePO (pC o C V n k l c) (pC o C V (n + 1) k l c) := by
  unfold pC
  refine ite_le (lePO_rf _) (bnd_le ?_ (fun a => bnd_le (lePO_rf _) (fun t => bnd_le ?_ (fun b => lePO_rf _))))
  · unfold pSm
    exact ite_le (pS_up n _ _ _ _ _ _) (lePO_rf _)
  · unfold pIf
    exact ite_le (pB_up n _ _ _ _ _ _ _ _) (lePO_rf _)
theorem pC_t (hN : ∀ k, N ≤ k → C k = 0) {n k l c : Nat} (hk : k ≤ N) (hn : 5 * (N - k) + 8 ≤ n) : okO (pC o C V n k l c) := by
  unfold pC
  split
  · exact ⟨_, rfl⟩
  · rename_i c1
    have kN := kN_of hN (show ¬ C k = 0 from fun h => c1 (by rw [h]; exact hdK_0))
    have z1 : okO (pSm o C V n (k + 1) l (hdK o (C k))) := by
      unfold pSm
      split
      · exact pS_t1 hN (by omega) (by omega)
      · exact ⟨_, rfl⟩
    refine bnd_t z1 (fun a ha => ?_)
    have a1 : k + 1 ≤ a.1 ∧ a.1 ≤ N := by
      unfold pSm at ha
      split at ha
      · obtain ⟨x1, x2, -⟩ := pS_pr hN n 1 _ _ _ _ _ _ ha (by omega)
        have x2 := x2 (by omega)
        exact ⟨by omega, x1⟩
      · cases ha
        exact ⟨Nat.le_refl _, (by show k + 1 ≤ N; omega)⟩
    have z2 : okO (pTm o C V a.1) := by
      unfold pTm
      split
      · split <;> exact ⟨_, rfl⟩
      · exact ⟨_, rfl⟩
    refine bnd_t z2 (fun t ht => ?_)
    have t1 := pTm_pr hN a1.2 ht
    have z3 : okO (pIf o C V n t.1 a.2.1 (c + a.2.2.2.length)) := by
      unfold pIf
      split
      · rename_i c2
        have := kN_of hN (show ¬ C t.1 = 0 by omega)
        exact (pB_t hN (N - (t.1 + 1)) (t.1 + 1) (by omega) (Nat.le_refl _)).2.1 _ _ _ _ _ _ _ (by omega)
      · exact ⟨_, rfl⟩
    exact bnd_t z3 (fun b _ => ⟨_, rfl⟩)
theorem pX_up {T : Nat} : ∀ n m k l c acc, lePO (pX o C V T n m k l c acc) (pX o C V T (n + 1) m k l c acc)
  | 0, m, k, l, c, acc => fun r h => by cases h
  | n + 1, m, k, l, c, acc => bnd_le (pC_up n k l c) (fun r => ite_le (lePO_rf _) (ite_le (ite_le (lePO_rf _) (pX_up n _ _ _ _ _)) (lePO_rf _)))
theorem pX_t {T : Nat} (hN : ∀ k, N ≤ k → C k = 0) : ∀ n m k l c acc, k ≤ N → 5 * (N - k) + 9 ≤ n → okO (pX o C V T n m k l c acc)
  | 0, m, k, l, c, acc, _, h => by omega
  | n + 1, m, k, l, c, acc, hk, hn => by
    refine bnd_t (pC_t hN hk (by omega)) (fun r hr => ?_)
    have pr := pC_pr hN hk hr
    split
    · exact ⟨_, rfl⟩
    · split
      · rename_i c2
        have := kN_of hN (show ¬ C r.1 = 0 by omega)
        split
        · exact ⟨_, rfl⟩
        · exact pX_t hN n _ _ _ _ _ (by omega) (by omega)
      · exact ⟨_, rfl⟩
theorem RX_e {T m k l c : Nat} {acc : List tCl} (hN : ∀ k, N ≤ k → C k = 0) (h4 : N ≤ 400) (hk : k ≤ N) : RX o C V T m k l c acc = bnd (RC o C V k l c) fun r => if r.1 = T then some (.ok (acc ++ [r.2.2])) else if C r.1 = 159 then (if m = 11 then some (.error (r.1 + 1)) else RX o C V T (m + 1) (r.1 + 1) r.2.1 (c + (cl_s r.2.2).length + (cl_b r.2.2).length) (acc ++ [r.2.2])) else some (.error r.1) := by
  show bnd (pC o C V 2199 k l c) (fun r => if r.1 = T then some (.ok (acc ++ [r.2.2])) else if C r.1 = 159 then (if m = 11 then some (.error (r.1 + 1)) else pX o C V T 2199 (m + 1) (r.1 + 1) r.2.1 (c + (cl_s r.2.2).length + (cl_b r.2.2).length) (acc ++ [r.2.2])) else some (.error r.1)) = _
  refine bnd_cg (st_n (x := fun n => pC o C V n k l c) (fun n => pC_up n k l c) (n := 2199) (m := 2200) (pC_t hN hk (by omega)) (by omega)).symm (fun r hr => ?_)
  have pr := pC_pr hN hk hr
  by_cases c1 : r.1 = T
  · rw [if_pos c1, if_pos c1]
  · rw [if_neg c1, if_neg c1]
    by_cases c2 : C r.1 = 159
    · have := kN_of hN (show ¬ C r.1 = 0 by omega)
      rw [if_pos c2, if_pos c2]
      by_cases c3 : m = 11
      · rw [if_pos c3, if_pos c3]
      · rw [if_neg c3, if_neg c3]
        exact (st_n (x := fun n => pX o C V T n (m + 1) (r.1 + 1) r.2.1 (c + (cl_s r.2.2).length + (cl_b r.2.2).length) (acc ++ [r.2.2])) (fun n => pX_up n _ _ _ _ _) (n := 2199) (m := 2200) (pX_t hN _ _ _ _ _ _ (by omega) (by omega)) (by omega)).symm
    · rw [if_neg c2, if_neg c2]
theorem RC_pr (hN : ∀ k, N ≤ k → C k = 0) {k l c : Nat} {r : Nat × Nat × tCl} (hk : k ≤ N) (h : RC o C V k l c = some (.ok r)) : k < r.1 ∧ r.1 ≤ N ∧ (cl_s r.2.2).length + (cl_b r.2.2).length ≤ r.1 - k - 1 := pC_pr hN hk h
theorem RC_t (hN : ∀ k, N ≤ k → C k = 0) (h4 : N ≤ 400) {k l c : Nat} (hk : k ≤ N) : okO (RC o C V k l c) := pC_t hN hk (by omega)
end EQ
