/-! CODE: what stands on the stack behind it -/
def bI (b : Bool) : Int32 := nI (if b = true then 1 else 0)
def bW (N : Nat) (W : Nat → Int32) : Prop := ∀ i, (N = 19 → 5 ≤ i) → i < N → inB (W i).toInt
def nw (o : Bool) : Nat := if o = true then 19 else 9
def DSok (N : Nat) (f : tDS) : Prop := ∀ W, bW N W → ∀ v, f W = some v → inB v
def hold (A B : Nat → Int32) (c : Nat) (cs : tCd) : Prop := ∀ j q, cs[j]? = some q → A (c + j) = nI q.1 ∧ B (c + j) = nI q.2
theorem hold_cons {A B : Nat → Int32} {c : Nat} {q : Nat × Nat} {r : tCd} : hold A B c (q :: r) ↔ (A c = nI q.1 ∧ B c = nI q.2) ∧ hold A B (c + 1) r := by
  refine ⟨fun h => ⟨h 0 q rfl, fun j p hj => ?_⟩, fun h j p hj => ?_⟩
  · rw [show c + 1 + j = c + (j + 1) by omega]; exact h (j + 1) p hj
  · cases j with
    | zero => cases hj; exact h.1
    | succ j => rw [show c + (j + 1) = c + 1 + j by omega]; exact h.2 j p hj
theorem hold_app {A B : Nat → Int32} : ∀ {a b : tCd} {c : Nat}, hold A B c (a ++ b) ↔ hold A B c a ∧ hold A B (c + a.length) b
  | [], b, c => ⟨fun h => ⟨fun j q hj => by simp at hj, h⟩, fun h => h.2⟩
  | q :: a, b, c => by
    rw [List.cons_append, hold_cons, hold_cons, hold_app (a := a), List.length_cons, show c + (a.length + 1) = c + 1 + a.length by omega]
    simp only [and_assoc]
def cx (N Ls t a7 a8 m2 to : Nat) (I : Nat → Nat → Int32) (R : Nat → Nat → Option Nat) (X : List pKd) : Prop := txV Ls R X t a7 a8 m2 ∧ ¬ a7 = 47 ∧ ¬ a8 = 47 ∧ to ≤ m2 ∧ m2 ≤ 400 ∧ bW N (I 46)
def cxp (N Ls t a7 a8 m2 to : Nat) (I : Nat → Nat → Int32) (R : Nat → Nat → Option Nat) (X : List pKd) : Prop := txV Ls R X t a7 a8 m2 ∧ ¬ a7 = 51 ∧ ¬ a8 = 51 ∧ to ≤ m2 ∧ m2 ≤ 400 ∧ bW N (I 50)
section CO
variable {N : Nat}
/-- what code stands on the judge's stack for a sum -/
def CS (N : Nat) (cs : tCd) (f : tDS) (need : Nat) : Prop := ∀ (Ls d t a7 a8 m2 fr to : Nat) (I : Nat → Nat → Int32) (L : Nat → Nat → Int64) (R : Nat → Nat → Option Nat) (X : List pKd) (Q : Option Value → pHp → Prop) (c m : Nat) (S : Nat → Int32), cx N Ls t a7 a8 m2 to I R X → hold (I a7) (I a8) c cs → c + cs.length ≤ to → m + need ≤ 64 →
  (∀ v S', f (I 46) = some v → (∀ i, i < m → S' i = S i) → S' m = zI v → vr Ls d t fr to I L R X Q (m + 1) (c + cs.length) S') → (f (I 46) = none → ∀ S', Q (some (.int brk)) (p_mk Ls (p_fn I 47 S') L R X)) → vr Ls d t fr to I L R X Q m c S
/-- and for a test, from c on -/
def CB (N : Nat) (c : Nat) (cs : tCd) (g : tDB) (need : Nat) : Prop := ∀ (Ls d t a7 a8 m2 fr to : Nat) (I : Nat → Nat → Int32) (L : Nat → Nat → Int64) (R : Nat → Nat → Option Nat) (X : List pKd) (Q : Option Value → pHp → Prop) (m : Nat) (S : Nat → Int32), cx N Ls t a7 a8 m2 to I R X → hold (I a7) (I a8) c cs → c + cs.length ≤ to → m + need ≤ 64 →
  (∀ b S', g (I 46) = some b → (∀ i, i < m → S' i = S i) → S' m = bI b → vr Ls d t fr to I L R X Q (m + 1) (c + cs.length) S') → (g (I 46) = none → ∀ S', Q (some (.int brk)) (p_mk Ls (p_fn I 47 S') L R X)) → vr Ls d t fr to I L R X Q m c S
theorem CS_num {x : Nat} (hx : x ≤ 1000) : CS N [(0, x)] (fun _ => some (x : Int)) 1 := by
  intro Ls d t a7 a8 m2 fr to I L R X Q c m S cx hc hl hm H _
  obtain ⟨c1, c2, c3, c4, c5, c6⟩ := cx
  have hl : c + 1 ≤ to := hl
  obtain ⟨o1, o2⟩ := hc 0 _ rfl
  refine vs_num c1 c2 c3 (by omega) c4 c5 (by omega) (by omega) o1 o2 (H x _ rfl (fun i hi => ?_) ?_)
  · rw [upd_ne (by omega)]
  · rw [upd_eq]; rfl
theorem CS_wrd {x : Nat} (hx : x < 19) : CS N [(1, x)] (fun W => some (W x).toInt) 1 := by
  intro Ls d t a7 a8 m2 fr to I L R X Q c m S cx hc hl hm H _
  obtain ⟨c1, c2, c3, c4, c5, c6⟩ := cx
  have hl : c + 1 ≤ to := hl
  obtain ⟨o1, o2⟩ := hc 0 _ rfl
  refine vs_wrd c1 c2 c3 (by omega) c4 c5 (by omega) hx o1 o2 (H _ _ rfl (fun i hi => ?_) ?_)
  · rw [upd_ne (by omega)]
  · rw [upd_eq, zI_of]
theorem CS_op {p n1 n2 : Nat} {cs1 cs2 : tCd} {f1 f2 : tDS} (hp : 5 ≤ p) (hp2 : p ≤ 9) (h0 : 1 ≤ n1) (h02 : 1 ≤ n2) (b1 : DSok N f1) (b2 : DSok N f2) (h1 : CS N cs1 f1 n1) (h2 : CS N cs2 f2 n2) : CS N (cs1 ++ (cs2 ++ [(p, 0)])) (opS p f1 f2) (n1 + n2) := by
  intro Ls d t a7 a8 m2 fr to I L R X Q c m S cx hc hl hm H HN
  obtain ⟨k1, k2⟩ := hold_app.mp hc
  obtain ⟨k2, k3⟩ := hold_app.mp k2
  have e9 : (cs1 ++ (cs2 ++ [(p, 0)])).length = cs1.length + (cs2.length + 1) := by simp only [List.length_append, List.length_cons, List.length_nil]
  rw [e9] at hl H
  refine h1 Ls d t a7 a8 m2 fr to I L R X Q c m S cx k1 (by omega) (by omega) (fun v1 S1 e1 s1 s2 => ?_) (fun e1 S' => HN (by unfold opS; rw [e1]; rfl) S')
  refine h2 Ls d t a7 a8 m2 fr to I L R X Q _ _ S1 cx k2 (by omega) (by omega) (fun v2 S2 e2 s3 s4 => ?_) (fun e2 S' => HN (by unfold opS; rw [e1, e2]; rfl) S')
  obtain ⟨o1, o2⟩ := k3 0 _ rfl
  have ej : jo p v1 v2 = opS p f1 f2 (I 46) := by
    unfold opS jo; rw [e1, e2, if_pos (by omega)]; rfl
  obtain ⟨c1, c2, c3, c4, c5, c6⟩ := cx
  refine vs_op c1 c2 c3 (by omega) c4 c5 (by omega) hp (by omega) o1 o2 (a := v1) (b := v2) (by rw [s3 m (by omega)]; exact s2) s4 (b1 _ c6 _ e1) (b2 _ c6 _ e2) (fun v hv => ?_) (fun hv => HN (ej.symm.trans hv) _)
  have := H v (upd S2 m (zI v)) (ej.symm.trans hv) (fun i hi => by rw [upd_ne (by omega), s3 i (by omega), s1 i hi]) upd_eq
  rw [show c + (cs1.length + (cs2.length + 1)) = c + cs1.length + cs2.length + 1 by omega] at this
  exact this
theorem CB_cmp {p n1 n2 c : Nat} {cs1 cs2 : tCd} {f1 f2 : tDS} (hp : 10 ≤ p) (hp2 : p ≤ 12) (h0 : 1 ≤ n1) (h02 : 1 ≤ n2) (b1 : DSok N f1) (b2 : DSok N f2) (h1 : CS N cs1 f1 n1) (h2 : CS N cs2 f2 n2) : CB N c (cs1 ++ (cs2 ++ [(p, 0)])) (cmpS p f1 f2) (n1 + n2) := by
  intro Ls d t a7 a8 m2 fr to I L R X Q m S cx hc hl hm H HN
  obtain ⟨k1, k2⟩ := hold_app.mp hc
  obtain ⟨k2, k3⟩ := hold_app.mp k2
  have e9 : (cs1 ++ (cs2 ++ [(p, 0)])).length = cs1.length + (cs2.length + 1) := by simp only [List.length_append, List.length_cons, List.length_nil]
  rw [e9] at hl H
  refine h1 Ls d t a7 a8 m2 fr to I L R X Q c m S cx k1 (by omega) (by omega) (fun v1 S1 e1 s1 s2 => ?_) (fun e1 S' => HN (by unfold cmpS; rw [e1]; rfl) S')
  refine h2 Ls d t a7 a8 m2 fr to I L R X Q _ _ S1 cx k2 (by omega) (by omega) (fun v2 S2 e2 s3 s4 => ?_) (fun e2 S' => HN (by unfold cmpS; rw [e1, e2]; rfl) S')
  obtain ⟨o1, o2⟩ := k3 0 _ rfl
  have ej : jo p v1 v2 = some (if cmpv p v1 v2 = true then 1 else 0) := by
    unfold jo; rw [if_neg (by omega)]
  have eg : cmpS p f1 f2 (I 46) = some (cmpv p v1 v2) := by
    unfold cmpS; rw [e1, e2]; rfl
  obtain ⟨c1, c2, c3, c4, c5, c6⟩ := cx
  refine vs_op c1 c2 c3 (by omega) c4 c5 (by omega) (by omega) hp2 o1 o2 (a := v1) (b := v2) (by rw [s3 m (by omega)]; exact s2) s4 (b1 _ c6 _ e1) (b2 _ c6 _ e2) (fun v hv => ?_) (fun hv => by rw [ej] at hv; cases hv)
  rw [ej] at hv
  have := H (cmpv p v1 v2) (upd S2 m (zI v)) eg (fun i hi => by rw [upd_ne (by omega), s3 i (by omega), s1 i hi]) (by
    rw [upd_eq]
    cases hv
    cases cmpv p v1 v2 <;> rfl)
  rw [show c + (cs1.length + (cs2.length + 1)) = c + cs1.length + cs2.length + 1 by omega] at this
  exact this
theorem CB_not {n c : Nat} {cs : tCd} {g : tDB} (h0 : 1 ≤ n) (h1 : CB N c cs g n) : CB N c (cs ++ [(2, 0)]) (notD true g) n := by
  intro Ls d t a7 a8 m2 fr to I L R X Q m S cx hc hl hm H HN
  obtain ⟨k1, k2⟩ := hold_app.mp hc
  have e9 : (cs ++ [((2, 0) : Nat × Nat)]).length = cs.length + 1 := by simp only [List.length_append, List.length_cons, List.length_nil]
  rw [e9] at hl H
  refine h1 Ls d t a7 a8 m2 fr to I L R X Q m S cx k1 (by omega) (by omega) (fun b S1 e1 s1 s2 => ?_) (fun e1 S' => HN (by unfold notD; rw [e1]; rfl) S')
  obtain ⟨o1, o2⟩ := k2 0 _ rfl
  obtain ⟨c1, c2, c3, c4, c5, c6⟩ := cx
  refine vs_not c1 c2 c3 (by omega) c4 c5 (by omega) o1 o2 ?_
  have := H (xor b true) (upd S1 m (nI 1 - S1 m)) (by unfold notD; rw [e1]; rfl) (fun i hi => by rw [upd_ne (by omega), s1 i hi]) (by
    rw [upd_eq, s2]
    cases b <;> decide)
  rw [show c + (cs.length + 1) = c + cs.length + 1 by omega] at this
  exact this
theorem CB_and {n1 n2 c : Nat} {cs1 cs2 : tCd} {g1 g2 : tDB} (h0 : 1 ≤ n1) (h1 : CB N c cs1 g1 n1) (h2 : CB N (c + cs1.length + 1) cs2 g2 n2) : CB N c (cs1 ++ ((3, c + cs1.length + 1 + cs2.length) :: cs2)) (andD g1 g2) (n1 + n2) := by
  intro Ls d t a7 a8 m2 fr to I L R X Q m S cx hc hl hm H HN
  obtain ⟨k1, k2⟩ := hold_app.mp hc
  obtain ⟨⟨o1, o2⟩, k2⟩ := hold_cons.mp k2
  have e9 : (cs1 ++ ((3, c + cs1.length + 1 + cs2.length) :: cs2)).length = cs1.length + (cs2.length + 1) := by simp only [List.length_append, List.length_cons]
  rw [e9] at hl H
  refine h1 Ls d t a7 a8 m2 fr to I L R X Q m S cx k1 (by omega) (by omega) (fun b S1 e1 s1 s2 => ?_) (fun e1 S' => HN (by unfold andD; rw [e1]; rfl) S')
  have cx' := cx
  obtain ⟨c1, c2, c3, c4, c5, c6⟩ := cx'
  have hc9 : c + cs1.length + 1 + cs2.length < 65536 := by omega
  cases b with
  | false =>
    refine vs_set c1 c2 c3 (by omega) c4 c5 (by omega) (Or.inl rfl) (by omega) hc9 o1 o2 s2 ?_
    have := H false S1 (by unfold andD; rw [e1]; rfl) s1 s2
    rw [show c + (cs1.length + (cs2.length + 1)) = c + cs1.length + 1 + cs2.length by omega] at this
    exact this
  | true =>
    refine vs_uns c1 c2 c3 (by omega) c4 c5 (by omega) (Or.inl rfl) (show c + cs1.length < c + cs1.length + 1 + cs2.length by omega) hc9 o1 o2 s2 ?_
    have e3 : andD g1 g2 (I 46) = g2 (I 46) := by unfold andD; rw [e1]; rfl
    refine h2 Ls d t a7 a8 m2 fr to I L R X Q m S1 cx k2 (by omega) (by omega) (fun b2 S2 e2 s3 s4 => ?_) (fun e2 S' => HN (e3.trans e2) S')
    have := H b2 S2 (e3.trans e2) (fun i hi => by rw [s3 i hi, s1 i hi]) s4
    rw [show c + (cs1.length + (cs2.length + 1)) = c + cs1.length + 1 + cs2.length by omega] at this
    exact this
theorem CB_or {n1 n2 c : Nat} {cs1 cs2 : tCd} {g1 g2 : tDB} (h0 : 1 ≤ n1) (h1 : CB N c cs1 g1 n1) (h2 : CB N (c + cs1.length + 1) cs2 g2 n2) : CB N c (cs1 ++ ((4, c + cs1.length + 1 + cs2.length) :: cs2)) (orD g1 g2) (n1 + n2) := by
  intro Ls d t a7 a8 m2 fr to I L R X Q m S cx hc hl hm H HN
  obtain ⟨k1, k2⟩ := hold_app.mp hc
  obtain ⟨⟨o1, o2⟩, k2⟩ := hold_cons.mp k2
  have e9 : (cs1 ++ ((4, c + cs1.length + 1 + cs2.length) :: cs2)).length = cs1.length + (cs2.length + 1) := by simp only [List.length_append, List.length_cons]
  rw [e9] at hl H
  refine h1 Ls d t a7 a8 m2 fr to I L R X Q m S cx k1 (by omega) (by omega) (fun b S1 e1 s1 s2 => ?_) (fun e1 S' => HN (by unfold orD; rw [e1]; rfl) S')
  have cx' := cx
  obtain ⟨c1, c2, c3, c4, c5, c6⟩ := cx'
  have hc9 : c + cs1.length + 1 + cs2.length < 65536 := by omega
  cases b with
  | true =>
    refine vs_set c1 c2 c3 (by omega) c4 c5 (by omega) (Or.inr rfl) (by omega) hc9 o1 o2 s2 ?_
    have := H true S1 (by unfold orD; rw [e1]; rfl) s1 s2
    rw [show c + (cs1.length + (cs2.length + 1)) = c + cs1.length + 1 + cs2.length by omega] at this
    exact this
  | false =>
    refine vs_uns c1 c2 c3 (by omega) c4 c5 (by omega) (Or.inr rfl) (show c + cs1.length < c + cs1.length + 1 + cs2.length by omega) hc9 o1 o2 s2 ?_
    have e3 : orD g1 g2 (I 46) = g2 (I 46) := by unfold orD; rw [e1]; rfl
    refine h2 Ls d t a7 a8 m2 fr to I L R X Q m S1 cx k2 (by omega) (by omega) (fun b2 S2 e2 s3 s4 => ?_) (fun e2 S' => HN (e3.trans e2) S')
    have := H b2 S2 (e3.trans e2) (fun i hi => by rw [s3 i hi, s1 i hi]) s4
    rw [show c + (cs1.length + (cs2.length + 1)) = c + cs1.length + 1 + cs2.length by omega] at this
    exact this
end CO
section COp
variable {N : Nat}
/-- what code stands on the judge's stack for a sum -/
def CSp (N : Nat) (cs : tCd) (f : tDS) (need : Nat) : Prop := ∀ (Ls d t a7 a8 m2 fr to : Nat) (I : Nat → Nat → Int32) (L : Nat → Nat → Int64) (R : Nat → Nat → Option Nat) (X : List pKd) (Q : Option Value → pHp → Prop) (c m : Nat) (S : Nat → Int32), cxp N Ls t a7 a8 m2 to I R X → hold (I a7) (I a8) c cs → c + cs.length ≤ to → m + need ≤ 64 →
  (∀ v S', f (I 50) = some v → (∀ i, i < m → S' i = S i) → S' m = zI v → vrp Ls d t fr to I L R X Q (m + 1) (c + cs.length) S') → (f (I 50) = none → ∀ S', Q (some (.int brk)) (p_mk Ls (p_fn I 51 S') L R X)) → vrp Ls d t fr to I L R X Q m c S
/-- and for a test, from c on -/
def CBp (N : Nat) (c : Nat) (cs : tCd) (g : tDB) (need : Nat) : Prop := ∀ (Ls d t a7 a8 m2 fr to : Nat) (I : Nat → Nat → Int32) (L : Nat → Nat → Int64) (R : Nat → Nat → Option Nat) (X : List pKd) (Q : Option Value → pHp → Prop) (m : Nat) (S : Nat → Int32), cxp N Ls t a7 a8 m2 to I R X → hold (I a7) (I a8) c cs → c + cs.length ≤ to → m + need ≤ 64 →
  (∀ b S', g (I 50) = some b → (∀ i, i < m → S' i = S i) → S' m = bI b → vrp Ls d t fr to I L R X Q (m + 1) (c + cs.length) S') → (g (I 50) = none → ∀ S', Q (some (.int brk)) (p_mk Ls (p_fn I 51 S') L R X)) → vrp Ls d t fr to I L R X Q m c S
theorem CS_nump {x : Nat} (hx : x ≤ 1000) : CSp N [(0, x)] (fun _ => some (x : Int)) 1 := by
  intro Ls d t a7 a8 m2 fr to I L R X Q c m S cx hc hl hm H _
  obtain ⟨c1, c2, c3, c4, c5, c6⟩ := cx
  have hl : c + 1 ≤ to := hl
  obtain ⟨o1, o2⟩ := hc 0 _ rfl
  refine vs_nump c1 c2 c3 (by omega) c4 c5 (by omega) (by omega) o1 o2 (H x _ rfl (fun i hi => ?_) ?_)
  · rw [upd_ne (by omega)]
  · rw [upd_eq]; rfl
theorem CS_wrdp {x : Nat} (hx : x < 19) : CSp N [(1, x)] (fun W => some (W x).toInt) 1 := by
  intro Ls d t a7 a8 m2 fr to I L R X Q c m S cx hc hl hm H _
  obtain ⟨c1, c2, c3, c4, c5, c6⟩ := cx
  have hl : c + 1 ≤ to := hl
  obtain ⟨o1, o2⟩ := hc 0 _ rfl
  refine vs_wrdp c1 c2 c3 (by omega) c4 c5 (by omega) hx o1 o2 (H _ _ rfl (fun i hi => ?_) ?_)
  · rw [upd_ne (by omega)]
  · rw [upd_eq, zI_of]
theorem CS_opp {p n1 n2 : Nat} {cs1 cs2 : tCd} {f1 f2 : tDS} (hp : 5 ≤ p) (hp2 : p ≤ 9) (h0 : 1 ≤ n1) (h02 : 1 ≤ n2) (b1 : DSok N f1) (b2 : DSok N f2) (h1 : CSp N cs1 f1 n1) (h2 : CSp N cs2 f2 n2) : CSp N (cs1 ++ (cs2 ++ [(p, 0)])) (opS p f1 f2) (n1 + n2) := by
  intro Ls d t a7 a8 m2 fr to I L R X Q c m S cx hc hl hm H HN
  obtain ⟨k1, k2⟩ := hold_app.mp hc
  obtain ⟨k2, k3⟩ := hold_app.mp k2
  have e9 : (cs1 ++ (cs2 ++ [(p, 0)])).length = cs1.length + (cs2.length + 1) := by simp only [List.length_append, List.length_cons, List.length_nil]
  rw [e9] at hl H
  refine h1 Ls d t a7 a8 m2 fr to I L R X Q c m S cx k1 (by omega) (by omega) (fun v1 S1 e1 s1 s2 => ?_) (fun e1 S' => HN (by unfold opS; rw [e1]; rfl) S')
  refine h2 Ls d t a7 a8 m2 fr to I L R X Q _ _ S1 cx k2 (by omega) (by omega) (fun v2 S2 e2 s3 s4 => ?_) (fun e2 S' => HN (by unfold opS; rw [e1, e2]; rfl) S')
  obtain ⟨o1, o2⟩ := k3 0 _ rfl
  have ej : jo p v1 v2 = opS p f1 f2 (I 50) := by
    unfold opS jo; rw [e1, e2, if_pos (by omega)]; rfl
  obtain ⟨c1, c2, c3, c4, c5, c6⟩ := cx
  refine vs_opp c1 c2 c3 (by omega) c4 c5 (by omega) hp (by omega) o1 o2 (a := v1) (b := v2) (by rw [s3 m (by omega)]; exact s2) s4 (b1 _ c6 _ e1) (b2 _ c6 _ e2) (fun v hv => ?_) (fun hv => HN (ej.symm.trans hv) _)
  have := H v (upd S2 m (zI v)) (ej.symm.trans hv) (fun i hi => by rw [upd_ne (by omega), s3 i (by omega), s1 i hi]) upd_eq
  rw [show c + (cs1.length + (cs2.length + 1)) = c + cs1.length + cs2.length + 1 by omega] at this
  exact this
theorem CB_cmpp {p n1 n2 c : Nat} {cs1 cs2 : tCd} {f1 f2 : tDS} (hp : 10 ≤ p) (hp2 : p ≤ 12) (h0 : 1 ≤ n1) (h02 : 1 ≤ n2) (b1 : DSok N f1) (b2 : DSok N f2) (h1 : CSp N cs1 f1 n1) (h2 : CSp N cs2 f2 n2) : CBp N c (cs1 ++ (cs2 ++ [(p, 0)])) (cmpS p f1 f2) (n1 + n2) := by
  intro Ls d t a7 a8 m2 fr to I L R X Q m S cx hc hl hm H HN
  obtain ⟨k1, k2⟩ := hold_app.mp hc
  obtain ⟨k2, k3⟩ := hold_app.mp k2
  have e9 : (cs1 ++ (cs2 ++ [(p, 0)])).length = cs1.length + (cs2.length + 1) := by simp only [List.length_append, List.length_cons, List.length_nil]
  rw [e9] at hl H
  refine h1 Ls d t a7 a8 m2 fr to I L R X Q c m S cx k1 (by omega) (by omega) (fun v1 S1 e1 s1 s2 => ?_) (fun e1 S' => HN (by unfold cmpS; rw [e1]; rfl) S')
  refine h2 Ls d t a7 a8 m2 fr to I L R X Q _ _ S1 cx k2 (by omega) (by omega) (fun v2 S2 e2 s3 s4 => ?_) (fun e2 S' => HN (by unfold cmpS; rw [e1, e2]; rfl) S')
  obtain ⟨o1, o2⟩ := k3 0 _ rfl
  have ej : jo p v1 v2 = some (if cmpv p v1 v2 = true then 1 else 0) := by
    unfold jo; rw [if_neg (by omega)]
  have eg : cmpS p f1 f2 (I 50) = some (cmpv p v1 v2) := by
    unfold cmpS; rw [e1, e2]; rfl
  obtain ⟨c1, c2, c3, c4, c5, c6⟩ := cx
  refine vs_opp c1 c2 c3 (by omega) c4 c5 (by omega) (by omega) hp2 o1 o2 (a := v1) (b := v2) (by rw [s3 m (by omega)]; exact s2) s4 (b1 _ c6 _ e1) (b2 _ c6 _ e2) (fun v hv => ?_) (fun hv => by rw [ej] at hv; cases hv)
  rw [ej] at hv
  have := H (cmpv p v1 v2) (upd S2 m (zI v)) eg (fun i hi => by rw [upd_ne (by omega), s3 i (by omega), s1 i hi]) (by
    rw [upd_eq]
    cases hv
    cases cmpv p v1 v2 <;> rfl)
  rw [show c + (cs1.length + (cs2.length + 1)) = c + cs1.length + cs2.length + 1 by omega] at this
  exact this
theorem CB_notp {n c : Nat} {cs : tCd} {g : tDB} (h0 : 1 ≤ n) (h1 : CBp N c cs g n) : CBp N c (cs ++ [(2, 0)]) (notD true g) n := by
  intro Ls d t a7 a8 m2 fr to I L R X Q m S cx hc hl hm H HN
  obtain ⟨k1, k2⟩ := hold_app.mp hc
  have e9 : (cs ++ [((2, 0) : Nat × Nat)]).length = cs.length + 1 := by simp only [List.length_append, List.length_cons, List.length_nil]
  rw [e9] at hl H
  refine h1 Ls d t a7 a8 m2 fr to I L R X Q m S cx k1 (by omega) (by omega) (fun b S1 e1 s1 s2 => ?_) (fun e1 S' => HN (by unfold notD; rw [e1]; rfl) S')
  obtain ⟨o1, o2⟩ := k2 0 _ rfl
  obtain ⟨c1, c2, c3, c4, c5, c6⟩ := cx
  refine vs_notp c1 c2 c3 (by omega) c4 c5 (by omega) o1 o2 ?_
  have := H (xor b true) (upd S1 m (nI 1 - S1 m)) (by unfold notD; rw [e1]; rfl) (fun i hi => by rw [upd_ne (by omega), s1 i hi]) (by
    rw [upd_eq, s2]
    cases b <;> decide)
  rw [show c + (cs.length + 1) = c + cs.length + 1 by omega] at this
  exact this
theorem CB_andp {n1 n2 c : Nat} {cs1 cs2 : tCd} {g1 g2 : tDB} (h0 : 1 ≤ n1) (h1 : CBp N c cs1 g1 n1) (h2 : CBp N (c + cs1.length + 1) cs2 g2 n2) : CBp N c (cs1 ++ ((3, c + cs1.length + 1 + cs2.length) :: cs2)) (andD g1 g2) (n1 + n2) := by
  intro Ls d t a7 a8 m2 fr to I L R X Q m S cx hc hl hm H HN
  obtain ⟨k1, k2⟩ := hold_app.mp hc
  obtain ⟨⟨o1, o2⟩, k2⟩ := hold_cons.mp k2
  have e9 : (cs1 ++ ((3, c + cs1.length + 1 + cs2.length) :: cs2)).length = cs1.length + (cs2.length + 1) := by simp only [List.length_append, List.length_cons]
  rw [e9] at hl H
  refine h1 Ls d t a7 a8 m2 fr to I L R X Q m S cx k1 (by omega) (by omega) (fun b S1 e1 s1 s2 => ?_) (fun e1 S' => HN (by unfold andD; rw [e1]; rfl) S')
  have cx' := cx
  obtain ⟨c1, c2, c3, c4, c5, c6⟩ := cx'
  have hc9 : c + cs1.length + 1 + cs2.length < 65536 := by omega
  cases b with
  | false =>
    refine vs_setp c1 c2 c3 (by omega) c4 c5 (by omega) (Or.inl rfl) (by omega) hc9 o1 o2 s2 ?_
    have := H false S1 (by unfold andD; rw [e1]; rfl) s1 s2
    rw [show c + (cs1.length + (cs2.length + 1)) = c + cs1.length + 1 + cs2.length by omega] at this
    exact this
  | true =>
    refine vs_unsp c1 c2 c3 (by omega) c4 c5 (by omega) (Or.inl rfl) (show c + cs1.length < c + cs1.length + 1 + cs2.length by omega) hc9 o1 o2 s2 ?_
    have e3 : andD g1 g2 (I 50) = g2 (I 50) := by unfold andD; rw [e1]; rfl
    refine h2 Ls d t a7 a8 m2 fr to I L R X Q m S1 cx k2 (by omega) (by omega) (fun b2 S2 e2 s3 s4 => ?_) (fun e2 S' => HN (e3.trans e2) S')
    have := H b2 S2 (e3.trans e2) (fun i hi => by rw [s3 i hi, s1 i hi]) s4
    rw [show c + (cs1.length + (cs2.length + 1)) = c + cs1.length + 1 + cs2.length by omega] at this
    exact this
theorem CB_orp {n1 n2 c : Nat} {cs1 cs2 : tCd} {g1 g2 : tDB} (h0 : 1 ≤ n1) (h1 : CBp N c cs1 g1 n1) (h2 : CBp N (c + cs1.length + 1) cs2 g2 n2) : CBp N c (cs1 ++ ((4, c + cs1.length + 1 + cs2.length) :: cs2)) (orD g1 g2) (n1 + n2) := by
  intro Ls d t a7 a8 m2 fr to I L R X Q m S cx hc hl hm H HN
  obtain ⟨k1, k2⟩ := hold_app.mp hc
  obtain ⟨⟨o1, o2⟩, k2⟩ := hold_cons.mp k2
  have e9 : (cs1 ++ ((4, c + cs1.length + 1 + cs2.length) :: cs2)).length = cs1.length + (cs2.length + 1) := by simp only [List.length_append, List.length_cons]
  rw [e9] at hl H
  refine h1 Ls d t a7 a8 m2 fr to I L R X Q m S cx k1 (by omega) (by omega) (fun b S1 e1 s1 s2 => ?_) (fun e1 S' => HN (by unfold orD; rw [e1]; rfl) S')
  have cx' := cx
  obtain ⟨c1, c2, c3, c4, c5, c6⟩ := cx'
  have hc9 : c + cs1.length + 1 + cs2.length < 65536 := by omega
  cases b with
  | true =>
    refine vs_setp c1 c2 c3 (by omega) c4 c5 (by omega) (Or.inr rfl) (by omega) hc9 o1 o2 s2 ?_
    have := H true S1 (by unfold orD; rw [e1]; rfl) s1 s2
    rw [show c + (cs1.length + (cs2.length + 1)) = c + cs1.length + 1 + cs2.length by omega] at this
    exact this
  | false =>
    refine vs_unsp c1 c2 c3 (by omega) c4 c5 (by omega) (Or.inr rfl) (show c + cs1.length < c + cs1.length + 1 + cs2.length by omega) hc9 o1 o2 s2 ?_
    have e3 : orD g1 g2 (I 50) = g2 (I 50) := by unfold orD; rw [e1]; rfl
    refine h2 Ls d t a7 a8 m2 fr to I L R X Q m S1 cx k2 (by omega) (by omega) (fun b2 S2 e2 s3 s4 => ?_) (fun e2 S' => HN (e3.trans e2) S')
    have := H b2 S2 (e3.trans e2) (fun i hi => by rw [s3 i hi, s1 i hi]) s4
    rw [show c + (cs1.length + (cs2.length + 1)) = c + cs1.length + 1 + cs2.length by omega] at this
    exact this
end COp
