/-! THE LANGUAGE: what a row of tokens reads as, its code for the class's stack, what it means. C, V: the tokens' codes and values (the reference's numbers); o: of orders -/
abbrev tDS : Type := (Nat → Int32) → Option Int
abbrev tDB : Type := (Nat → Int32) → Option Bool
abbrev tCd : Type := List (Nat × Nat)
def bnd {α β : Type} (x : Option (Except Nat α)) (g : α → Option (Except Nat β)) : Option (Except Nat β) := match x with
  | none => none
  | some (.error e) => some (.error e)
  | some (.ok a) => g a
theorem bnd_ok {α β : Type} {a : α} {g : α → Option (Except Nat β)} : bnd (some (.ok a)) g = g a := rfl
theorem bnd_er {α β : Type} {e : Nat} {g : α → Option (Except Nat β)} : bnd (some (.error e)) g = some (.error e) := rfl
theorem bnd_no {α β : Type} {g : α → Option (Except Nat β)} : bnd none g = none := rfl
theorem bnd_in {α β : Type} {x : Option (Except Nat α)} {g : α → Option (Except Nat β)} {r : Except Nat β} (h : bnd x g = some r) : (∃ e, x = some (.error e) ∧ r = .error e) ∨ (∃ a, x = some (.ok a) ∧ g a = some r) := by
  match x with
  | none => cases h
  | some (.error e) => exact Or.inl ⟨e, rfl, by cases h; rfl⟩
  | some (.ok a) => exact Or.inr ⟨a, rfl, h⟩
theorem bnd_iok {α β : Type} {x : Option (Except Nat α)} {g : α → Option (Except Nat β)} {r : β} (h : bnd x g = some (.ok r)) : ∃ a, x = some (.ok a) ∧ g a = some (.ok r) := by
  rcases bnd_in h with ⟨e, -, h2⟩ | h2
  · cases h2
  · exact h2
def bd (x : Int) : Option Int := if -1000000000 ≤ x ∧ x ≤ 1000000000 then some x else none
def opv (o : Nat) (a b : Int) : Option Int := if o = 5 then bd (a + b) else if o = 6 then bd (a - b) else if o = 7 then bd (a * b) else if b = 0 then none else if o = 8 then bd (a.tdiv b) else bd (a.tmod b)
def cmpv (o : Nat) (a b : Int) : Bool := if o = 10 then decide (a < b) else if o = 11 then decide (b < a) else decide (a = b)
def mulOp (c : Nat) : Nat := if c = 142 then 7 else if c = 147 then 8 else if c = 137 then 9 else 0
def addOp (c : Nat) : Nat := if c = 143 then 5 else if c = 145 then 6 else 0
def cmpOp (c : Nat) : Nat := if c = 160 then 10 else if c = 162 then 11 else if c = 161 then 12 else 0
/-- a word's place in the class's row of words -/
def wdi (c : Nat) : Nat := if c = 8 then 0 else if c = 9 then 1 else if c = 10 then 2 else if c = 11 then 4 else if c = 12 then 3 else if c = 13 then 5 else if c = 14 then 8 else if c = 15 then 6 else if c = 16 then 7 else if c = 17 then 9 else 10
def opS (o : Nat) (f g : tDS) : tDS := fun W => (f W).bind fun a => (g W).bind fun b => opv o a b
def cmpS (o : Nat) (f g : tDS) : tDB := fun W => (f W).bind fun a => (g W).bind fun b => some (cmpv o a b)
def notD (p : Bool) (g : tDB) : tDB := fun W => (g W).map fun b => xor b p
def andD (g h : tDB) : tDB := fun W => (g W).bind fun b => if b = true then h W else some false
def orD (g h : tDB) : tDB := fun W => (g W).bind fun b => if b = true then some true else h W
def isLf (o : Bool) (c v : Nat) : Bool := (decide (c = 50) && decide (v ≤ 1000)) || (if o = true then decide (12 ≤ c) && decide (c ≤ 18) else decide (8 ≤ c) && decide (c ≤ 16))
abbrev tRS : Type := Option (Except Nat (Nat × Nat × tDS × tCd))
abbrev tRB : Type := Option (Except Nat (Nat × Nat × tDB × tCd))
section LG
variable (o : Bool) (C V : Nat → Nat)
/-- a part that is no bracket -/
def pLf (k l : Nat) : tRS :=
  if isLf o (C k) (V k) = false then some (.error k) else if 50 ≤ l then some (.error k) else
  if C k = 50 then some (.ok (k + 1, l + 1, fun _ => some (V k : Int), [(0, V k)])) else
  if o = true ∧ C k = 12 then (if C (k + 1) = 50 ∧ V (k + 1) ≤ 7 then some (.ok (k + 2, l + 1, fun W => some (W (11 + V (k + 1))).toInt, [(1, 11 + V (k + 1))])) else some (.error (k + 1))) else
  some (.ok (k + 1, l + 1, fun W => some (W (wdi (C k))).toInt, [(1, wdi (C k))]))
/-- 0 a part, 1 a sum, 2 what goes on in a term, else what goes on in a sum -/
def pS : Nat → Nat → Nat → Nat → Nat → tDS → tCd → tRS
  | 0, _, _, _, _, _, _ => none
  | n + 1, 0, d, k, l, f, _ =>
    if C k = 191 then (if 8 ≤ d then some (.error k) else bnd (pS n 1 (d + 1) (k + 1) l f []) fun r => if C r.1 = 193 then some (.ok (r.1 + 1, r.2)) else some (.error r.1)) else pLf o C V k l
  | n + 1, 1, d, k, l, f, _ => bnd (pS n 0 d k l f []) fun r => bnd (pS n 2 d r.1 r.2.1 r.2.2.1 r.2.2.2) fun r => pS n 3 d r.1 r.2.1 r.2.2.1 r.2.2.2
  | n + 1, 2, d, k, l, f, cs => if mulOp (C k) = 0 then some (.ok (k, l, f, cs)) else bnd (pS n 0 d (k + 1) l f []) fun r => pS n 2 d r.1 r.2.1 (opS (mulOp (C k)) f r.2.2.1) (cs ++ (r.2.2.2 ++ [(mulOp (C k), 0)]))
  | n + 1, _ + 3, d, k, l, f, cs => if addOp (C k) = 0 then some (.ok (k, l, f, cs)) else bnd (pS n 0 d (k + 1) l f []) fun r => bnd (pS n 2 d r.1 r.2.1 r.2.2.1 r.2.2.2) fun r => pS n 3 d r.1 r.2.1 (opS (addOp (C k)) f r.2.2.1) (cs ++ (r.2.2.2 ++ [(addOp (C k), 0)]))
def notC (p : Bool) : tCd := if p = true then [(2, 0)] else []
/-- 0 a plain test, 1 a test, 2 what goes on behind "and", else behind "or"; its code begins at c -/
def pB : Nat → Nat → Bool → Nat → Nat → Nat → Nat → tDB → tCd → tRB
  | 0, _, _, _, _, _, _, _, _ => none
  | n + 1, 0, p, d, k, l, c, g, _ =>
    if C k = 7 then pB n 0 (!p) d (k + 1) l c g [] else
    if C k = 140 then (if 8 ≤ d then some (.error k) else bnd (pB n 1 false (d + 1) (k + 1) l c g []) fun r => if C r.1 = 141 then some (.ok (r.1 + 1, r.2.1, notD p r.2.2.1, r.2.2.2 ++ notC p)) else some (.error r.1)) else
    bnd (pS o C V n 1 d k l (fun _ => none) []) fun r => if cmpOp (C r.1) = 0 then some (.error r.1) else bnd (pS o C V n 1 d (r.1 + 1) r.2.1 (fun _ => none) []) fun s => some (.ok (s.1, s.2.1, notD p (cmpS (cmpOp (C r.1)) r.2.2.1 s.2.2.1), r.2.2.2 ++ (s.2.2.2 ++ ((cmpOp (C r.1), 0) :: notC p))))
  | n + 1, 1, _, d, k, l, c, g, _ => bnd (pB n 0 false d k l c g []) fun r => bnd (pB n 2 false d r.1 r.2.1 c r.2.2.1 r.2.2.2) fun r => pB n 3 false d r.1 r.2.1 c r.2.2.1 r.2.2.2
  | n + 1, 2, _, d, k, l, c, g, cs => if C k = 6 then bnd (pB n 0 false d (k + 1) l (c + cs.length + 1) g []) fun r => pB n 2 false d r.1 r.2.1 c (andD g r.2.2.1) (cs ++ ((3, c + cs.length + 1 + r.2.2.2.length) :: r.2.2.2)) else some (.ok (k, l, g, cs))
  | n + 1, _ + 3, _, d, k, l, c, g, cs => if C k = 5 then bnd (pB n 0 false d (k + 1) l (c + cs.length + 1) g []) fun r => bnd (pB n 2 false d r.1 r.2.1 (c + cs.length + 1) r.2.2.1 r.2.2.2) fun r => pB n 3 false d r.1 r.2.1 c (orD g r.2.2.1) (cs ++ ((4, c + cs.length + 1 + r.2.2.2.length) :: r.2.2.2)) else some (.ok (k, l, g, cs))
/-- a clause: its kind, times, the code and the meaning of its sum and of its test -/
abbrev tCl : Type := Nat × Nat × tCd × tCd × tDS × tDB
abbrev cl_k (c : tCl) : Nat := c.1
abbrev cl_t (c : tCl) : Nat := c.2.1
abbrev cl_s (c : tCl) : tCd := c.2.2.1
abbrev cl_b (c : tCl) : tCd := c.2.2.2.1
abbrev cl_f (c : tCl) : tDS := c.2.2.2.2.1
abbrev cl_g (c : tCl) : tDB := c.2.2.2.2.2
def hdK (c : Nat) : Nat := if o = true then (if 19 ≤ c ∧ c ≤ 22 then c - 19 else 9) else (if 1 ≤ c ∧ c ≤ 3 then c - 1 else 9)
def hasS (kd : Nat) : Bool := if o = true then decide (kd ≠ 2) else decide (kd = 0)
def pSm (n k l kd : Nat) : tRS := if hasS o kd = true then pS o C V n 1 0 k l (fun _ => none) [] else some (.ok (k, l, fun _ => some 1, []))
/-- times: where it goes on, and how often -/
def pTm (k : Nat) : Option (Except Nat (Nat × Nat)) := if o = true ∧ C k = 23 then (if C (k + 1) = 50 ∧ 1 ≤ V (k + 1) ∧ V (k + 1) ≤ 20 then some (.ok (k + 2, V (k + 1))) else some (.error (k + 1))) else some (.ok (k, 1))
def pIf (n k l c : Nat) : tRB := if C k = 4 then pB o C V n 1 false 0 (k + 1) l c (fun _ => none) [] else some (.ok (k, l, fun _ => some true, []))
def pC (n k l c : Nat) : Option (Except Nat (Nat × Nat × tCl)) :=
  if hdK o (C k) = 9 then some (.error k) else
  bnd (pSm o C V n (k + 1) l (hdK o (C k))) fun r => bnd (pTm o C V r.1) fun t => bnd (pIf o C V n t.1 r.2.1 (c + r.2.2.2.length)) fun b => some (.ok (b.1, b.2.1, hdK o (C k), t.2, r.2.2.2, b.2.2.2, r.2.2.1, b.2.2.1))
variable (T : Nat)
/-- the text from its m-th clause on (m clauses were read): its clauses -/
def pX : Nat → Nat → Nat → Nat → Nat → List tCl → Option (Except Nat (List tCl))
  | 0, _, _, _, _, _ => none
  | n + 1, m, k, l, c, acc => bnd (pC o C V n k l c) fun r => if r.1 = T then some (.ok (acc ++ [r.2.2])) else if C r.1 = 159 then (if m = 11 then some (.error (r.1 + 1)) else pX n (m + 1) (r.1 + 1) r.2.1 (c + (cl_s r.2.2).length + (cl_b r.2.2).length) (acc ++ [r.2.2])) else some (.error r.1)
end LG
/-- where the code of a text's i-th clause begins -/
def clB : List tCl → Nat → Nat
  | [], _ => 0
  | _ :: _, 0 => 0
  | c :: r, n + 1 => (cl_s c).length + (cl_b c).length + clB r n
def clCode : List tCl → tCd
  | [] => []
  | c :: r => cl_s c ++ (cl_b c ++ clCode r)
/-- arrays a1 .. hold a text of clauses CL -/
def txA (I : Nat → Nat → Int32) (a1 a2 a3 a4 a5 a7 a8 : Nat) (CL : List tCl) : Prop :=
  (∀ j, j < CL.length → ∀ c, CL[j]? = some c → I a1 j = nI (cl_k c) ∧ I a2 j = nI (cl_t c) ∧ I a3 j = nI (clB CL j) ∧ I a4 j = nI (clB CL j + (cl_s c).length) ∧ I a5 j = nI (clB CL j + (cl_s c).length + (cl_b c).length)) ∧
  ∀ j q, (clCode CL)[j]? = some q → I a7 j = nI q.1 ∧ I a8 j = nI q.2
/-- a law's tokens as the reference keeps them -/
def kC (K : Nat → Int32) (i k : Nat) : Nat := if k < (K (57 + i)).toNatClampNeg then (K (64 + 400 * i + k)).toNatClampNeg else 0
def kV (K : Nat → Int32) (i k : Nat) : Nat := if k < (K (57 + i)).toNatClampNeg then (K (2864 + 400 * i + k)).toNatClampNeg else 0
def kOk (K : Nat → Int32) (i : Nat) : Prop := ∃ T, T ≤ 400 ∧ K (57 + i) = nI T ∧ ∀ k, k < T → K (64 + 400 * i + k) = nI (kC K i k) ∧ kC K i k ≤ 355 ∧ K (2864 + 400 * i + k) = nI (kV K i k) ∧ kV K i k ≤ 100000000
