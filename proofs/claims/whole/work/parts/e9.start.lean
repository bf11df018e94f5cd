/-! THE START: what the constructors make, by events. (0, a, t, n): a new cell a of the kind (t, n); (1, a, k, v): an int; (2, a, k, b): a reference; the latest first -/
abbrev zEv : Type := Nat × Nat × Nat × Int
def ze_A (h : pHp) (e : zEv) : pHp := if e.1 = 0 then p_new h (e.2.2.1, e.2.2.2.toNat) else if e.1 = 1 then p_wI h e.2.1 e.2.2.1 (Int32.ofInt e.2.2.2) else p_wR h e.2.1 e.2.2.1 (some e.2.2.2.toNat)
def ze_H (h : pHp) : List zEv → pHp
  | [] => h
  | e :: r => ze_A (ze_H h r) e
def ze_n : List zEv → Nat
  | [] => 32
  | e :: r => if e.1 = 0 then ze_n r + 1 else ze_n r
def ze_w : List zEv → Bool
  | [] => true
  | e :: r => (decide (e.1 = 0 → e.2.1 = ze_n r)) && ze_w r
def ze_k : List zEv → Nat → Option pKd
  | [], _ => none
  | e :: r, a => if e.1 = 0 ∧ e.2.1 = a then some (e.2.2.1, e.2.2.2.toNat) else ze_k r a
def ze_r : List zEv → Nat → Nat → Option (Option Nat)
  | [], _, _ => none
  | e :: r, a, k => if e.1 = 0 then (if e.2.1 = a then some none else ze_r r a k) else if e.1 = 1 then ze_r r a k else if e.2.1 = a ∧ e.2.2.1 = k then some (some e.2.2.2.toNat) else ze_r r a k
def ze_i : List zEv → Nat → Nat → Option Int32
  | [], _, _ => none
  | e :: r, a, k => if e.1 = 0 then (if e.2.1 = a then some 0 else ze_i r a k) else if e.1 = 1 then (if e.2.1 = a ∧ e.2.2.1 = k then some (Int32.ofInt e.2.2.2) else ze_i r a k) else ze_i r a k
def ze_ks : List zEv → List pKd
  | [] => []
  | e :: r => if e.1 = 0 then ze_ks r ++ [(e.2.2.1, e.2.2.2.toNat)] else ze_ks r
section ZE
variable {h : pHp} {a k : Nat}
theorem ze_len (hl : h.2.2.2.length = 32) : ∀ es, (ze_H h es).2.2.2.length = ze_n es
  | [] => hl
  | e :: r => by
    have ih := ze_len hl r
    show (ze_A (ze_H h r) e).2.2.2.length = ze_n (e :: r)
    unfold ze_A ze_n
    by_cases c : e.1 = 0
    · rw [if_pos c, if_pos c]
      show ((ze_H h r).2.2.2 ++ [_]).length = _
      rw [List.length_append, ih]; rfl
    · rw [if_neg c, if_neg c]
      split
      · exact ih
      · exact ih
theorem ze_kinds : ∀ es, (ze_H h es).2.2.2 = h.2.2.2 ++ ze_ks es
  | [] => (List.append_nil _).symm
  | e :: r => by
    have ih := ze_kinds r
    show (ze_A (ze_H h r) e).2.2.2 = h.2.2.2 ++ ze_ks (e :: r)
    unfold ze_A ze_ks
    by_cases c : e.1 = 0
    · rw [if_pos c, if_pos c]
      show (ze_H h r).2.2.2 ++ [_] = _
      rw [ih, List.append_assoc]
    · rw [if_neg c, if_neg c]
      split
      · exact ih
      · exact ih
theorem ze_w2 {e : zEv} {r : List zEv} (w : ze_w (e :: r) = true) : (e.1 = 0 → e.2.1 = ze_n r) ∧ ze_w r = true := by
  unfold ze_w at w
  rw [Bool.and_eq_true, decide_eq_true_eq] at w
  exact w
theorem ze_kd (hl : h.2.2.2.length = 32) : ∀ es, ze_w es = true → ∀ {q : pKd}, ze_k es a = some q → p_kd (ze_H h es) a = q ∧ a < ze_n es
  | [], _, _, e => by cases e
  | e :: r, w, q, hq => by
    obtain ⟨w1, w2⟩ := ze_w2 w
    have ln := ze_len hl r
    unfold ze_k at hq
    show p_kd (ze_A (ze_H h r) e) a = q ∧ a < ze_n (e :: r)
    unfold ze_A ze_n
    by_cases c : e.1 = 0
    · rw [if_pos c, if_pos c]
      by_cases ca : e.2.1 = a
      · rw [if_pos ⟨c, ca⟩] at hq
        cases hq
        have ea : a = (ze_H h r).2.2.2.length := by rw [ln, ← w1 c, ca]
        refine ⟨?_, by omega⟩
        show p_nth ((ze_H h r).2.2.2 ++ [_]) a = _
        rw [ea]
        exact nth_y _ _ []
      · rw [if_neg (fun x => ca x.2)] at hq
        obtain ⟨h1, h2⟩ := ze_kd hl r w2 hq
        refine ⟨?_, by omega⟩
        show p_nth ((ze_H h r).2.2.2 ++ [_]) a = _
        rw [p_nth_app _ _ _ (by omega)]
        exact h1
    · rw [if_neg (fun x => c x.1)] at hq
      obtain ⟨h1, h2⟩ := ze_kd hl r w2 hq
      rw [if_neg c, if_neg c]
      refine ⟨?_, h2⟩
      split
      · exact h1
      · exact h1
theorem ze_rd (hl : h.2.2.2.length = 32) : ∀ es, ze_w es = true → p_R (ze_H h es) a k = (ze_r es a k).getD (p_R h a k)
  | [], _ => rfl
  | e :: r, w => by
    obtain ⟨w1, w2⟩ := ze_w2 w
    have ln := ze_len hl r
    have ih := ze_rd hl r w2
    show p_R (ze_A (ze_H h r) e) a k = _
    unfold ze_A ze_r
    by_cases c : e.1 = 0
    · rw [if_pos c, if_pos c]
      show p_fn (ze_H h r).2.2.1 (ze_H h r).2.2.2.length (fun _ => none) a k = _
      by_cases ca : e.2.1 = a
      · rw [if_pos ca, ln, ← w1 c, ca, p_fn_eq]; rfl
      · rw [if_neg ca, ln, ← w1 c, p_fn_ne (fun x => ca x.symm)]; exact ih
    · rw [if_neg c, if_neg c]
      by_cases c1 : e.1 = 1
      · rw [if_pos c1, if_pos c1]; exact ih
      · rw [if_neg c1, if_neg c1]
        show p_fn (ze_H h r).2.2.1 e.2.1 (va_up ((ze_H h r).2.2.1 e.2.1) e.2.2.1 (some e.2.2.2.toNat)) a k = _
        by_cases ca : e.2.1 = a
        · subst ca
          rw [p_fn_eq]
          unfold va_up
          by_cases ck : e.2.2.1 = k
          · subst ck; rw [if_pos rfl, if_pos ⟨rfl, rfl⟩]; rfl
          · rw [if_neg (fun x => ck x.symm), if_neg (fun x => ck x.2)]; exact ih
        · rw [p_fn_ne (fun x => ca x.symm), if_neg (fun x => ca x.1)]; exact ih
theorem ze_id (hl : h.2.2.2.length = 32) : ∀ es, ze_w es = true → p_I (ze_H h es) a k = (ze_i es a k).getD (p_I h a k)
  | [], _ => rfl
  | e :: r, w => by
    obtain ⟨w1, w2⟩ := ze_w2 w
    have ln := ze_len hl r
    have ih := ze_id hl r w2
    show p_I (ze_A (ze_H h r) e) a k = _
    unfold ze_A ze_i
    by_cases c : e.1 = 0
    · rw [if_pos c, if_pos c]
      show p_fn (ze_H h r).1 (ze_H h r).2.2.2.length (fun _ => 0) a k = _
      by_cases ca : e.2.1 = a
      · rw [if_pos ca, ln, ← w1 c, ca, p_fn_eq]; rfl
      · rw [if_neg ca, ln, ← w1 c, p_fn_ne (fun x => ca x.symm)]; exact ih
    · rw [if_neg c, if_neg c]
      by_cases c1 : e.1 = 1
      · rw [if_pos c1, if_pos c1]
        show p_fn (ze_H h r).1 e.2.1 (upd ((ze_H h r).1 e.2.1) e.2.2.1 (Int32.ofInt e.2.2.2)) a k = _
        by_cases ca : e.2.1 = a
        · subst ca
          rw [p_fn_eq]
          unfold upd
          by_cases ck : e.2.2.1 = k
          · subst ck; rw [if_pos rfl, if_pos ⟨rfl, rfl⟩]; rfl
          · rw [if_neg (fun x => ck x.symm), if_neg (fun x => ck x.2)]; exact ih
        · rw [p_fn_ne (fun x => ca x.symm), if_neg (fun x => ca x.1)]; exact ih
      · rw [if_neg c1, if_neg c1]; exact ih
end ZE
def ze_ad (c s : Nat) (o : Option (List zEv × Nat × Nat)) : Option (List zEv × Nat × Nat) := match o with
  | none => none
  | some q => some (q.1, q.2.1 + c, s + q.2.2)
/-- a constructor's row of instructions -/
def ze_run (call : Nat → List Value → List zEv → Option (List zEv × Nat × Nat)) : List pI → List Value → List Value → List zEv → Option (List zEv × Nat × Nat)
  | [], _, _, _ => none
  | (i, _, ex) :: r, ls, st, es => match i with
    | .aload_n n => (match p_at ls n.val with
      | .ref x => ze_run call r ls (.ref x :: st) es
      | _ => none)
    | .iload_n n => (match p_at ls n.val with
      | .int x => ze_run call r ls (.int x :: st) es
      | _ => none)
    | .iconst v => ze_run call r ls (.int (Int32.ofInt v) :: st) es
    | .bipush v => ze_run call r ls (.int (Int8.ofInt v).toInt32 :: st) es
    | .sipush v => ze_run call r ls (.int (Int16.ofInt v).toInt32 :: st) es
    | .dup => (match st with
      | .ref x :: s => ze_run call r ls (.ref x :: .ref x :: s) es
      | _ => none)
    | .new _ => (match ex with
      | [_, c, m] => ze_ad 1 m (ze_run call r ls (.ref (ze_n es) :: st) ((0, ze_n es, 0, (c : Int)) :: es))
      | _ => none)
    | .newarray _ => (match ex, st with
      | [t], .int m :: s => if ¬ m < 0 ∧ m.toNatClampNeg ≤ 65536 then ze_ad 1 m.toNatClampNeg (ze_run call r ls (.ref (ze_n es) :: s) ((0, ze_n es, t, (m.toNatClampNeg : Int)) :: es)) else none
      | _, _ => none)
    | .anewarray _ => (match ex, st with
      | [_, t], .int m :: s => if ¬ m < 0 ∧ m.toNatClampNeg ≤ 65536 then ze_ad 1 m.toNatClampNeg (ze_run call r ls (.ref (ze_n es) :: s) ((0, ze_n es, t, (m.toNatClampNeg : Int)) :: es)) else none
      | _, _ => none)
    | .putfield _ => (match ex, st with
      | [_, 0, c, f, _], .int x :: .ref a :: s => if ze_k es a = some (0, c) ∧ 32 ≤ a then ze_run call r ls s ((1, a, f, x.toInt) :: es) else none
      | [_, 3, c, f, _], .int x :: .ref a :: s => if ze_k es a = some (0, c) ∧ 32 ≤ a ∧ (x = 0 ∨ x = 1) then ze_run call r ls s ((1, a, f, x.toInt) :: es) else none
      | [_, 2, c, f, _], .ref b :: .ref a :: s => if ze_k es a = some (0, c) ∧ 32 ≤ a then ze_run call r ls s ((2, a, f, (b : Int)) :: es) else none
      | _, _ => none)
    | .getfield _ => (match ex, st with
      | [_, 2, c, f], .ref a :: s => if ze_k es a = some (0, c) then (match ze_r es a f with
        | some (some b) => ze_run call r ls (.ref b :: s) es
        | _ => none) else none
      | _, _ => none)
    | .iastore => (match st with
      | .int x :: .int j :: .ref a :: s => (match ze_k es a with
        | some (1, m) => if 32 ≤ a ∧ 0 ≤ j.toInt ∧ j.toInt < (m : Int) then ze_run call r ls s ((1, a, j.toNatClampNeg, x.toInt) :: es) else none
        | _ => none)
      | _ => none)
    | .bastore => (match st with
      | .int x :: .int j :: .ref a :: s => (match ze_k es a with
        | some (2, m) => if 32 ≤ a ∧ 0 ≤ j.toInt ∧ j.toInt < (m : Int) then ze_run call r ls s ((1, a, j.toNatClampNeg, (p_nv 2 x).toInt) :: es) else none
        | _ => none)
      | _ => none)
    | .aastore => (match st with
      | .ref b :: .int j :: .ref a :: s => (match ze_k es a with
        | some (6, m) => if ze_k es b = some (0, 1) ∧ 32 ≤ a ∧ 32 ≤ b ∧ 0 ≤ j.toInt ∧ j.toInt < (m : Int) then ze_run call r ls s ((2, a, j.toNatClampNeg, (b : Int)) :: es) else none
        | _ => none)
      | _ => none)
    | .invokespecial _ => (match ex, st with
      | [_, 9999, _, _], .ref _ :: s => if (s.map fun v => v.category).sum ≤ 8 then ze_run call r ls s es else none
      | [_, z, 1, _], .ref a :: s => if ¬ z = 9999 ∧ (s.map fun v => v.category).sum ≤ 8 ∧ p_cats [.ref a] ≤ p_mx z then (match call z [.ref a] es with
        | some q => ze_ad q.2.1 q.2.2 (ze_run call r ls s q.1)
        | none => none) else none
      | [_, z, 3, _], v2 :: v1 :: .ref a :: s => if ¬ z = 9999 ∧ (s.map fun v => v.category).sum ≤ 8 ∧ p_cats [.ref a, v1, v2] ≤ p_mx z then (match call z [.ref a, v1, v2] es with
        | some q => ze_ad q.2.1 q.2.2 (ze_run call r ls s q.1)
        | none => none) else none
      | _, _ => none)
    | .return_ => (match st with
      | [] => some (es, 0, 0)
      | _ => none)
    | _ => none
def ze_call : Nat → Nat → List Value → List zEv → Option (List zEv × Nat × Nat)
  | 0, z, vs, es => ze_run (fun _ _ _ => none) (p_bk z 0) (p_ent vs) [] es
  | d + 1, z, vs, es => ze_run (ze_call d) (p_bk z 0) (p_ent vs) [] es
