/-! THE WORLD of the pure heap, in the kit's words -/
section WLD
variable (ca : Nat → ClassId) (B : Nat) (ro : Nat → Nat)
def p_ph (a : Nat) : Nat := if a < 32 then ro a else B + (a - 32)
def p_pv (v : Value) : Value := match v with
  | .ref a => .ref (p_ph B ro a)
  | v => v
def p_as : Nat → List Value → List (Nat × Value)
  | _, [] => []
  | i, .retAddr _ :: r => p_as (i + 1) r
  | i, v :: r => (i, p_pv B ro v) :: p_as (i + 1) r
def p_fv (h : pHp) (a : Nat) (ty : FieldType) (k : Nat) : Value := match ty with
  | .long => .long (p_L h a k)
  | .object _ => va_rf ((p_R h a k).map (p_ph B ro))
  | .array _ => va_rf ((p_R h a k).map (p_ph B ro))
  | _ => .int (p_I h a k)
def p_fs (h : pHp) (a c : Nat) : List Value := (List.range (p_N c)).map (fun k => p_fv B ro h a (p_ty c k) k)
def p_ar (h : pHp) (a t : Nat) : (Nat → Int32) ⊕ (Nat → Int64) ⊕ (Nat → UInt32) ⊕ (Nat → UInt64) ⊕ (Nat → Option Nat) :=
  if t = 4 then .inr (.inl (p_L h a)) else if t = 5 ∨ t = 6 then .inr (.inr (.inr (.inr (fun k => (p_R h a k).map (p_ph B ro))))) else .inl (p_I h a)
def p_cell (h : pHp) (a : Nat) : va_E := if (p_kd h a).1 = 0 then .inr ((p_kd h a).2, p_fs B ro h a (p_kd h a).2) else .inl (ca (p_kd h a).1, (p_kd h a).2, p_ar B ro h a (p_kd h a).1)
def p_ws (h : pHp) : va_W := (List.range ((p_X h).length - 32)).map (fun i => (B + i, p_cell ca B ro h (i + 32)))
def p_A : Nat → Prop := fun q => B ≤ q
def p_tys : List (ClassId × FieldType) := [(ca 1, .int), (ca 2, .byte), (ca 3, .boolean), (ca 4, .long), (ca 5, .object "HutAnswers$Text"), (ca 6, .object "HutAnswers$Hut")]
end WLD
theorem p_nth_lt : ∀ (l : List pKd) (a : Nat), p_nth l a ≠ (99, 0) → a < l.length
  | [], _, h => absurd rfl h
  | _ :: _, 0, _ => Nat.zero_lt_succ _
  | _ :: l, n + 1, h => Nat.succ_lt_succ (p_nth_lt l n h)
theorem p_nth_app : ∀ (l r : List pKd) (a : Nat), a < l.length → p_nth (l ++ r) a = p_nth l a
  | [], _, _, h => absurd h (Nat.not_lt_zero _)
  | _ :: _, _, 0, _ => rfl
  | _ :: l, r, n + 1, h => p_nth_app l r n (Nat.lt_of_succ_lt_succ h)
theorem p_nth_end : ∀ (l : List pKd) (q : pKd), p_nth (l ++ [q]) l.length = q
  | [], _ => rfl
  | _ :: l, q => p_nth_end l q
theorem p_kd_lt {h : pHp} {a t n : Nat} (e : p_kd h a = (t, n)) (ht : t < 99) : a < (p_X h).length := by
  refine p_nth_lt _ _ (fun e2 => ?_)
  have e3 : p_kd h a = (99, 0) := e2
  rw [e] at e3
  cases e3
  omega
theorem p_kd_lt1 {h : pHp} {a : Nat} (e : (p_kd h a).1 < 99) : a < (p_X h).length := p_kd_lt (t := (p_kd h a).1) (n := (p_kd h a).2) rfl e
section WL2
variable {ca : Nat → ClassId} {B : Nat} {ro : Nat → Nat}
theorem p_ph_hi {a : Nat} (h : 32 ≤ a) : p_ph B ro a = B + (a - 32) := by unfold p_ph; rw [if_neg (by omega)]
theorem p_ph_lo {a : Nat} (h : a < 32) : p_ph B ro a = ro a := by unfold p_ph; rw [if_pos h]
theorem p_pv_cat (v : Value) : (p_pv B ro v).category = v.category := by cases v <;> rfl
theorem p_pv_rf (q : Option Nat) : p_pv B ro (va_rf q) = va_rf (q.map (p_ph B ro)) := by cases q <;> rfl
theorem p_pvs_cat (st : List Value) : ((st.map (p_pv B ro)).map fun v => v.category).sum = (st.map fun v => v.category).sum := by
  congr 1
  rw [List.map_map]
  exact List.map_congr_left fun v _ => p_pv_cat v
theorem p_ws_get {h : pHp} {a : Nat} (h1 : 32 ≤ a) (h2 : a < (p_X h).length) : (p_ws ca B ro h)[a - 32]? = some (p_ph B ro a, p_cell ca B ro h a) := by
  unfold p_ws
  rw [List.getElem?_map, List.getElem?_range (by omega)]
  simp only [Option.map_some]
  rw [p_ph_hi h1, show a - 32 + 32 = a by omega]
theorem p_ws_len (h : pHp) : (p_ws ca B ro h).length = (p_X h).length - 32 := by simp [p_ws]
theorem p_ws_inv {h : pHp} {k : Nat} {q : Nat × va_E} (e : (p_ws ca B ro h)[k]? = some q) : k < (p_X h).length - 32 ∧ q = (B + k, p_cell ca B ro h (k + 32)) := by
  have hk : k < (p_ws ca B ro h).length := (List.getElem?_eq_some_iff.mp e).1
  rw [p_ws_len] at hk
  refine ⟨hk, ?_⟩
  unfold p_ws at e
  rw [List.getElem?_map, List.getElem?_range hk] at e
  exact (Option.some.inj e).symm
theorem p_ws_D (h : pHp) : va_D (p_A B) (p_ws ca B ro h) := by
  refine ⟨fun i j p q hi hj e => ?_, fun k q hk => ?_⟩
  · obtain ⟨-, rfl⟩ := p_ws_inv hi
    obtain ⟨-, rfl⟩ := p_ws_inv hj
    have : B + i = B + j := e
    omega
  · obtain ⟨-, rfl⟩ := p_ws_inv hk
    show B ≤ B + k
    omega
theorem p_ws_set {h h' : pHp} {a : Nat} (hX : p_X h' = p_X h) (h1 : 32 ≤ a) (ho : ∀ b, b ≠ a → p_cell ca B ro h' b = p_cell ca B ro h b) : p_ws ca B ro h' = (p_ws ca B ro h).set (a - 32) (p_ph B ro a, p_cell ca B ro h' a) := by
  apply List.ext_getElem?
  intro k
  rw [List.getElem?_set]
  by_cases hk : k < (p_X h).length - 32
  · have e1 : (p_ws ca B ro h')[k]? = some (B + k, p_cell ca B ro h' (k + 32)) := by
      have := p_ws_get (ca := ca) (B := B) (ro := ro) (h := h') (a := k + 32) (by omega) (by rw [hX]; omega)
      rw [p_ph_hi (by omega), show k + 32 - 32 = k by omega] at this
      exact this
    rw [e1]
    by_cases hka : a - 32 = k
    · rw [if_pos hka, p_ws_len, if_pos (by omega), p_ph_hi h1, hka, show k + 32 = a by omega]
    · rw [if_neg hka]
      have := p_ws_get (ca := ca) (B := B) (ro := ro) (h := h) (a := k + 32) (by omega) (by omega)
      rw [p_ph_hi (by omega), show k + 32 - 32 = k by omega] at this
      rw [this, ho (k + 32) (by omega)]
  · rw [List.getElem?_eq_none (by rw [p_ws_len, hX]; omega)]
    by_cases hka : a - 32 = k
    · rw [if_pos hka, p_ws_len, if_neg (by omega)]
    · rw [if_neg hka, List.getElem?_eq_none (by rw [p_ws_len]; omega)]
theorem p_cell_eq {h h' : pHp} {b : Nat} (e1 : p_I h' b = p_I h b) (e2 : p_L h' b = p_L h b) (e3 : p_R h' b = p_R h b) (e4 : p_kd h' b = p_kd h b) : p_cell ca B ro h' b = p_cell ca B ro h b := by
  unfold p_cell p_fs p_fv p_ar
  rw [e1, e2, e3, e4]
theorem p_fn_ne {α : Type} {f : Nat → Nat → α} {a b : Nat} {g : Nat → α} (h : b ≠ a) : p_fn f a g b = f b := if_neg h
theorem p_fn_eq {α : Type} {f : Nat → Nat → α} {a : Nat} {g : Nat → α} : p_fn f a g a = g := if_pos rfl
/-- a plane of ints changes at one address -/
theorem p_ws_I {h : pHp} {a : Nat} (g : Nat → Int32) (h1 : 32 ≤ a) : p_ws ca B ro (p_fn h.1 a g, h.2) = (p_ws ca B ro h).set (a - 32) (p_ph B ro a, p_cell ca B ro (p_fn h.1 a g, h.2) a) :=
  p_ws_set rfl h1 (fun _ hb => p_cell_eq (p_fn_ne hb) rfl rfl rfl)
theorem p_ws_L {h : pHp} {a : Nat} (g : Nat → Int64) (h1 : 32 ≤ a) : p_ws ca B ro (h.1, p_fn h.2.1 a g, h.2.2) = (p_ws ca B ro h).set (a - 32) (p_ph B ro a, p_cell ca B ro (h.1, p_fn h.2.1 a g, h.2.2) a) :=
  p_ws_set rfl h1 (fun _ hb => p_cell_eq rfl (p_fn_ne hb) rfl rfl)
theorem p_ws_R {h : pHp} {a : Nat} (g : Nat → Option Nat) (h1 : 32 ≤ a) : p_ws ca B ro (h.1, h.2.1, p_fn h.2.2.1 a g, h.2.2.2) = (p_ws ca B ro h).set (a - 32) (p_ph B ro a, p_cell ca B ro (h.1, h.2.1, p_fn h.2.2.1 a g, h.2.2.2) a) :=
  p_ws_set rfl h1 (fun _ hb => p_cell_eq rfl rfl (p_fn_ne hb) rfl)
theorem p_cell_arr {h : pHp} {a t n : Nat} (e : p_kd h a = (t, n)) (ht : t ≠ 0) : p_cell ca B ro h a = .inl (ca t, n, p_ar B ro h a t) := by
  unfold p_cell
  rw [e]
  exact if_neg ht
theorem p_cell_obj {h : pHp} {a c : Nat} (e : p_kd h a = (0, c)) : p_cell ca B ro h a = .inr (c, p_fs B ro h a c) := by
  unfold p_cell
  rw [e]
  rfl
theorem p_fs_get {h : pHp} {a c k : Nat} (hk : k < p_N c) : (p_fs B ro h a c)[k]? = some (p_fv B ro h a (p_ty c k) k) := by
  unfold p_fs
  rw [List.getElem?_map, List.getElem?_range hk]
  rfl
theorem p_fs_len {h : pHp} {a c : Nat} : (p_fs B ro h a c).length = p_N c := by simp [p_fs]
theorem p_fs_set {h h' : pHp} {a c k : Nat} {v : Value} (hv : p_fv B ro h' a (p_ty c k) k = v) (ho : ∀ j, j ≠ k → p_fv B ro h' a (p_ty c j) j = p_fv B ro h a (p_ty c j) j) : p_fs B ro h' a c = (p_fs B ro h a c).set k v := by
  apply List.ext_getElem?
  intro j
  rw [List.getElem?_set]
  by_cases hj : j < p_N c
  · rw [p_fs_get hj]
    by_cases hkj : k = j
    · subst hkj
      rw [if_pos rfl, p_fs_len, if_pos hj, hv]
    · rw [if_neg hkj, p_fs_get hj, ho j (Ne.symm hkj)]
  · rw [List.getElem?_eq_none (by rw [p_fs_len]; omega)]
    by_cases hkj : k = j
    · rw [if_pos hkj, p_fs_len, if_neg (by omega)]
    · rw [if_neg hkj, List.getElem?_eq_none (by rw [p_fs_len]; omega)]
theorem p_fvI {h h' : pHp} {a k : Nat} {ty : FieldType} (e1 : p_I h' a k = p_I h a k) (e2 : p_L h' a k = p_L h a k) (e3 : p_R h' a k = p_R h a k) : p_fv B ro h' a ty k = p_fv B ro h a ty k := by
  unfold p_fv
  rw [e1, e2, e3]
/-- a new cell -/
theorem p_ws_new {h : pHp} {q : pKd} (h1 : 32 ≤ (p_X h).length) : p_ws ca B ro (p_new h q) = p_ws ca B ro h ++ [(B + ((p_X h).length - 32), p_cell ca B ro (p_new h q) (p_X h).length)] := by
  have hl : (p_X (p_new h q)).length = (p_X h).length + 1 := by simp [p_X, p_new]
  unfold p_ws
  rw [hl, show (p_X h).length + 1 - 32 = ((p_X h).length - 32) + 1 by omega, List.range_succ, List.map_append]
  congr 1
  · refine List.map_congr_left fun i hi => ?_
    have hi := List.mem_range.mp hi
    congr 1
    have hne : i + 32 ≠ (p_X h).length := by omega
    exact p_cell_eq (p_fn_ne hne) (p_fn_ne hne) (p_fn_ne hne) (p_nth_app _ _ _ (by show i + 32 < (p_X h).length; omega))
  · simp only [List.map_cons, List.map_nil]
    rw [show (p_X h).length - 32 + 32 = (p_X h).length by omega]
theorem p_kd_new (h : pHp) (q : pKd) : p_kd (p_new h q) (p_X h).length = q := p_nth_end _ _
theorem p_kd_old {h : pHp} {q : pKd} {a : Nat} (ha : a < (p_X h).length) : p_kd (p_new h q) a = p_kd h a := p_nth_app _ _ _ ha
-- locals
theorem p_as_cons {i : Nat} {v : Value} {r : List Value} : (∃ n, v = .retAddr n ∧ p_as B ro i (v :: r) = p_as B ro (i + 1) r) ∨ ((∀ n, v ≠ .retAddr n) ∧ p_as B ro i (v :: r) = (i, p_pv B ro v) :: p_as B ro (i + 1) r) := by
  cases v <;> first | exact Or.inl ⟨_, rfl, rfl⟩ | exact Or.inr ⟨(fun n h => nomatch h), rfl⟩
theorem p_as_at : ∀ (L : List Value) (i n : Nat) (v : Value), p_at L n = v → (∀ m, v ≠ .retAddr m) → (i + n, p_pv B ro v) ∈ p_as B ro i L
  | [], _, _, v, h, hv => absurd h.symm (hv 0)
  | w :: L, i, 0, v, h, hv => by
    have h : w = v := h
    subst h
    rcases p_as_cons (B := B) (ro := ro) (i := i) (v := w) (r := L) with ⟨n, e, -⟩ | ⟨-, e⟩
    · exact absurd e (hv n)
    · rw [e]; exact List.mem_cons_self
  | w :: L, i, n + 1, v, h, hv => by
    have ih := p_as_at L (i + 1) n v h hv
    rw [show i + 1 + n = i + (n + 1) by omega] at ih
    rcases p_as_cons (B := B) (ro := ro) (i := i) (v := w) (r := L) with ⟨m, -, e⟩ | ⟨-, e⟩
    · rw [e]; exact ih
    · rw [e]; exact List.mem_cons_of_mem _ ih
theorem p_as_val : ∀ (L : List Value) (i : Nat) (q : Nat × Value), q ∈ p_as B ro i L → ∃ k, q.1 = i + k ∧ q.2 = p_pv B ro (p_at L k)
  | [], _, _, h => by cases h
  | w :: L, i, q, h => by
    have key : q ∈ p_as B ro (i + 1) L → ∃ k, q.1 = i + k ∧ q.2 = p_pv B ro (p_at (w :: L) k) := fun h => by
      obtain ⟨k, e1, e2⟩ := p_as_val L (i + 1) q h
      exact ⟨k + 1, by omega, e2⟩
    rcases p_as_cons (B := B) (ro := ro) (i := i) (v := w) (r := L) with ⟨m, -, e⟩ | ⟨-, e⟩
    · rw [e] at h; exact key h
    · rw [e] at h
      rcases List.mem_cons.mp h with rfl | h
      · exact ⟨0, rfl, rfl⟩
      · exact key h
theorem p_as_set : ∀ (L : List Value) (i n : Nat) (v : Value) (q : Nat × Value), q ∈ p_as B ro i (p_set L n v) → (q.1 = i + n ∧ q.2 = p_pv B ro v ∧ ∀ m, v ≠ .retAddr m) ∨ (q ∈ p_as B ro i L ∧ q.1 ≠ i + n)
  | [], i, 0, v, q, h => by
    have h : q ∈ p_as B ro i [v] := h
    rcases p_as_cons (B := B) (ro := ro) (i := i) (v := v) (r := []) with ⟨m, -, e⟩ | ⟨hv, e⟩
    · rw [e] at h; cases h
    · rw [e] at h
      rcases List.mem_cons.mp h with rfl | h
      · exact Or.inl ⟨rfl, rfl, hv⟩
      · cases h
  | [], i, n + 1, v, q, h => by
    have h : q ∈ p_as B ro (i + 1) (p_set [] n v) := h
    rcases p_as_set [] (i + 1) n v q h with ⟨a, b⟩ | ⟨a, b⟩
    · exact Or.inl ⟨by omega, b⟩
    · cases a
  | w :: L, i, 0, v, q, h => by
    have h : q ∈ p_as B ro i (v :: L) := h
    have key : q ∈ p_as B ro (i + 1) L → q ∈ p_as B ro i (w :: L) ∧ q.1 ≠ i + 0 := fun h => by
      obtain ⟨k, e1, -⟩ := p_as_val L (i + 1) q h
      refine ⟨?_, by omega⟩
      rcases p_as_cons (B := B) (ro := ro) (i := i) (v := w) (r := L) with ⟨m, -, e⟩ | ⟨-, e⟩
      · rw [e]; exact h
      · rw [e]; exact List.mem_cons_of_mem _ h
    rcases p_as_cons (B := B) (ro := ro) (i := i) (v := v) (r := L) with ⟨m, -, e⟩ | ⟨hv, e⟩
    · rw [e] at h; exact Or.inr (key h)
    · rw [e] at h
      rcases List.mem_cons.mp h with rfl | h
      · exact Or.inl ⟨rfl, rfl, hv⟩
      · exact Or.inr (key h)
  | w :: L, i, n + 1, v, q, h => by
    have h : q ∈ p_as B ro i (w :: p_set L n v) := h
    have key : q ∈ p_as B ro (i + 1) (p_set L n v) → (q.1 = i + (n + 1) ∧ q.2 = p_pv B ro v ∧ ∀ m, v ≠ .retAddr m) ∨ (q ∈ p_as B ro i (w :: L) ∧ q.1 ≠ i + (n + 1)) := fun h => by
      rcases p_as_set L (i + 1) n v q h with ⟨a, b⟩ | ⟨a, b⟩
      · exact Or.inl ⟨by omega, b⟩
      · refine Or.inr ⟨?_, by omega⟩
        rcases p_as_cons (B := B) (ro := ro) (i := i) (v := w) (r := L) with ⟨m, -, e⟩ | ⟨-, e⟩
        · rw [e]; exact a
        · rw [e]; exact List.mem_cons_of_mem _ a
    rcases p_as_cons (B := B) (ro := ro) (i := i) (v := w) (r := p_set L n v) with ⟨m, -, e⟩ | ⟨hw, e⟩
    · rw [e] at h; exact key h
    · rw [e] at h
      rcases List.mem_cons.mp h with rfl | h
      · refine Or.inr ⟨?_, by show i ≠ i + (n + 1); omega⟩
        rcases p_as_cons (B := B) (ro := ro) (i := i) (v := w) (r := L) with ⟨m, e1, -⟩ | ⟨-, e⟩
        · exact absurd e1 (hw m)
        · rw [e]; exact List.mem_cons_self
      · exact key h
theorem lv_less {ls : Array Slot} {nL : Nat} {l l' : List (Nat × Value)} (h : lv_has ls nL l) (hl : ∀ q ∈ l', q ∈ l) : lv_has ls nL l' := ⟨h.1, h.2.1, fun q hq => h.2.2 q (hl q hq)⟩
/-- behind a store of one word -/
theorem p_as_st1 {L : List Value} {n : Nat} {v : Value} {ls : Array Slot} {nL : Nat} (hok : p_ok1 L n) (h : lv_has ls nL ((n, p_pv B ro v) :: (p_as B ro 0 L).filter (fun q => !(q.1 == n) && !(q.1 + 1 == n && q.2.category == 2)))) : lv_has ls nL (p_as B ro 0 (p_set L n v)) := by
  refine lv_less h (fun q hq => ?_)
  rcases p_as_set L 0 n v q hq with ⟨a, b, -⟩ | ⟨a, b⟩
  · refine List.mem_cons.mpr (Or.inl (Prod.ext (by simpa using a) b))
  · refine List.mem_cons_of_mem _ (List.mem_filter.mpr ⟨a, ?_⟩)
    obtain ⟨k, e1, e2⟩ := p_as_val L 0 q a
    have hb : ¬ q.1 = n := by simpa using b
    simp only [Bool.and_eq_true, Bool.not_eq_true', beq_eq_false_iff_ne, ne_eq, hb, not_false_eq_true, true_and]
    rw [Bool.and_eq_false_iff]
    by_cases hn : q.1 + 1 = n
    · right
      have hk : k + 1 = n := by omega
      subst hk
      rw [e2, p_pv_cat, show (p_at L k).category = 1 from hok]
      rfl
    · left
      simpa using hn
/-- behind a store of two words -/
theorem p_as_st2 {L : List Value} {n : Nat} {v : Value} {ls : Array Slot} {nL : Nat} (hok : p_ok1 L n) (h : lv_has ls nL ((n, p_pv B ro v) :: (p_as B ro 0 L).filter (fun q => !(q.1 == n) && (!(q.1 == n + 1) && !(q.1 + 1 == n && q.2.category == 2))))) : lv_has ls nL (p_as B ro 0 (p_set (p_set L n v) (n + 1) (.retAddr 0))) := by
  refine lv_less h (fun q hq => ?_)
  rcases p_as_set _ 0 (n + 1) _ q hq with ⟨a, b, c⟩ | ⟨a, b⟩
  · exact absurd rfl (c 0)
  rcases p_as_set L 0 n v q a with ⟨a, c, -⟩ | ⟨a, c⟩
  · refine List.mem_cons.mpr (Or.inl (Prod.ext (by simpa using a) c))
  · refine List.mem_cons_of_mem _ (List.mem_filter.mpr ⟨a, ?_⟩)
    obtain ⟨k, e1, e2⟩ := p_as_val L 0 q a
    have hb : ¬ q.1 = n := by simpa using c
    have hb1 : ¬ q.1 = n + 1 := by simpa using b
    simp only [Bool.and_eq_true, Bool.not_eq_true', beq_eq_false_iff_ne, ne_eq, hb, hb1, not_false_eq_true, true_and]
    rw [Bool.and_eq_false_iff]
    by_cases hn : q.1 + 1 = n
    · right
      have hk : k + 1 = n := by omega
      subst hk
      rw [e2, p_pv_cat, show (p_at L k).category = 1 from hok]
      rfl
    · left
      simpa using hn
theorem p_as_ent : ∀ (vs : List Value) (i : Nat) (q : Nat × Value), q ∈ p_as B ro i (p_ent vs) → q ∈ lv_args i (vs.map (p_pv B ro))
  | [], _, _, h => h
  | v :: vs, i, q, h => by
    show q ∈ (i, p_pv B ro v) :: lv_args (if (p_pv B ro v).category = 2 then i + 2 else i + 1) (vs.map (p_pv B ro))
    rw [p_pv_cat]
    cases v with
    | long x =>
      have h : q ∈ (i, p_pv B ro (.long x)) :: p_as B ro (i + 2) (p_ent vs) := h
      rcases List.mem_cons.mp h with h | h
      · rw [h]; exact List.mem_cons_self
      · exact List.mem_cons_of_mem _ (p_as_ent vs (i + 2) q h)
    | double x =>
      have h : q ∈ (i, p_pv B ro (.double x)) :: p_as B ro (i + 2) (p_ent vs) := h
      rcases List.mem_cons.mp h with h | h
      · rw [h]; exact List.mem_cons_self
      · exact List.mem_cons_of_mem _ (p_as_ent vs (i + 2) q h)
    | retAddr x =>
      have h : q ∈ p_as B ro (i + 1) (p_ent vs) := h
      exact List.mem_cons_of_mem _ (p_as_ent vs (i + 1) q h)
    | int x =>
      have h : q ∈ (i, p_pv B ro (.int x)) :: p_as B ro (i + 1) (p_ent vs) := h
      rcases List.mem_cons.mp h with h | h
      · rw [h]; exact List.mem_cons_self
      · exact List.mem_cons_of_mem _ (p_as_ent vs (i + 1) q h)
    | float x =>
      have h : q ∈ (i, p_pv B ro (.float x)) :: p_as B ro (i + 1) (p_ent vs) := h
      rcases List.mem_cons.mp h with h | h
      · rw [h]; exact List.mem_cons_self
      · exact List.mem_cons_of_mem _ (p_as_ent vs (i + 1) q h)
    | null =>
      have h : q ∈ (i, p_pv B ro .null) :: p_as B ro (i + 1) (p_ent vs) := h
      rcases List.mem_cons.mp h with h | h
      · rw [h]; exact List.mem_cons_self
      · exact List.mem_cons_of_mem _ (p_as_ent vs (i + 1) q h)
    | ref x =>
      have h : q ∈ (i, p_pv B ro (.ref x)) :: p_as B ro (i + 1) (p_ent vs) := h
      rcases List.mem_cons.mp h with h | h
      · rw [h]; exact List.mem_cons_self
      · exact List.mem_cons_of_mem _ (p_as_ent vs (i + 1) q h)
theorem p_sl_len (vs : List Value) : (lg_sl (vs.map (p_pv B ro))).length = p_cats vs := by
  induction vs with
  | nil => rfl
  | cons v vs ih =>
    show (lg_sl (p_pv B ro v :: vs.map (p_pv B ro))).length = v.category + p_cats vs
    rw [← ih]
    unfold lg_sl
    rw [List.flatMap_cons, List.length_append, p_pv_cat]
    congr 1
    cases v <;> rfl
end WL2
