/-! THE CONTEXT of a run of a method, and how it moves -/
def p_RO (B : Nat) (ro : Nat → Nat) (h : pHp) (s : State) : Prop :=
  (∀ a n, a < 32 → p_kd h a = (1, n) → va_T .int (ro a) n (fun j => .int (p_I h a j)) (p_A B) s s.heap) ∧
  (∀ a n, a < 32 → p_kd h a = (2, n) → va_T .byte (ro a) n (fun j => .int (p_I h a j)) (p_A B) s s.heap) ∧
  (∀ a c, a < 32 → p_kd h a = (0, c) → c = 10 ∧ va_O "java/lang/String" (ro a) (p_A B) s s.heap ∧ va_OF "java/lang/String" "coder" "B" (.int (p_I h a 1)) (ro a) (p_A B) s s.heap ∧ va_OF "java/lang/String" "value" "[B" (va_rf ((p_R h a 0).map (p_ph B ro))) (ro a) (p_A B) s s.heap) ∧
  (∀ a, a < 32 → (p_kd h a).1 ≤ 2 ∨ 90 ≤ (p_kd h a).1) ∧
  (∀ k r, p_stf[k]? = some r → va_Z r.1 r.2.1 r.2.2 (if k = 3 then .int (p_I h 30 3) else va_rf ((p_R h 30 k).map (p_ph B ro))) (p_A B) s s.heap)
theorem p_RO_plane {B : Nat} {ro : Nat → Nat} {h h' : pHp} {s : State} (H : p_RO B ro h s) (e1 : ∀ a, a < 32 → p_I h' a = p_I h a) (e2 : ∀ a, a < 32 → p_R h' a = p_R h a) (e3 : ∀ a, a < 32 → p_kd h' a = p_kd h a) : p_RO B ro h' s := by
  obtain ⟨h1, h2, h3, h4, h5⟩ := H
  refine ⟨fun a n ha e => ?_, fun a n ha e => ?_, fun a c ha e => ?_, fun a ha => ?_, fun k r hk => ?_⟩
  · rw [e1 a ha]; exact h1 a n ha ((e3 a ha).symm.trans e)
  · rw [e1 a ha]; exact h2 a n ha ((e3 a ha).symm.trans e)
  · rw [e1 a ha, e2 a ha]; exact h3 a c ha ((e3 a ha).symm.trans e)
  · rw [e3 a ha]; exact h4 a ha
  · rw [e1 30 (by omega), e2 30 (by omega)]; exact h5 k r hk
theorem p_RO_move {B : Nat} {ro : Nat → Nat} {h : pHp} {U V : State} (hvm : U.vm.Alike V.vm) (hq : ∀ a : Nat, a < U.heap.size → ¬ p_A B a → V.heap[a]? = U.heap[a]?) (H : p_RO B ro h U) : p_RO B ro h V := by
  obtain ⟨h1, h2, h3, h4, h5⟩ := H
  exact ⟨fun a n ha e => (va_T.moved hvm (h1 a n ha e)).kept hq, fun a n ha e => (va_T.moved hvm (h2 a n ha e)).kept hq, fun a c ha e => ⟨(h3 a c ha e).1, (va_O.moved hvm (h3 a c ha e).2.1).kept hq, (va_OF.moved hvm (h3 a c ha e).2.2.1).kept hq, (va_OF.moved hvm (h3 a c ha e).2.2.2).kept hq⟩, h4, fun k r hk => (va_Z.moved hvm (h5 k r hk)).kept hq⟩
def p_EX (ro : Nat → Nat) (s : State) : Prop :=
  (∀ q ∈ p_st, vk_R q.1 q.2.1 q.2.2.1 (ro q.2.2.2) s) ∧
  (∀ (own : String) (i : Nat) (y : MethodName), Cond.methodLinkNest own i y "HutAnswers" ∈ lw_tbl → va_Nw (.methodLinkNest own i y "HutAnswers") s) ∧
  (∀ (own : String) (i : Nat) (a n d : String), Cond.fieldLinkNest own i a n d "HutAnswers" ∈ lw_tbl → va_Nw (.fieldLinkNest own i a n d "HutAnswers") s) ∧
  (∀ C : String, Cond.arrayOver (.object C) ∈ lw_tbl → va_AO C s)
theorem p_EX_warm {ro : Nat → Nat} {s U : State} (hW : s.WarmedH U.vm) (H : p_EX ro s) : p_EX ro U :=
  ⟨fun q hq => (H.1 q hq).warm hW, fun o i y h => va_Nw.warmM hW (H.2.1 o i y h), fun o i a n d h => va_Nw.warmF hW (H.2.2.1 o i a n d h), fun C h => (H.2.2.2 C h).moved hW.alike⟩
theorem p_EX_same {ro : Nat → Nat} {s U : State} (hv : U.vm = s.vm) (H : p_EX ro s) : p_EX ro U :=
  ⟨fun q hq => (H.1 q hq).same hv, fun o i y h => va_Nw.same rfl hv.symm (H.2.1 o i y h), fun o i a n d h => va_Nw.same rfl hv.symm (H.2.2.1 o i a n d h), fun C h => (H.2.2.2 C h).moved (by rw [hv]; exact Vm.Alike.refl _)⟩
/-- the class tables, by number -/
theorem p_cl_in {c : Nat} {r : vw_C} (h : pm_cl[c]? = some r) : ∀ w ∈ u_ws r.1 r.2.1 r.2.2, w ∈ p_tb := by
  match c, h with
  | 0, h => cases h; exact ig_X0
  | 1, h => cases h; exact ig_X1
  | 2, h => cases h; exact ig_X2
  | 3, h => cases h; exact ig_X3
  | 4, h => cases h; exact ig_X4
  | 5, h => cases h; exact ig_X5
  | 6, h => cases h; exact ig_X6
  | 7, h => cases h; exact ig_X7
  | 8, h => cases h; exact ig_X8
  | 9, h => cases h; exact ig_X9
  | n + 10, h => simp [pm_cl] at h
theorem p_cl_ty {c : Nat} {r : vw_C} (h : pm_cl[c]? = some r) : ∀ k, k < r.2.2 → parseFieldDescriptor (r.2.1 k).2.2.1 = some (p_ty c k) := by
  match c, h with
  | 0, h => cases h; exact tyX0_ok
  | 1, h => cases h; exact tyX1_ok
  | 2, h => cases h; exact tyX2_ok
  | 3, h => cases h; exact tyX3_ok
  | 4, h => cases h; exact tyX4_ok
  | 5, h => cases h; exact tyX5_ok
  | 6, h => cases h; exact tyX6_ok
  | 7, h => cases h; exact tyX7_ok
  | 8, h => cases h; exact tyX8_ok
  | 9, h => cases h; exact tyX9_ok
  | n + 10, h => simp [pm_cl] at h
theorem p_cl_nm {c : Nat} {r : vw_C} (h : pm_cl[c]? = some r) : ∀ a, a < r.2.2 → ∀ b, b < r.2.2 → a ≠ b → (r.2.1 a).2.1 ≠ (r.2.1 b).2.1 := by
  match c, h with
  | 0, h => cases h; exact nmX0
  | 1, h => cases h; exact nmX1
  | 2, h => cases h; exact nmX2
  | 3, h => cases h; exact nmX3
  | 4, h => cases h; exact nmX4
  | 5, h => cases h; exact nmX5
  | 6, h => cases h; exact nmX6
  | 7, h => cases h; exact nmX7
  | 8, h => cases h; exact nmX8
  | 9, h => cases h; exact nmX9
  | n + 10, h => simp [pm_cl] at h
theorem p_cl_N {c : Nat} {r : vw_C} (h : pm_cl[c]? = some r) : r.2.2 = p_N c := by
  match c, h with
  | 0, h => cases h; rfl
  | 1, h => cases h; rfl
  | 2, h => cases h; rfl
  | 3, h => cases h; rfl
  | 4, h => cases h; rfl
  | 5, h => cases h; rfl
  | 6, h => cases h; rfl
  | 7, h => cases h; rfl
  | 8, h => cases h; rfl
  | 9, h => cases h; rfl
  | n + 10, h => simp [pm_cl] at h
def p_tyk : FieldType → Bool
  | .float => false
  | .double => false
  | _ => true
theorem p_tyk_ok : ∀ c, c < 10 → ∀ k, k < p_N c → p_tyk (p_ty c k) = true := by decide +kernel
theorem p_fv_new {B : Nat} {ro : Nat → Nat} {h : pHp} {q : pKd} {ty : FieldType} (ht : p_tyk ty = true) (k : Nat) : p_fv B ro (p_new h q) (p_X h).length ty k = defaultValue ty := by
  have e1 : p_I (p_new h q) (p_X h).length k = 0 := congrFun (p_fn_eq (f := h.1)) k
  have e2 : p_L (p_new h q) (p_X h).length k = 0 := congrFun (p_fn_eq (f := h.2.1)) k
  have e3 : p_R (p_new h q) (p_X h).length k = none := congrFun (p_fn_eq (f := h.2.2.1)) k
  cases ty <;> first | (cases ht; done) | (unfold p_fv; simp only [e1, e2, e3]; rfl)
def p_Cx (y : Nat) (p : Program) (s : State) (m : MethodId) (args : Array Value) (meth : Method) (c : Code) (D : va_G) (ca : Nat → ClassId) (B : Nat) (ro : Nat → Nat) : Prop :=
  p.tables.exec = Jvm.exec ∧ c.code = (p_mi y).2.1 ∧ c.maxLocals = (p_mi y).2.2.1 ∧ s.vm.findClass (p_mi y).1.cls = some m.cls ∧ (∀ w ∈ p_tb, w.before args s = true) ∧ va_K D pm_cl (p_tys ca) s ∧ p_EX ro s ∧ (meth.name = (p_mi y).1.name ∨ (p_mi y).1.name ≠ "<init>") ∧ B ≤ s.heap.size
/-- the machine goes on from here -/
def zW (p : Program) (l : Launch) (e : Env) (R : Room) (s : State) (m : MethodId) (args : Array Value) (below : List Frame) (meth : Method) (c : Code) (QW : State → Prop) (D : va_G) (ca : Nat → ClassId) (B : Nat) (ro : Nat → Nat) (y MC MS : Nat) (pc kc ks : Nat) (ls st : List Value) (h : pHp) : Prop :=
  ∀ (H : Heap) (locs : List Loc) (lsA : Array Slot) (cells slots : Nat), cells + kc = MC → slots + ks = MS → s.heap.size + cells = B + ((p_X h).length - 32) → 32 ≤ (p_X h).length → p_RO B ro h s → va_P D pm_cl (p_ws ca B ro h) H → va_S (p_A B) s.heap H locs → lv_has lsA (p_mi y).2.2.1 (p_as B ro 0 ls) →
    W p l e R s m args below meth c H locs cells slots QW (F0 m pc lsA (st.map (p_pv B ro)))
