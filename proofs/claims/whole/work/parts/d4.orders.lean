/-! WHAT ORDERS DO -/
/-- what the hut is, how much can be undone, what can be undone, orders done, the latest answer -/
abbrev oS : Type := (Nat → Int32) × Nat × (Nat → Int32) × Nat × Int32
def oE (s : oS) : Nat → Int32 := oEnv s.1 (nI (pc (kn s.1 0))) (nI s.2.2.2.1) s.2.2.2.2
def oA (c : Option (List tCl)) (kd : Nat) (s : oS) (v : Int) : Option oS := if (actW c s.1 kd (zI v)).1 < 0 then none else some (nxK c s.1 kd (zI v), nxN c s.1 kd (zI v) s.2.1, nxM c s.1 kd (zI v) s.2.1 s.2.2.1, s.2.2.2.1 + 1, if kd = 0 then (actW c s.1 kd (zI v)).1 else s.2.2.2.2)
def oR (c : Option (List tCl)) (cl : tCl) (s : oS) : Option oS := if cl_g cl (oE s) = some true then (cl_f cl (oE s)).bind (oA c (cl_k cl) s) else some s
def oT (c : Option (List tCl)) (cl : tCl) : Nat → oS → Option oS
  | 0, s => some s
  | n + 1, s => (oR c cl s).bind (oT c cl n)
/-- a text of orders: which one could not be run, or what is left -/
def oC (c : Option (List tCl)) : Nat → List tCl → oS → Except Nat oS
  | _, [], s => .ok s
  | m, cl :: r, s => match oT c cl (cl_t cl) s with
    | none => .error m
    | some s' => oC c (m + 1) r s'
def oOk (c : Option (List tCl)) (K0 : Nat → Int32) (s : oS) : Prop := vld s.1 ∧ lawOf s.1 c ∧ inB (s.2.2.2.2).toInt ∧ ∀ j, 13 ≤ j → s.1 j = K0 j
theorem oA_ok {c : Option (List tCl)} {K0 : Nat → Int32} {kd : Nat} {s s' : oS} {v : Int} (h : oOk c K0 s) (e : oA c kd s v = some s') : oOk c K0 s' ∧ s'.2.2.2.1 = s.2.2.2.1 + 1 := by
  obtain ⟨h1, h2, h3, h4⟩ := h
  unfold oA at e
  split at e
  · cases e
  rename_i hn
  cases e
  refine ⟨⟨(nx_vld h1).1, nx_law h1 h2, ?_, fun j hj => (nx_13 h1 j hj).trans (h4 j hj)⟩, rfl⟩
  show inB (if kd = 0 then (actW c s.1 kd (zI v)).1 else s.2.2.2.2).toInt
  split
  · have hw : ¬ (actW c s.1 kd (zI v)).2 = [] := fun hw => by
      rcases actW_e hw with e | e | e <;> rw [e] at hn <;> exact absurd hn (by decide)
    obtain ⟨-, -, -, x, hx, ex⟩ := actW_n h1 hw
    rw [ex, nI_toInt (by omega)]
    unfold inB
    omega
  · exact h3
theorem oR_ok {c : Option (List tCl)} {K0 : Nat → Int32} {cl : tCl} {s s' : oS} (h : oOk c K0 s) (e : oR c cl s = some s') : oOk c K0 s' ∧ s'.2.2.2.1 ≤ s.2.2.2.1 + 1 := by
  unfold oR at e
  split at e
  · cases hf : cl_f cl (oE s) with
    | none => rw [hf] at e; cases e
    | some v =>
      rw [hf] at e
      obtain ⟨a, b⟩ := oA_ok h e
      exact ⟨a, by omega⟩
  · cases e
    exact ⟨h, by omega⟩
theorem oE_bW {c : Option (List tCl)} {K0 : Nat → Int32} {s : oS} (h : oOk c K0 s) (hn : s.2.2.2.1 ≤ 1000) : bW (nw true) (oE s) := by
  obtain ⟨hV, -, h3, -⟩ := h
  have hb : ∀ {j : Nat} {m : Nat}, s.1 j = nI (kn s.1 j) ∧ kn s.1 j ≤ m → m ≤ 10000 → inB (s.1 j).toInt := fun ⟨e, l⟩ hm => by
    rw [e, nI_toInt (by omega)]; unfold inB; omega
  have g1 : s.1 1 = nI (kn s.1 1) ∧ kn s.1 1 ≤ 99 := kn_e hV (by omega) (by omega) (by omega)
  have g2 : s.1 2 = nI (kn s.1 2) ∧ kn s.1 2 ≤ 9999 := kn_e hV (by omega) (by omega) (by omega)
  have g3 : s.1 3 = nI (kn s.1 3) ∧ kn s.1 3 ≤ 999 := kn_e hV (by omega) (by omega) (by omega)
  have h53 := kn_53 hV
  intro i hi hi2
  have hi := hi rfl
  have hi2 : i < 19 := hi2
  unfold oE oEnv
  split
  · exact hb g2 (by omega)
  split
  · exact hb g1 (by omega)
  split
  · exact hb g3 (by omega)
  split
  · rw [nI_toInt (by have := pc_le (kn s.1 0); omega)]; have := pc_le (kn s.1 0); unfold inB; omega
  split
  · rw [nI_toInt (by omega)]; unfold inB; omega
  split
  · exact h3
  split
  · rename_i hq
    have q8 : i - 11 < 8 := by omega
    obtain ⟨q, hq'⟩ : ∃ q, q = i - 11 := ⟨_, rfl⟩
    rw [← hq'] at q8 ⊢
    have g5 : s.1 (5 + q) = nI (kn s.1 (5 + q)) ∧ kn s.1 (5 + q) ≤ 999 := by
      have : q = 0 ∨ q = 1 ∨ q = 2 ∨ q = 3 ∨ q = 4 ∨ q = 5 ∨ q = 6 ∨ q = 7 := by omega
      rcases this with rfl | rfl | rfl | rfl | rfl | rfl | rfl | rfl <;> exact kn_e hV (by omega) (by omega) (by omega)
    exact hb g5 (by omega)
  · unfold inB; decide
