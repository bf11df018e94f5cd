/-! ORDER: the search, without memory and without prune -/
abbrev oB := Option (Nat × List Nat)
def btr (u : Nat) (p : List Nat) : oB → oB
  | none => some (u, p)
  | some b => if u < b.1 then some (u, p) else some b
def lsT (u : Nat) : oB → Prop
  | none => False
  | some b => b.1 ≤ u
def foB (g : Nat → oB → oB) : Nat → oB → oB
  | 0, b => b
  | i + 1, b => g i (foB g i b)
def dfs (tq : Nat → Nat) (y : Nat → Nat → Option Nat) (k : Nat) : Nat → Nat → Nat → List Nat → oB → oB
  | 0, _, u, p, b => btr u p b
  | f + 1, dn, u, p, b => foB (fun i b => if bt dn i = 1 then b else match y i u with
    | none => b
    | some t => dfs tq y k f (dn + 2 ^ i) (u + t) (p ++ [tq i]) b) k b
def tot (y : Nat → Nat → Option Nat) (k : Nat) : Nat → Nat → Nat → Nat → Prop
  | 0, _, u, T => T = u
  | f + 1, dn, u, T => ∃ i, i < k ∧ ¬ bt dn i = 1 ∧ ∃ t, y i u = some t ∧ tot y k f (dn + 2 ^ i) (u + t) T
theorem lsT_le {u v : Nat} {b : oB} (h : lsT u b) (hv : u ≤ v) : lsT v b := by
  cases b with
  | none => exact h.elim
  | some b => exact Nat.le_trans (show b.1 ≤ u from h) hv
theorem lsT_btr {u v : Nat} {p : List Nat} {b : oB} (h : lsT v b) : lsT v (btr u p b) := by
  cases b with
  | none => exact h.elim
  | some b =>
    have h : b.1 ≤ v := h
    show lsT v (if u < b.1 then some (u, p) else some b)
    split
    · show u ≤ v; omega
    · exact h
theorem lsT_btr2 {u : Nat} {p : List Nat} {b : oB} : lsT u (btr u p b) := by
  cases b with
  | none => exact Nat.le_refl u
  | some b =>
    show lsT u (if u < b.1 then some (u, p) else some b)
    split
    · exact Nat.le_refl u
    · show b.1 ≤ u; omega
theorem btr_id {u : Nat} {p : List Nat} {b : oB} (h : lsT u b) : btr u p b = b := by
  cases b with
  | none => exact h.elim
  | some b =>
    show (if u < b.1 then some (u, p) else some b) = some b
    rw [if_neg (show ¬ u < b.1 from Nat.not_lt.mpr h)]
theorem foB_ind {P : oB → Prop} {g : Nat → oB → oB} : ∀ k b, P b → (∀ i b, i < k → P b → P (g i b)) → P (foB g k b)
  | 0, b, h, _ => h
  | k + 1, b, h, hg => hg k _ (by omega) (foB_ind k b h (fun i b hi => hg i b (by omega)))
theorem dfs_mono {tq : Nat → Nat} {y : Nat → Nat → Option Nat} {k v : Nat} : ∀ f dn u p b, lsT v b → lsT v (dfs tq y k f dn u p b)
  | 0, _, u, p, b, h => lsT_btr h
  | f + 1, dn, u, p, b, h => by
    unfold dfs
    refine foB_ind (P := lsT v) k b h (fun i b _ hb => ?_)
    split
    · exact hb
    · split
      · exact hb
      · exact dfs_mono f _ _ _ _ hb
theorem tot_ge {y : Nat → Nat → Option Nat} {k : Nat} : ∀ f dn u T, tot y k f dn u T → u ≤ T
  | 0, _, u, T, h => by unfold tot at h; omega
  | f + 1, dn, u, T, h => by
    obtain ⟨i, _, _, t, _, h⟩ := h
    have := tot_ge f _ _ _ h
    omega
theorem dfs_id {tq : Nat → Nat} {y : Nat → Nat → Option Nat} {k : Nat} : ∀ f dn u p b, (∀ T, tot y k f dn u T → lsT T b) → dfs tq y k f dn u p b = b
  | 0, _, u, p, b, h => btr_id (h u rfl)
  | f + 1, dn, u, p, b, h => by
    unfold dfs
    refine foB_ind (P := fun x => x = b) k b rfl (fun i x hi hx => ?_)
    subst hx
    split
    · rfl
    · rename_i hb
      split
      · rfl
      · rename_i t ht
        exact dfs_id f _ _ _ _ (fun T hT => h T ⟨i, hi, hb, t, ht, hT⟩)
theorem dfs_prune {tq : Nat → Nat} {y : Nat → Nat → Option Nat} {k f dn u : Nat} {p : List Nat} {b : oB} (h : lsT u b) : dfs tq y k f dn u p b = b := dfs_id f dn u p b (fun T hT => lsT_le h (tot_ge f dn u T hT))
theorem foB_at {v : Nat} {g : Nat → oB → oB} (hm : ∀ i b, lsT v b → lsT v (g i b)) {j : Nat} (hj : ∀ b, lsT v (g j b)) : ∀ k b, j < k → lsT v (foB g k b)
  | 0, _, h => absurd h (by omega)
  | k + 1, b, h => by
    unfold foB
    by_cases e : j = k
    · subst e; exact hj _
    · exact hm k _ (foB_at hm hj k b (by omega))
theorem dfs_tot {tq : Nat → Nat} {y : Nat → Nat → Option Nat} {k T : Nat} : ∀ f dn u p b, tot y k f dn u T → lsT T (dfs tq y k f dn u p b)
  | 0, _, u, p, b, h => by unfold tot at h; subst h; exact lsT_btr2
  | f + 1, dn, u, p, b, h => by
    obtain ⟨i, hi, hb, t, ht, h⟩ := h
    unfold dfs
    refine foB_at (j := i) (fun j x hx => ?_) (fun x => ?_) k b hi
    · split
      · exact hx
      · split
        · exact hx
        · exact dfs_mono f _ _ _ _ hx
    · rw [if_neg hb, ht]
      exact dfs_tot f _ _ _ _ h
