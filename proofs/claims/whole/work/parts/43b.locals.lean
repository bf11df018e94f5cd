/-! LOCALS that are not read any more may hold anything (but a long) -/
theorem p_at_set : ∀ (l : List Value) (n i : Nat) (v : Value), p_at (p_set l n v) i = if i = n then v else p_at l i
  | [], 0, 0, v => rfl
  | [], 0, i + 1, v => by rw [if_neg (by omega)]; rfl
  | [], n + 1, 0, v => by rw [if_neg (by omega)]; rfl
  | [], n + 1, i + 1, v => by
    show p_at (p_set [] n v) i = _
    rw [p_at_set [] n i v]
    by_cases e : i = n
    · rw [if_pos e, if_pos (by omega)]
    · rw [if_neg e, if_neg (by omega)]; rfl
  | _ :: l, 0, 0, v => rfl
  | _ :: l, 0, i + 1, v => by rw [if_neg (by omega)]; rfl
  | w :: l, n + 1, 0, v => by rw [if_neg (by omega)]; rfl
  | w :: l, n + 1, i + 1, v => by
    show p_at (p_set l n v) i = _
    rw [p_at_set l n i v]
    by_cases e : i = n
    · rw [if_pos e, if_pos (by omega)]
    · rw [if_neg e, if_neg (by omega)]; rfl
def lsLe (l l' : List Value) : Prop := ∀ i, p_at l i = p_at l' i ∨ (p_at l i = .retAddr 0 ∧ (p_at l' i).category = 1)
theorem lsLe_set {l l' : List Value} (h : lsLe l l') (n : Nat) (v : Value) : lsLe (p_set l n v) (p_set l' n v) := by
  intro i
  rw [p_at_set, p_at_set]
  by_cases e : i = n
  · rw [if_pos e, if_pos e]; exact Or.inl rfl
  · rw [if_neg e, if_neg e]; exact h i
theorem lsLe_i {l l' : List Value} (h : lsLe l l') {n : Nat} {x : Int32} (e : p_at l n = .int x) : p_at l' n = .int x := by
  rcases h n with e2 | ⟨e2, -⟩
  · rw [← e2, e]
  · rw [e] at e2; cases e2
theorem lsLe_l {l l' : List Value} (h : lsLe l l') {n : Nat} {x : Int64} (e : p_at l n = .long x) : p_at l' n = .long x := by
  rcases h n with e2 | ⟨e2, -⟩
  · rw [← e2, e]
  · rw [e] at e2; cases e2
theorem lsLe_r {l l' : List Value} (h : lsLe l l') {n : Nat} {x : Nat} (e : p_at l n = .ref x) : p_at l' n = .ref x := by
  rcases h n with e2 | ⟨e2, -⟩
  · rw [← e2, e]
  · rw [e] at e2; cases e2
theorem lsLe_n {l l' : List Value} (h : lsLe l l') {n : Nat} (e : p_at l n = .null) : p_at l' n = .null := by
  rcases h n with e2 | ⟨e2, -⟩
  · rw [← e2, e]
  · rw [e] at e2; cases e2
theorem lsLe_ok {l l' : List Value} (h : lsLe l l') {n : Nat} (e : p_ok1 l n) : p_ok1 l' n := by
  cases n with
  | zero => trivial
  | succ n =>
    rcases h n with e2 | ⟨-, e2⟩
    · show (p_at l' n).category = 1
      rw [← e2]; exact e
    · exact e2
section LSM
variable {cn : Nat → Int32} {cl : Nat → Int64}
theorem p_one_ls {i : Instr} {ex : List Nat} {ls ls' st : List Value} {h : pHp} {k k' : List Value → List Value → pHp → Prop} (hl : lsLe ls ls') (hk : ∀ ls ls' st h, lsLe ls ls' → k ls st h → k' ls' st h) (H : p_one cn cl i ex ls st h k) : p_one cn cl i ex ls' st h k' := by
  cases i <;> unfold p_one at H ⊢ <;> first
    | exact H
    | exact hk _ _ _ _ hl H
    | (dsimp only at H ⊢; split at H <;> first
        | exact H.elim
        | exact hk _ _ _ _ hl H
        | exact ⟨H.1, hk _ _ _ _ hl H.2⟩
        | exact ⟨H.1, H.2.1, hk _ _ _ _ hl H.2.2⟩
        | exact ⟨H.1, H.2.1, H.2.2.1, hk _ _ _ _ hl H.2.2.2⟩
        | exact ⟨H.1, H.2.1, H.2.2.1, H.2.2.2.1, hk _ _ _ _ hl H.2.2.2.2⟩
        | exact ⟨H.1, H.2.1, H.2.2.1, H.2.2.2.1, H.2.2.2.2.1, H.2.2.2.2.2.1, H.2.2.2.2.2.2.1, H.2.2.2.2.2.2.2.1, H.2.2.2.2.2.2.2.2.1, H.2.2.2.2.2.2.2.2.2.1, hk _ _ _ _ hl H.2.2.2.2.2.2.2.2.2.2⟩
        | (rename_i e; rw [lsLe_i hl e]; exact hk _ _ _ _ hl H)
        | (rename_i e; rw [lsLe_l hl e]; exact hk _ _ _ _ hl H)
        | (rename_i e; rw [lsLe_r hl e]; exact hk _ _ _ _ hl H)
        | (rename_i e; rw [lsLe_n hl e]; exact hk _ _ _ _ hl H)
        | (rename_i e; rw [lsLe_i hl e]; exact ⟨lsLe_ok hl H.1, hk _ _ _ _ (lsLe_set hl _ _) H.2⟩)
        | exact ⟨lsLe_ok hl H.1, hk _ _ _ _ (lsLe_set hl _ _) H.2⟩
        | exact ⟨lsLe_ok hl H.1, hk _ _ _ _ (lsLe_set (lsLe_set hl _ _) _ _) H.2⟩)
theorem p_blk_ls {G G' : Nat → pK} {C C' : Nat → List Value → List pI → pK} {R R' : Option Value → pK}
    (hG : ∀ b kc ks ls ls' st h, lsLe ls ls' → G b kc ks ls st h → G' b kc ks ls' st h) (hC : ∀ y vs r kc ks ls ls' st h, lsLe ls ls' → C y vs r kc ks ls st h → C' y vs r kc ks ls' st h) (hR : ∀ v kc ks ls ls' st h, R v kc ks ls st h → R' v kc ks ls' st h) :
    ∀ (b : List pI) (kc ks : Nat) (ls ls' st : List Value) (h : pHp), lsLe ls ls' → p_blk cn cl G C R b kc ks ls st h → p_blk cn cl G' C' R' b kc ks ls' st h := by
  intro b
  induction b with
  | nil => intro kc ks ls ls' st h _ H; exact H
  | cons q rest ih =>
    obtain ⟨i, len, ex⟩ := q
    intro kc ks ls ls' st h hl H
    cases i <;> unfold p_blk at H ⊢ <;> first
      | exact p_one_ls hl (fun _ _ _ _ hl H => ih _ _ _ _ _ _ hl H) H
      | (dsimp only at H ⊢; split at H <;> first
          | exact H.elim
          | exact hG _ _ _ _ _ _ _ hl H
          | exact hR _ _ _ _ _ _ _ H
          | exact ⟨H.1, hR _ _ _ _ _ _ _ H.2⟩
          | exact ih _ _ _ _ _ _ hl H
          | exact ⟨H.1, ih _ _ _ _ _ _ hl H.2⟩
          | exact ⟨H.1, H.2.1, H.2.2.1, ih _ _ _ _ _ _ hl H.2.2.2⟩
          | exact ⟨fun e => hG _ _ _ _ _ _ _ hl (H.1 e), p_sw_mono (fun _ => hG _ _ _ _ _ _ _ hl) _ _ H.2⟩
          | exact p_one_ls hl (fun _ _ _ _ hl H => ih _ _ _ _ _ _ hl H) H
          | (split at H <;> first
              | exact H.elim
              | exact ⟨fun e => hG _ _ _ _ _ _ _ hl (H.1 e), fun e => ih _ _ _ _ _ _ hl (H.2 e)⟩
              | exact ⟨H.1, H.2.1, hC _ _ _ _ _ _ _ _ _ hl H.2.2⟩
              | exact ⟨H.1, hC _ _ _ _ _ _ _ _ _ hl H.2⟩))
end LSM
/-- more locals -/
theorem P_ls {d y : Nat} {b : List pI} {kc ks : Nat} {ls ls' st : List Value} {h : pHp} {Q : Option Value → pHp → Prop} (H : P_run d y b kc ks ls st h Q) (hl : lsLe ls ls') : P_run d y b kc ks ls' st h Q := by
  refine p_run_ind (Z := fun d y b kc ks ls st h Q => ∀ ls', lsLe ls ls' → P_run d y b kc ks ls' st h Q) ?_ H ls' hl
  intro d y b kc ks ls st h Q S ls' hl
  unfold p_stp at S
  refine p_run_of ?_
  unfold p_stp
  refine p_blk_ls (G := fun b' kc ks ls st h => ∀ (ls' : List Value), lsLe ls ls' → P_run d y (p_bk y b') kc ks ls' st h Q) (R := fun v kc ks _ _ h => kc = 0 ∧ ks = 0 ∧ Q v h) (fun _ _ _ _ _ _ _ hl g => g _ hl) ?_ (fun v kc ks ls ls' st h r => r) _ _ _ _ _ _ _ hl S
  intro y' vs r kc ks ls ls' st h hl c
  cases d with
  | zero => exact c
  | succ d' =>
    obtain ⟨a0, kc', ks', Q', a1, a2, a3, a4⟩ := c
    exact ⟨a0, kc', ks', Q', a1, a2, a3 _ (fun i => Or.inl rfl), fun v h' q => a4 v h' q _ hl⟩
/-- deeper is no harm -/
theorem P_up {d y : Nat} {b : List pI} {kc ks : Nat} {ls st : List Value} {h : pHp} {Q : Option Value → pHp → Prop} (H : P_run d y b kc ks ls st h Q) : ∀ e, d ≤ e → P_run e y b kc ks ls st h Q := by
  refine p_run_ind (Z := fun d y b kc ks ls st h Q => ∀ e, d ≤ e → P_run e y b kc ks ls st h Q) ?_ H
  intro d y b kc ks ls st h Q S e he
  refine p_run_of (p_blk_mono (fun _ _ _ _ _ _ g => g _ he) ?_ (fun v kc ks ls st h r => r) _ _ _ _ _ _ S)
  intro y' vs r kc ks ls st h c
  cases d with
  | zero => exact c.elim
  | succ d' =>
    obtain ⟨e', rfl⟩ : ∃ e', e = e' + 1 := ⟨e - 1, by omega⟩
    obtain ⟨a0, kc', ks', Q', a1, a2, a3, a4⟩ := c
    exact ⟨a0, kc', ks', Q', a1, a2, a3 _ (by omega), fun v h' q => a4 v h' q _ he⟩
theorem P_mup {d e z : Nat} {vs : List Value} {h : pHp} {Q : Option Value → pHp → Prop} (H : P_m d z vs h Q) (he : d ≤ e) : P_m e z vs h Q := P_up H e he
/-- the locals that were there, and more behind them -/
theorem lsLe_ap : ∀ (l r : List Value), (∀ v ∈ r, v.category = 1) → lsLe l (l ++ r)
  | [], r, hr, i => by
    rw [List.nil_append]
    refine Or.inr ⟨rfl, ?_⟩
    induction r generalizing i with
    | nil => rfl
    | cons v r ih =>
      cases i with
      | zero => exact hr v (List.mem_cons_self ..)
      | succ i => exact ih (fun w hw => hr w (List.mem_cons_of_mem _ hw)) i
  | v :: l, r, hr, 0 => Or.inl rfl
  | v :: l, r, hr, i + 1 => lsLe_ap l r hr i
theorem lsLe_c {v : Value} {l l' : List Value} (h : lsLe l l') : lsLe (v :: l) (v :: l')
  | 0 => Or.inl rfl
  | i + 1 => h i
theorem lsLe_n1 {x : Int32} : lsLe [] [.int x] := lsLe_ap [] [.int x] (fun v hv => by rw [List.mem_singleton.mp hv]; rfl)
theorem lsLe_i1 {x : Int32} {l : List Value} (h : lsLe [] l) : lsLe [] (.int x :: l)
  | 0 => Or.inr ⟨rfl, rfl⟩
  | i + 1 => h i
theorem lsLe_r1 {x : Nat} {l : List Value} (h : lsLe [] l) : lsLe [] (.ref x :: l)
  | 0 => Or.inr ⟨rfl, rfl⟩
  | i + 1 => h i
theorem lsLe_u1 {l : List Value} (h : lsLe [] l) : lsLe [] (.retAddr 0 :: l)
  | 0 => Or.inl rfl
  | i + 1 => h i
theorem lsLe_0 : lsLe [] [] := fun _ => Or.inl rfl
theorem lsLe_rf {l : List Value} : lsLe l l := fun _ => Or.inl rfl
