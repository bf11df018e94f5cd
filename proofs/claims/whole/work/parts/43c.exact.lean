/-! A RUN THAT ENDS HAS ONE END -/
section EX
variable {cn : Nat → Int32} {cl : Nat → Int64} {Q : Option Value → pHp → Prop}
theorem p_one_ex {i : Instr} {ex : List Nat} {ls st : List Value} {h : pHp} {k : List Value → List Value → pHp → Prop} {k' : Option Value → pHp → List Value → List Value → pHp → Prop} (hk : ∀ ls st h, k ls st h → ∃ v g, Q v g ∧ k' v g ls st h) (H : p_one cn cl i ex ls st h k) : ∃ v g, Q v g ∧ p_one cn cl i ex ls st h (k' v g) := by
  cases i <;> unfold p_one at H ⊢ <;> first
    | exact H.elim
    | exact hk _ _ _ H
    | (dsimp only at H ⊢; split at H <;> (try (rename_i heq; simp only [heq])) <;> first
        | exact H.elim
        | exact hk _ _ _ H
        | (obtain ⟨v, g, q, r⟩ := hk _ _ _ H.2; exact ⟨v, g, q, H.1, r⟩)
        | (obtain ⟨v, g, q, r⟩ := hk _ _ _ H.2.2; exact ⟨v, g, q, H.1, H.2.1, r⟩)
        | (obtain ⟨v, g, q, r⟩ := hk _ _ _ H.2.2.2; exact ⟨v, g, q, H.1, H.2.1, H.2.2.1, r⟩)
        | (obtain ⟨v, g, q, r⟩ := hk _ _ _ H.2.2.2.2; exact ⟨v, g, q, H.1, H.2.1, H.2.2.1, H.2.2.2.1, r⟩)
        | (obtain ⟨v, g, q, r⟩ := hk _ _ _ H.2.2.2.2.2.2.2.2.2.2; exact ⟨v, g, q, H.1, H.2.1, H.2.2.1, H.2.2.2.1, H.2.2.2.2.1, H.2.2.2.2.2.1, H.2.2.2.2.2.2.1, H.2.2.2.2.2.2.2.1, H.2.2.2.2.2.2.2.2.1, H.2.2.2.2.2.2.2.2.2.1, r⟩))
theorem p_sw_out {x : Int32} {G : Nat → Prop} : ∀ (bs : List Nat) (lo : Int), (x.toInt < lo ∨ lo + bs.length ≤ x.toInt) → p_sw x G lo bs
  | [], _, _ => trivial
  | b :: bs, lo, h => by
    simp only [List.length_cons] at h
    exact ⟨fun e => by omega, p_sw_out bs (lo + 1) (by omega)⟩
theorem p_sw_ex {x : Int32} {G : Nat → Prop} {G' : Option Value → pHp → Nat → Prop} (hG : ∀ b, G b → ∃ v g, Q v g ∧ G' v g b) : ∀ (bs : List Nat) (lo : Int), lo ≤ x.toInt → x.toInt < lo + bs.length → p_sw x G lo bs → ∃ v g, Q v g ∧ p_sw x (G' v g) lo bs
  | [], _, h1, h2, _ => by simp at h2; omega
  | b :: bs, lo, h1, h2, H => by
    by_cases e : x.toInt = lo
    · obtain ⟨v, g, q, r⟩ := hG _ (H.1 e)
      exact ⟨v, g, q, fun _ => r, p_sw_out bs (lo + 1) (by omega)⟩
    · obtain ⟨v, g, q, r⟩ := p_sw_ex hG bs (lo + 1) (by omega) (by simp at h2; omega) H.2
      exact ⟨v, g, q, fun e2 => absurd e2 e, r⟩
theorem em_ex {c A B : Prop} {A' B' : Option Value → pHp → Prop} (H : (c → A) ∧ (¬ c → B)) (hA : A → ∃ v g, Q v g ∧ A' v g) (hB : B → ∃ v g, Q v g ∧ B' v g) : ∃ v g, Q v g ∧ ((c → A' v g) ∧ (¬ c → B' v g)) := by
  by_cases e : c
  · obtain ⟨v, g, q, r⟩ := hA (H.1 e); exact ⟨v, g, q, fun _ => r, fun n => absurd e n⟩
  · obtain ⟨v, g, q, r⟩ := hB (H.2 e); exact ⟨v, g, q, fun n => absurd n e, fun _ => r⟩
theorem em_ex2 {c A B : Prop} {A' B' : Option Value → pHp → Prop} (H : (¬ c → A) ∧ (c → B)) (hA : A → ∃ v g, Q v g ∧ A' v g) (hB : B → ∃ v g, Q v g ∧ B' v g) : ∃ v g, Q v g ∧ ((¬ c → A' v g) ∧ (c → B' v g)) := by
  by_cases e : c
  · obtain ⟨v, g, q, r⟩ := hB (H.2 e); exact ⟨v, g, q, fun n => absurd e n, fun _ => r⟩
  · obtain ⟨v, g, q, r⟩ := hA (H.1 e); exact ⟨v, g, q, fun _ => r, fun n => absurd n e⟩
theorem sw_ex {x : Int32} {lo hi : Int} {bs : List Nat} {A : Prop} {A' : Option Value → pHp → Prop} {G : Nat → Prop} {G' : Option Value → pHp → Nat → Prop} (hl : lo + (bs.length : Int) = hi + 1) (H : (x.toInt < lo ∨ hi < x.toInt → A) ∧ p_sw x G lo bs) (hA : A → ∃ v g, Q v g ∧ A' v g) (hG : ∀ b, G b → ∃ v g, Q v g ∧ G' v g b) : ∃ v g, Q v g ∧ ((x.toInt < lo ∨ hi < x.toInt → A' v g) ∧ p_sw x (G' v g) lo bs) := by
  by_cases e : x.toInt < lo ∨ hi < x.toInt
  · obtain ⟨v, g, q, r⟩ := hA (H.1 e); exact ⟨v, g, q, fun _ => r, p_sw_out _ _ (by omega)⟩
  · obtain ⟨v, g, q, r⟩ := p_sw_ex hG bs lo (by omega) (by omega) H.2; exact ⟨v, g, q, fun n => absurd n e, r⟩
theorem p_blk_ex {G : Nat → pK} {C : Nat → List Value → List pI → pK} {R : Option Value → pK} {G' : Option Value → pHp → Nat → pK} {C' : Option Value → pHp → Nat → List Value → List pI → pK} {R' : Option Value → pHp → Option Value → pK}
    (hG : ∀ b kc ks ls st h, G b kc ks ls st h → ∃ v g, Q v g ∧ G' v g b kc ks ls st h) (hC : ∀ y vs r kc ks ls st h, p_swk r = true → C y vs r kc ks ls st h → ∃ v g, Q v g ∧ C' v g y vs r kc ks ls st h) (hR : ∀ v kc ks ls st h, R v kc ks ls st h → ∃ v' g, Q v' g ∧ R' v' g v kc ks ls st h) :
    ∀ (b : List pI), p_swk b = true → ∀ (kc ks : Nat) (ls st : List Value) (h : pHp), p_blk cn cl G C R b kc ks ls st h → ∃ v g, Q v g ∧ p_blk cn cl (G' v g) (C' v g) (R' v g) b kc ks ls st h := by
  intro b
  induction b with
  | nil => intro _ kc ks ls st h H; exact H.elim
  | cons q rest ih =>
    intro hs kc ks ls st h H
    have hr := p_swk_tl hs
    obtain ⟨i, len, ex⟩ := q
    have ih := ih hr
    cases i <;> unfold p_blk at H ⊢ <;> first
      | exact p_one_ex (fun _ _ _ H => ih _ _ _ _ _ H) H
      | (dsimp only at H ⊢; split at H <;> (try (rename_i heq; simp only [heq])) <;> first
          | exact H.elim
          | exact hG _ _ _ _ _ _ H
          | exact hR _ _ _ _ _ _ H
          | (obtain ⟨v, g, q, r⟩ := hR _ _ _ _ _ _ H.2; exact ⟨v, g, q, H.1, r⟩)
          | exact ih _ _ _ _ _ H
          | (obtain ⟨v, g, q, r⟩ := ih _ _ _ _ _ H.2; exact ⟨v, g, q, H.1, r⟩)
          | (obtain ⟨v, g, q, r⟩ := ih _ _ _ _ _ H.2.2.2; exact ⟨v, g, q, H.1, H.2.1, H.2.2.1, r⟩)
          | exact p_one_ex (fun _ _ _ H => ih _ _ _ _ _ H) H
          | (split at H <;> (try (rename_i heq; simp only [heq])) <;> first
              | exact H.elim
              | exact em_ex H (hG _ _ _ _ _ _) (ih _ _ _ _ _)
              | exact em_ex2 H (hG _ _ _ _ _ _) (ih _ _ _ _ _)
              | (obtain ⟨v, g, q, r⟩ := hC _ _ _ _ _ _ _ _ hr H.2.2; exact ⟨v, g, q, H.1, H.2.1, r⟩)
              | (obtain ⟨v, g, q, r⟩ := hC _ _ _ _ _ _ _ _ hr H.2; exact ⟨v, g, q, H.1, r⟩))
          | (simp only [p_swk, Bool.and_eq_true, decide_eq_true_eq, List.length_cons] at hs
             exact sw_ex (by omega) H (hG _ _ _ _ _ _) (fun b => hG _ _ _ _ _ _)))
end EX
def exC (d y : Nat) (v : Option Value) (g : pHp) : Nat → List Value → List pI → pK := fun y' vs rest kc ks ls st h => match d with
  | 0 => False
  | d' + 1 => p_cats vs ≤ p_mx y' ∧ ∃ (kc' ks' : Nat) (Q' : Option Value → pHp → Prop), kc' ≤ kc ∧ ks' ≤ ks ∧ P_run d' y' (p_bk y' 0) kc' ks' (p_ent vs) [] h Q' ∧
      ∀ w h', Q' w h' → P_run (d' + 1) y rest (kc - kc') (ks - ks') ls (w.toList ++ st) h' (fun w k => w = v ∧ k = g)
theorem P_exact {d y : Nat} {b : List pI} {kc ks : Nat} {ls st : List Value} {h : pHp} {Q : Option Value → pHp → Prop} (hb : p_swk b = true) (H : P_run d y b kc ks ls st h Q) : ∃ v g, Q v g ∧ P_run d y b kc ks ls st h (fun w k => w = v ∧ k = g) := by
  refine p_run_ind (Z := fun d y b kc ks ls st h Q => p_swk b = true → ∃ v g, Q v g ∧ P_run d y b kc ks ls st h (fun w k => w = v ∧ k = g)) ?_ H hb
  intro d y b kc ks ls st h Q S hb
  unfold p_stp at S
  have hC : ∀ y' vs r kc ks ls st h, p_swk r = true → (match d with
      | 0 => False
      | d' + 1 => p_cats vs ≤ p_mx y' ∧ ∃ (kc' ks' : Nat) (Q' : Option Value → pHp → Prop), kc' ≤ kc ∧ ks' ≤ ks ∧ (p_swk (p_bk y' 0) = true → ∃ v g, Q' v g ∧ P_run d' y' (p_bk y' 0) kc' ks' (p_ent vs) [] h (fun w k => w = v ∧ k = g)) ∧
          ∀ v h', Q' v h' → (p_swk r = true → ∃ w g, Q w g ∧ P_run (d' + 1) y r (kc - kc') (ks - ks') ls (v.toList ++ st) h' (fun w' k => w' = w ∧ k = g))) → ∃ v g, Q v g ∧ exC d y v g y' vs r kc ks ls st h := by
    intro y' vs r kc ks ls st h hr c
    cases d with
    | zero => exact c.elim
    | succ d' =>
      obtain ⟨a0, kc', ks', Q', a1, a2, a3, a4⟩ := c
      obtain ⟨v1, g1, q1, r1⟩ := a3 (p_bk_sw _ _)
      obtain ⟨v2, g2, q2, r2⟩ := a4 v1 g1 q1 hr
      exact ⟨v2, g2, q2, a0, kc', ks', _, a1, a2, r1, fun w h' e => by obtain ⟨rfl, rfl⟩ := e; exact r2⟩
  have key := p_blk_ex (Q := Q) (G' := fun v g b' kc ks ls st h => P_run d y (p_bk y b') kc ks ls st h (fun w k => w = v ∧ k = g)) (C' := exC d y) (R' := fun v g w kc ks _ _ h => kc = 0 ∧ ks = 0 ∧ w = v ∧ h = g) (fun b kc ks ls st h H => H (p_bk_sw _ _)) (fun y' vs r kc ks ls st h hr c => hC y' vs r kc ks ls st h hr (by cases d <;> exact c)) (fun v kc ks ls st h r => ⟨v, h, r.2.2, r.1, r.2.1, rfl, rfl⟩) b hb kc ks ls st h S
  obtain ⟨v, g, q, r⟩ := key
  refine ⟨v, g, q, p_run_of ?_⟩
  cases d <;> exact r
theorem P_mex {d z : Nat} {vs : List Value} {h : pHp} {Q : Option Value → pHp → Prop} (H : P_m d z vs h Q) : ∃ v g, Q v g ∧ P_m d z vs h (fun w k => w = v ∧ k = g) := P_exact (p_bk_sw _ _) H
