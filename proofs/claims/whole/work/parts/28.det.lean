/-! THE PURE MACHINE IS DETERMINISTIC: so a run is an equation, and a call of a method with a known end is one, too -/
section DET
variable {cn : Nat → Int32} {cl : Nat → Int64}
theorem p_one_two {i : Instr} {ex : List Nat} {ls st : List Value} {h : pHp} {k k' : List Value → List Value → pHp → Prop} {P : Prop} (hk : ∀ ls st h, k ls st h → k' ls st h → P) (H : p_one cn cl i ex ls st h k) (H2 : p_one cn cl i ex ls st h k') : P := by
  cases i <;> unfold p_one at H H2 <;> first
    | exact H.elim
    | exact hk _ _ _ H H2
    | (dsimp only at H H2; split at H <;> (try dsimp only at H2) <;> (try (rename_i heq; simp only [heq] at H2)) <;> first
        | exact H.elim
        | exact hk _ _ _ H H2
        | exact hk _ _ _ H.2 H2.2
        | exact hk _ _ _ H.2.2 H2.2.2
        | exact hk _ _ _ H.2.2.2 H2.2.2.2
        | exact hk _ _ _ H.2.2.2.2 H2.2.2.2.2
        | exact hk _ _ _ H.2.2.2.2.2.2.2.2.2.2 H2.2.2.2.2.2.2.2.2.2.2)
theorem p_sw_two {x : Int32} {G G' : Nat → Prop} {P : Prop} (hG : ∀ b, G b → G' b → P) : ∀ (bs : List Nat) (lo : Int), lo ≤ x.toInt → x.toInt < lo + bs.length → p_sw x G lo bs → p_sw x G' lo bs → P
  | [], _, h1, h2, _, _ => by simp at h2; omega
  | b :: bs, lo, h1, h2, H, H2 => by
    by_cases e : x.toInt = lo
    · exact hG _ (H.1 e) (H2.1 e)
    · exact p_sw_two hG bs (lo + 1) (by omega) (by simp at h2; omega) H.2 H2.2
/-- each switch has a block for each number -/
def p_swk : List pI → Bool
  | [] => true
  | (.tableswitch _ lo hi _, _, ex) :: r => decide (lo + ((ex.length : Int) - 1) = hi + 1) && p_swk r
  | _ :: r => p_swk r
theorem p_swk_tl {q : pI} {r : List pI} (h : p_swk (q :: r) = true) : p_swk r = true := by
  obtain ⟨i, len, ex⟩ := q
  unfold p_swk at h
  split at h
  · rename_i e; exact absurd e (by simp)
  · rename_i e
    simp only [List.cons.injEq, Prod.mk.injEq] at e
    obtain ⟨-, rfl⟩ := e
    simp only [Bool.and_eq_true] at h
    exact h.2
  · rename_i e
    simp only [List.cons.injEq, Prod.mk.injEq] at e
    obtain ⟨-, rfl⟩ := e
    exact h
theorem p_blk_two {G G' : Nat → pK} {C C' : Nat → List Value → List pI → pK} {R R' : Option Value → pK} {P : Nat → Nat → Nat → Nat → Prop}
    (hP : ∀ n kc ks kc2 ks2, n ≤ ks → n ≤ ks2 → P kc (ks - n) kc2 (ks2 - n) → P (kc + 1) ks (kc2 + 1) ks2)
    (hG : ∀ b kc ks kc2 ks2 ls st h, G b kc ks ls st h → G' b kc2 ks2 ls st h → P kc ks kc2 ks2)
    (hC : ∀ y vs r kc ks kc2 ks2 ls st h, p_swk r = true → C y vs r kc ks ls st h → C' y vs r kc2 ks2 ls st h → P kc ks kc2 ks2)
    (hR : ∀ v kc ks kc2 ks2 ls st h, R v kc ks ls st h → R' v kc2 ks2 ls st h → P kc ks kc2 ks2) :
    ∀ (b : List pI), p_swk b = true → ∀ (kc ks kc2 ks2 : Nat) (ls st : List Value) (h : pHp), p_blk cn cl G C R b kc ks ls st h → p_blk cn cl G' C' R' b kc2 ks2 ls st h → P kc ks kc2 ks2 := by
  intro b
  induction b with
  | nil => intro _ kc ks kc2 ks2 ls st h H _; exact H.elim
  | cons q rest ih =>
    intro hs kc ks kc2 ks2 ls st h H H2
    have hr := p_swk_tl hs
    have ih := ih hr
    obtain ⟨i, len, ex⟩ := q
    cases i <;> unfold p_blk at H H2 <;> first
      | exact p_one_two (fun _ _ _ H H2 => ih _ _ _ _ _ _ _ H H2) H H2
      | (dsimp only at H H2; split at H <;> (try dsimp only at H2) <;> first
          | exact H.elim
          | exact hG _ _ _ _ _ _ _ _ H H2
          | exact hR _ _ _ _ _ _ _ _ H H2
          | exact hR _ _ _ _ _ _ _ _ H.2 H2.2
          | exact ih _ _ _ _ _ _ _ H H2
          | exact p_one_two (fun _ _ _ H H2 => ih _ _ _ _ _ _ _ H H2) H H2
          | (split at H <;> (try dsimp only at H2) <;> (try (rename_i heq; simp only [heq] at H2)) <;> first
              | exact H.elim
              | (refine (Classical.em _).elim (fun e => hG _ _ _ _ _ _ _ _ (H.1 e) (H2.1 e)) (fun e => ih _ _ _ _ _ _ _ (H.2 e) (H2.2 e)))
              | (refine (Classical.em _).elim (fun e => hG _ _ _ _ _ _ _ _ (H.1 e) (H2.1 e)) (fun e => ih _ _ _ _ _ _ _ (H.2 (Classical.not_not.mp e)) (H2.2 (Classical.not_not.mp e))))
              | exact hC _ _ _ _ _ _ _ _ _ _ hr H.2.2 H2.2.2
              | exact hC _ _ _ _ _ _ _ _ _ _ hr H.2 H2.2)
          | (cases kc2 <;> (try dsimp only at H2) <;> first
              | exact H2.elim
              | exact hP _ _ _ _ _ H.1 H2.1 (ih _ _ _ _ _ _ _ H.2 H2.2)
              | exact hP _ _ _ _ _ H.2.2.1 H2.2.2.1 (ih _ _ _ _ _ _ _ H.2.2.2 H2.2.2.2))
          | (refine (Classical.em _).elim (fun e => hG _ _ _ _ _ _ _ _ (H.1 e) (H2.1 e)) (fun e => p_sw_two (fun b => hG _ _ _ _ _ _ _ _) _ _ (by omega) ?_ H.2 H2.2)
             simp only [p_swk, Bool.and_eq_true, decide_eq_true_eq, List.length_cons] at hs
             omega))
variable {bk : Nat → Nat → List pI} {mx : Nat → Nat}
theorem p_run_to {d y : Nat} {b : List pI} {kc ks : Nat} {ls st : List Value} {h : pHp} {Q : Option Value → pHp → Prop} (H : p_run cn cl bk mx d y b kc ks ls st h Q) : p_stp cn cl bk mx (p_run cn cl bk mx) d y b kc ks ls st h Q :=
  H (fun d y b kc ks ls st h Q => p_stp cn cl bk mx (p_run cn cl bk mx) d y b kc ks ls st h Q) (fun _ _ _ _ _ _ _ _ _ S => p_stp_mono (fun _ _ _ _ _ _ _ _ _ r => p_run_of r) S)
theorem p_det (hbk : ∀ y b, p_swk (bk y b) = true) {d y : Nat} {b : List pI} {kc ks : Nat} {ls st : List Value} {h : pHp} {Q : Option Value → pHp → Prop} (H : p_run cn cl bk mx d y b kc ks ls st h Q) :
    p_swk b = true → ∀ (kc2 ks2 : Nat) (Q2 : Option Value → pHp → Prop), p_run cn cl bk mx d y b kc2 ks2 ls st h Q2 → kc = kc2 ∧ ks = ks2 ∧ ∃ v h', Q v h' ∧ Q2 v h' := by
  refine p_run_ind (Z := fun d y b kc ks ls st h Q => p_swk b = true → ∀ (kc2 ks2 : Nat) (Q2 : Option Value → pHp → Prop), p_run cn cl bk mx d y b kc2 ks2 ls st h Q2 → kc = kc2 ∧ ks = ks2 ∧ ∃ v h', Q v h' ∧ Q2 v h') ?_ H
  intro d y b kc ks ls st h Q S hb kc2 ks2 Q2 H2
  refine p_blk_two (P := fun kc ks kc2 ks2 => kc = kc2 ∧ ks = ks2 ∧ ∃ v h', Q v h' ∧ Q2 v h') ?_ ?_ ?_ ?_ b hb kc ks kc2 ks2 ls st h S (p_run_to H2)
  · intro n kc ks kc2 ks2 h1 h2 ⟨e1, e2, e3⟩
    exact ⟨by omega, by omega, e3⟩
  · intro b kc ks kc2 ks2 ls st h g1 g2
    exact g1 (hbk _ _) _ _ _ g2
  · intro y' vs r kc ks kc2 ks2 ls st h hr c1 c2
    cases d with
    | zero => exact c1.elim
    | succ d' =>
      obtain ⟨a0, kc', ks', Q', a1, a2, a3, a4⟩ := c1
      obtain ⟨b0, kc2', ks2', Q2', b1, b2, b3, b4⟩ := c2
      obtain ⟨rfl, rfl, v, h', q1, q2⟩ := a3 (hbk _ _) _ _ _ b3
      obtain ⟨e1, e2, e3⟩ := a4 v h' q1 hr _ _ _ (b4 v h' q2)
      exact ⟨by omega, by omega, e3⟩
  · intro v kc ks kc2 ks2 ls st h r1 r2
    exact ⟨by omega, by omega, v, h, r1.2.2, r2.2.2⟩
end DET
theorem getD_all {α : Type} {p : α → Bool} {d : α} (hd : p d = true) : ∀ (l : List α) (n : Nat), l.all p = true → p (l.getD n d) = true
  | [], n, _ => by cases n <;> exact hd
  | a :: l, 0, h => by simp only [List.all_cons, Bool.and_eq_true] at h; exact h.1
  | a :: l, n + 1, h => by
    simp only [List.all_cons, Bool.and_eq_true] at h
    exact getD_all hd l n h.2
theorem p_tab_sw : p_tab.all (fun r => r.all (fun m => m.all p_swk)) = true := by decide +kernel
theorem tab_sw (T : List (List (List (List pI)))) (hT : T.all (fun r => r.all (fun m => m.all p_swk)) = true) (y b : Nat) : p_swk ((((T.getD (y / 16) []).getD (y % 16) []).getD b [])) = true :=
  getD_all (p := p_swk) rfl _ _ (getD_all (p := fun (m : List (List pI)) => m.all p_swk) rfl _ _ (getD_all (p := fun (r : List (List (List pI))) => r.all (fun m => m.all p_swk)) rfl _ _ hT))
theorem p_bk_sw (y b : Nat) : p_swk (p_bk y b) = true := tab_sw p_tab p_tab_sw y b
theorem P_run_eq (d y : Nat) (Q : Option Value → pHp → Prop) (b : List pI) (kc ks : Nat) (ls st : List Value) (h : pHp) : P_run d y b kc ks ls st h Q = P_w d y Q b kc ks ls st h := propext ⟨p_run_to, p_run_of⟩
/-- what a method without cells answers, as an equation of its call -/
theorem P_ce {d y z : Nat} {vs : List Value} {r : List pI} {kc ks : Nat} {ls st : List Value} {h : pHp} {Q : Option Value → pHp → Prop} {v : Option Value} {h' : pHp} (hc : P_m d z vs h (fun w g => w = v ∧ g = h')) (hm : p_cats vs ≤ p_mx z := by exact Nat.le_of_ble_eq_true rfl) : P_call d y z vs r kc ks ls st h Q = P_w (d + 1) y Q r kc ks ls (v.toList ++ st) h' := by
  refine propext ⟨fun ⟨_, kc', ks', Q', c1, c2, c3, c4⟩ => ?_, fun H => P_c hc (fun _ _ ⟨e1, e2⟩ => by rw [e1, e2]; exact H) hm⟩
  obtain ⟨rfl, rfl, w, g, q1, rfl, rfl⟩ := p_det p_bk_sw c3 (p_bk_sw _ _) _ _ _ hc
  exact p_run_to (c4 _ _ q1)
theorem ne_10 : ((1 : Int32) = 0) = False := eq_false (by decide)
theorem ne_01 : ((0 : Int32) = 1) = False := eq_false (by decide)
theorem ne_m10 : ((-1 : Int32) = 0) = False := eq_false (by decide)
theorem ne_0m1 : ((0 : Int32) = -1) = False := eq_false (by decide)
theorem ne_m11 : ((-1 : Int32) = 1) = False := eq_false (by decide)
theorem ne_1m1 : ((1 : Int32) = -1) = False := eq_false (by decide)
theorem p_run_Q {d y : Nat} {b : List pI} {kc ks : Nat} {ls st : List Value} {h : pHp} {Q Q2 : Option Value → pHp → Prop} (H : P_run d y b kc ks ls st h Q) (hQ : ∀ v h, Q v h → Q2 v h) : P_run d y b kc ks ls st h Q2 := by
  refine p_run_ind (Z := fun d y b kc ks ls st h Q => ∀ Q2 : Option Value → pHp → Prop, (∀ v h, Q v h → Q2 v h) → P_run d y b kc ks ls st h Q2) ?_ H Q2 hQ
  intro d y b kc ks ls st h Q S Q2 hQ
  refine p_run_of (p_blk_mono (fun _ _ _ _ _ _ g => g _ hQ) ?_ (fun v kc ks ls st h r => ⟨r.1, r.2.1, hQ _ _ r.2.2⟩) _ _ _ _ _ _ S)
  intro y' vs r kc ks ls st h c
  cases d with
  | zero => exact c
  | succ d' =>
    obtain ⟨a0, kc', ks', Q', a1, a2, a3, a4⟩ := c
    exact ⟨a0, kc', ks', Q', a1, a2, a3 Q' (fun _ _ q => q), fun v h' q => a4 v h' q _ hQ⟩
/-- a call as the run of its method -/
theorem P_inl {d y z : Nat} {vs : List Value} {r : List pI} {ls st : List Value} {h : pHp} {Q : Option Value → pHp → Prop} (hm : p_cats vs ≤ p_mx z := by exact Nat.le_of_ble_eq_true rfl) : P_call d y z vs r 0 0 ls st h Q = P_run d z (p_bk z 0) 0 0 (p_ent vs) [] h (fun v h' => P_w (d + 1) y Q r 0 0 ls (v.toList ++ st) h') := by
  refine propext ⟨fun ⟨_, kc', ks', Q', c1, c2, c3, c4⟩ => ?_, fun H => P_c H (fun _ _ q => q) hm⟩
  have e1 : kc' = 0 := by omega
  have e2 : ks' = 0 := by omega
  subst e1 e2
  exact p_run_Q c3 (fun v h' q => p_run_to (c4 v h' q))
