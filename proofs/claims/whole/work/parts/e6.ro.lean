/-! WHAT A RUN LEAVES ALONE: the kinds of the cells that stand, the first 32 -/
def roS (g h : pHp) : Prop := 32 ≤ g.2.2.2.length ∧ g.2.2.2.length ≤ h.2.2.2.length ∧ (∀ a, a < g.2.2.2.length → p_kd h a = p_kd g a) ∧ ∀ a, a < 32 → p_I h a = p_I g a
section RO
variable {g h : pHp} {a k : Nat}
theorem roS_rf (hl : 32 ≤ h.2.2.2.length) : roS h h := ⟨hl, Nat.le_refl _, fun _ _ => rfl, fun _ _ => rfl⟩
theorem roS_wI {v : Int32} (r : roS g h) (ha : 32 ≤ a) : roS g (p_wI h a k v) := ⟨r.1, r.2.1, r.2.2.1, fun b hb => by
  show p_fn h.1 a (upd (h.1 a) k v) b = _
  rw [p_fn_ne (by omega)]; exact r.2.2.2 b hb⟩
theorem roS_wL {v : Int64} (r : roS g h) : roS g (p_wL h a k v) := ⟨r.1, r.2.1, r.2.2.1, r.2.2.2⟩
theorem roS_wR {v : Option Nat} (r : roS g h) : roS g (p_wR h a k v) := ⟨r.1, r.2.1, r.2.2.1, r.2.2.2⟩
theorem roS_cp {f : Nat → Int32} (r : roS g h) (ha : 32 ≤ a) : roS g (p_fn h.1 a f, h.2) := ⟨r.1, r.2.1, r.2.2.1, fun b hb => by
  show p_fn h.1 a f b = _
  rw [p_fn_ne (by omega)]; exact r.2.2.2 b hb⟩
theorem roS_new {q : pKd} (r : roS g h) : roS g (p_new h q) := by
  obtain ⟨r1, r2, r3, r4⟩ := r
  refine ⟨r1, ?_, fun b hb => ?_, fun b hb => ?_⟩
  · show g.2.2.2.length ≤ (h.2.2.2 ++ [q]).length
    rw [List.length_append]; omega
  · show p_nth (h.2.2.2 ++ [q]) b = _
    rw [p_nth_app _ _ _ (by omega)]; exact r3 b hb
  · show p_fn h.1 h.2.2.2.length (fun _ => 0) b = _
    rw [p_fn_ne (by omega)]; exact r4 b hb
variable {cn : Nat → Int32} {cl : Nat → Int64}
theorem p_one_ro {i : Instr} {ex : List Nat} {ls st : List Value} {k k' : List Value → List Value → pHp → Prop} (r : roS g h) (hk : ∀ ls st h, roS g h → k ls st h → k' ls st h) (H : p_one cn cl i ex ls st h k) : p_one cn cl i ex ls st h k' := by
  cases i <;> unfold p_one at H ⊢ <;> first
    | exact H
    | exact hk _ _ _ r H
    | (dsimp only at H ⊢; split at H <;> first
        | exact H.elim
        | exact hk _ _ _ r H
        | exact ⟨H.1, hk _ _ _ r H.2⟩
        | exact ⟨H.1, H.2.1, hk _ _ _ r H.2.2⟩
        | exact ⟨H.1, H.2.1, hk _ _ _ (roS_wI r H.2.1) H.2.2⟩
        | exact ⟨H.1, H.2.1, hk _ _ _ (roS_wL r) H.2.2⟩
        | exact ⟨H.1, H.2.1, hk _ _ _ (roS_wR r) H.2.2⟩
        | exact ⟨H.1, H.2.1, H.2.2.1, hk _ _ _ r H.2.2.2⟩
        | exact ⟨H.1, H.2.1, H.2.2.1, hk _ _ _ (roS_wI r H.2.1) H.2.2.2⟩
        | exact ⟨H.1, H.2.1, H.2.2.1, hk _ _ _ (roS_wL r) H.2.2.2⟩
        | exact ⟨H.1, H.2.1, H.2.2.1, hk _ _ _ (roS_wR r) H.2.2.2⟩
        | exact ⟨H.1, H.2.1, H.2.2.1, H.2.2.2.1, hk _ _ _ r H.2.2.2.2⟩
        | exact ⟨H.1, H.2.1, H.2.2.1, H.2.2.2.1, hk _ _ _ (roS_wR r) H.2.2.2.2⟩
        | exact ⟨H.1, H.2.1, H.2.2.1, H.2.2.2.1, H.2.2.2.2.1, H.2.2.2.2.2.1, H.2.2.2.2.2.2.1, H.2.2.2.2.2.2.2.1, H.2.2.2.2.2.2.2.2.1, H.2.2.2.2.2.2.2.2.2.1, hk _ _ _ (roS_cp r H.2.2.2.1) H.2.2.2.2.2.2.2.2.2.2⟩)
theorem p_blk_ro {G G' : Nat → pK} {C C' : Nat → List Value → List pI → pK} {R R' : Option Value → pK}
    (hG : ∀ b kc ks ls st h, roS g h → G b kc ks ls st h → G' b kc ks ls st h) (hC : ∀ y vs r kc ks ls st h, roS g h → C y vs r kc ks ls st h → C' y vs r kc ks ls st h) (hR : ∀ v kc ks ls st h, roS g h → R v kc ks ls st h → R' v kc ks ls st h) :
    ∀ (b : List pI) (kc ks : Nat) (ls st : List Value) (h : pHp), roS g h → p_blk cn cl G C R b kc ks ls st h → p_blk cn cl G' C' R' b kc ks ls st h := by
  intro b
  induction b with
  | nil => intro kc ks ls st h _ H; exact H
  | cons q rest ih =>
    obtain ⟨i, len, ex⟩ := q
    intro kc ks ls st h r H
    cases i <;> unfold p_blk at H ⊢ <;> first
      | exact p_one_ro r (fun _ _ _ r H => ih _ _ _ _ _ r H) H
      | (dsimp only at H ⊢; split at H <;> first
          | exact H.elim
          | exact hG _ _ _ _ _ _ r H
          | exact hR _ _ _ _ _ _ r H
          | exact ⟨H.1, hR _ _ _ _ _ _ r H.2⟩
          | exact ih _ _ _ _ _ r H
          | exact ⟨H.1, ih _ _ _ _ _ r H.2⟩
          | exact ⟨H.1, ih _ _ _ _ _ (roS_new r) H.2⟩
          | exact ⟨H.1, H.2.1, H.2.2.1, ih _ _ _ _ _ (roS_new r) H.2.2.2⟩
          | exact ⟨fun e => hG _ _ _ _ _ _ r (H.1 e), p_sw_mono (fun _ => hG _ _ _ _ _ _ r) _ _ H.2⟩
          | exact p_one_ro r (fun _ _ _ r H => ih _ _ _ _ _ r H) H
          | (split at H <;> first
              | exact H.elim
              | exact ⟨fun e => hG _ _ _ _ _ _ r (H.1 e), fun e => ih _ _ _ _ _ r (H.2 e)⟩
              | exact ⟨H.1, H.2.1, hC _ _ _ _ _ _ _ _ r H.2.2⟩
              | exact ⟨H.1, hC _ _ _ _ _ _ _ _ r H.2⟩))
end RO
theorem P_ro {d y : Nat} {b : List pI} {kc ks : Nat} {ls st : List Value} {h : pHp} {Q : Option Value → pHp → Prop} (H : P_run d y b kc ks ls st h Q) : ∀ g, roS g h → P_run d y b kc ks ls st h (fun v h' => Q v h' ∧ roS g h') := by
  refine p_run_ind (Z := fun d y b kc ks ls st h Q => ∀ g, roS g h → P_run d y b kc ks ls st h (fun v h' => Q v h' ∧ roS g h')) ?_ H
  intro d y b kc ks ls st h Q S g r
  refine p_run_of ?_
  unfold p_stp at S ⊢
  refine p_blk_ro (fun b kc ks ls st h r H => H g r) (fun y' vs rr kc ks ls st h r H => ?_) (fun v kc ks ls st h r H => ⟨H.1, H.2.1, H.2.2, r⟩) b kc ks ls st h r S
  cases d with
  | zero => exact H
  | succ d' =>
    obtain ⟨a0, kc', ks', Q', a1, a2, a3, a4⟩ := H
    exact ⟨a0, kc', ks', _, a1, a2, a3 g r, fun v h' q => a4 v h' q.1 g q.2⟩
/-- both answers, with what lies between -/
theorem SameX {d yc ym Ls : Nat} {vs : List Value} {h : pHp} (H : SameA d yc ym vs Ls h) (hl : 32 ≤ h.2.2.2.length) : ∃ kc ks r h1 h2, kc ≤ 8 ∧ ks ≤ 900 ∧ P_run d yc (p_bk yc 0) kc ks (p_ent (.ref 32 :: vs)) [] h (fun v g => v = some (.int r) ∧ g = h1) ∧ P_m d ym (.ref 123 :: vs) h1 (fun v g => v = some (.int r) ∧ g = h2) ∧ InvH Ls h2 ∧ roS h h1 := by
  obtain ⟨kc, ks, k1, k2, H⟩ := H
  obtain ⟨v, h1, ⟨⟨r, rfl, H2⟩, ro⟩, s1⟩ := P_exact (p_bk_sw _ _) (P_ro H h (roS_rf hl))
  obtain ⟨v2, h2, ⟨rfl, i2⟩, s2⟩ := P_mex H2
  exact ⟨kc, ks, r, h1, h2, k1, k2, s1, s2, i2, ro⟩
/-- a call that makes cells -/
theorem P_ck {d y z : Nat} {vs : List Value} {r : List pI} {kc ks kc0 ks0 : Nat} {ls st : List Value} {h : pHp} {Q : Option Value → pHp → Prop} {v : Option Value} {h' : pHp} (hc : P_run d z (p_bk z 0) kc0 ks0 (p_ent vs) [] h (fun w g => w = v ∧ g = h')) (hk : P_w (d + 1) y Q r kc ks ls (v.toList ++ st) h') (hm : p_cats vs ≤ p_mx z := by exact Nat.le_of_ble_eq_true rfl) : P_call d y z vs r (kc0 + kc) (ks0 + ks) ls st h Q := by
  refine ⟨hm, kc0, ks0, _, by omega, by omega, hc, ?_⟩
  rintro _ _ ⟨rfl, rfl⟩
  rw [Nat.add_sub_cancel_left, Nat.add_sub_cancel_left]
  exact p_run_of hk
theorem p_sw_at {x : Int32} {G : Nat → Prop} : ∀ (bs : List Nat) (lo : Int) (j b : Nat), x.toInt = lo + j → bs[j]? = some b → G b → p_sw x G lo bs
  | [], _, _, _, _, h, _ => by cases h
  | c :: bs, lo, 0, b, hx, h, g => by
    have : c = b := by simpa using h
    subst this
    exact ⟨fun _ => g, p_sw_out bs (lo + 1) (by omega)⟩
  | c :: bs, lo, j + 1, b, hx, h, g => by
    refine ⟨fun e => by omega, p_sw_at bs (lo + 1) j b (by omega) ?_ g⟩
    simpa using h
