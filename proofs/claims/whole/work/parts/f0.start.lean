section ZS
variable {h : pHp} {D y : Nat} {Q : Option Value → pHp → Prop} {l kc ks : Nat} {ex : List Nat} {r : List pI} {ls st : List Value} {g : pHp}
theorem zw_aload {n : Fin 4} {x : Nat} (e : p_at ls n.val = .ref x) (H : P_w D y Q r kc ks ls (.ref x :: st) g) : P_w D y Q ((.aload_n n, l, ex) :: r) kc ks ls st g := by
  show p_one p_cn p_clc (.aload_n n) ex ls st g (fun ls st h => P_w D y Q r kc ks ls st h)
  unfold p_one
  dsimp only
  rw [e]
  exact H
theorem zw_iload {n : Fin 4} {x : Int32} (e : p_at ls n.val = .int x) (H : P_w D y Q r kc ks ls (.int x :: st) g) : P_w D y Q ((.iload_n n, l, ex) :: r) kc ks ls st g := by
  show p_one p_cn p_clc (.iload_n n) ex ls st g (fun ls st h => P_w D y Q r kc ks ls st h)
  unfold p_one
  dsimp only
  rw [e]
  exact H
def ze_cs (h : pHp) (D : Nat) (call : Nat → List Value → List zEv → Option (List zEv × Nat × Nat)) : Prop := ∀ z vs es q, call z vs es = some q → ze_w es = true → ze_w q.1 = true ∧ ∃ d, D = d + 1 ∧ P_run d z (p_bk z 0) q.2.1 q.2.2 (p_ent vs) [] (ze_H h es) (fun v g => v = none ∧ g = ze_H h q.1)
theorem ze_adi {c s : Nat} {o : Option (List zEv × Nat × Nat)} {q : List zEv × Nat × Nat} (H : ze_ad c s o = some q) : ∃ p, o = some p ∧ q = (p.1, p.2.1 + c, s + p.2.2) := by
  unfold ze_ad at H
  split at H
  · cases H
  · cases H; exact ⟨_, rfl, rfl⟩
theorem ze_wn {es : List zEv} {t : Nat} {m : Int} (w : ze_w es = true) : ze_w ((0, ze_n es, t, m) :: es) = true := by
  unfold ze_w
  rw [w, Bool.and_true, decide_eq_true_eq]
  intro _; rfl
theorem ze_w1 {es : List zEv} {a k : Nat} {m : Int} (w : ze_w es = true) : ze_w ((1, a, k, m) :: es) = true := by
  unfold ze_w
  rw [w, Bool.and_true, decide_eq_true_eq]
  intro e; exact absurd e (by show ¬ 1 = 0; omega)
theorem ze_wr {es : List zEv} {a k : Nat} {m : Int} (w : ze_w es = true) : ze_w ((2, a, k, m) :: es) = true := by
  unfold ze_w
  rw [w, Bool.and_true, decide_eq_true_eq]
  intro e; exact absurd e (by show ¬ 2 = 0; omega)
theorem ze_hI {es : List zEv} {a k : Nat} {x : Int32} : ze_H h ((1, a, k, x.toInt) :: es) = p_wI (ze_H h es) a k x := by
  show p_wI (ze_H h es) a k (Int32.ofInt x.toInt) = _
  rw [Int32.ofInt_toInt]
theorem ze_in {j : Int32} {m : Nat} (h1 : 0 ≤ j.toInt) (h2 : j.toInt < (m : Int)) : vp_in j m := vp_in_iff.mpr ⟨h1, h2⟩
theorem ze_sound (hl : h.2.2.2.length = 32) {call : Nat → List Value → List zEv → Option (List zEv × Nat × Nat)} (hc : ze_cs h D call) : ∀ (b : List pI) (ls st : List Value) (es : List zEv) (q : List zEv × Nat × Nat), ze_run call b ls st es = some q → ze_w es = true → ze_w q.1 = true ∧ P_w D y (fun v g => v = none ∧ g = ze_H h q.1) b q.2.1 q.2.2 ls st (ze_H h es) := by
  intro b
  induction b with
  | nil => intro ls st es q H; cases H
  | cons p r ih =>
    obtain ⟨i, l, ex⟩ := p
    intro ls st es q H w
    have ln := ze_len hl es
    unfold ze_run at H
    split at H
    · split at H
      · rename_i hx
        obtain ⟨a1, a2⟩ := ih _ _ _ _ H w
        exact ⟨a1, zw_aload hx a2⟩
      · cases H
    · split at H
      · rename_i hx
        obtain ⟨a1, a2⟩ := ih _ _ _ _ H w
        exact ⟨a1, zw_iload hx a2⟩
      · cases H
    · exact ih _ _ _ _ H w
    · exact ih _ _ _ _ H w
    · exact ih _ _ _ _ H w
    · split at H
      · exact ih _ _ _ _ H w
      · cases H
    · split at H
      · obtain ⟨p, hp, rfl⟩ := ze_adi H
        obtain ⟨a1, a2⟩ := ih _ _ _ _ hp (ze_wn w)
        refine ⟨a1, ?_⟩
        rw [pw_new, ln, Nat.add_sub_cancel_left]
        exact ⟨Nat.le_add_right _ _, a2⟩
      · cases H
    · split at H
      · split at H
        · rename_i hm
          obtain ⟨p, hp, rfl⟩ := ze_adi H
          obtain ⟨a1, a2⟩ := ih _ _ _ _ hp (ze_wn w)
          refine ⟨a1, ?_⟩
          rw [pw_newa, ln, Nat.add_sub_cancel_left]
          exact ⟨hm.1, hm.2, Nat.le_add_right _ _, a2⟩
        · cases H
      · cases H
    · split at H
      · split at H
        · rename_i hm
          obtain ⟨p, hp, rfl⟩ := ze_adi H
          obtain ⟨a1, a2⟩ := ih _ _ _ _ hp (ze_wn w)
          refine ⟨a1, ?_⟩
          rw [pw_newq, ln, Nat.add_sub_cancel_left]
          exact ⟨hm.1, hm.2, Nat.le_add_right _ _, a2⟩
        · cases H
      · cases H
    · split at H
      · split at H
        · rename_i hm
          obtain ⟨a1, a2⟩ := ih _ _ _ _ H (ze_w1 w)
          refine ⟨a1, ?_⟩
          rw [ze_hI] at a2
          rw [pw_putI]
          exact ⟨(ze_kd hl es w hm.1).1, hm.2, a2⟩
        · cases H
      · split at H
        · rename_i hm
          obtain ⟨a1, a2⟩ := ih _ _ _ _ H (ze_w1 w)
          refine ⟨a1, ?_⟩
          rw [ze_hI] at a2
          rw [pw_putZ]
          exact ⟨(ze_kd hl es w hm.1).1, hm.2.1, hm.2.2, a2⟩
        · cases H
      · split at H
        · rename_i hm
          obtain ⟨a1, a2⟩ := ih _ _ _ _ H (ze_wr w)
          refine ⟨a1, ?_⟩
          rw [pw_putR]
          exact ⟨(ze_kd hl es w hm.1).1, hm.2, a2⟩
        · cases H
      · cases H
    · split at H
      · split at H
        · rename_i hm
          split at H
          · rename_i hb
            obtain ⟨a1, a2⟩ := ih _ _ _ _ H w
            refine ⟨a1, ?_⟩
            rw [pw_getR, ze_rd hl es w, hb]
            exact ⟨(ze_kd hl es w hm).1, a2⟩
          · cases H
        · cases H
      · cases H
    · split at H
      · split at H
        · rename_i hb
          split at H
          · rename_i hm
            obtain ⟨a1, a2⟩ := ih _ _ _ _ H (ze_w1 w)
            refine ⟨a1, ?_⟩
            rw [ze_hI] at a2
            rw [pw_iast, (ze_kd hl es w hb).1]
            exact ⟨rfl, hm.1, ze_in hm.2.1 hm.2.2, a2⟩
          · cases H
        · cases H
      · cases H
    · split at H
      · split at H
        · rename_i hb
          split at H
          · rename_i hm
            obtain ⟨a1, a2⟩ := ih _ _ _ _ H (ze_w1 w)
            refine ⟨a1, ?_⟩
            rw [ze_hI] at a2
            rw [pw_bast, (ze_kd hl es w hb).1]
            exact ⟨Or.inl rfl, hm.1, ze_in hm.2.1 hm.2.2, a2⟩
          · cases H
        · cases H
      · cases H
    · split at H
      · split at H
        · rename_i hb
          split at H
          · rename_i hm
            obtain ⟨a1, a2⟩ := ih _ _ _ _ H (ze_wr w)
            refine ⟨a1, ?_⟩
            rw [pw_aast, (ze_kd hl es w hb).1, (ze_kd hl es w hm.1).1]
            exact ⟨Or.inr ⟨rfl, rfl⟩, hm.2.1, hm.2.2.1, ze_in hm.2.2.2.1 hm.2.2.2.2, a2⟩
          · cases H
        · cases H
      · cases H
    · split at H
      · split at H
        · rename_i hm
          obtain ⟨a1, a2⟩ := ih _ _ _ _ H w
          refine ⟨a1, ?_⟩
          rw [pw_obj]
          exact ⟨hm, a2⟩
        · cases H
      · split at H
        · rename_i hm
          split at H
          · rename_i q1 hq
            obtain ⟨p, hp, rfl⟩ := ze_adi H
            obtain ⟨b1, d, rfl, b2⟩ := hc _ _ _ _ hq w
            obtain ⟨a1, a2⟩ := ih _ _ _ _ hp b1
            refine ⟨a1, ?_⟩
            rw [pw_ip1 _ _ _ _ _ hm.1]
            refine ⟨hm.2.1, ?_⟩
            dsimp only
            rw [Nat.add_comm p.2.1]
            exact P_ck b2 a2 hm.2.2
          · cases H
        · cases H
      · split at H
        · rename_i hm
          split at H
          · rename_i q1 hq
            obtain ⟨p, hp, rfl⟩ := ze_adi H
            obtain ⟨b1, d, rfl, b2⟩ := hc _ _ _ _ hq w
            obtain ⟨a1, a2⟩ := ih _ _ _ _ hp b1
            refine ⟨a1, ?_⟩
            rw [pw_ip3 _ _ _ _ _ _ _ hm.1]
            refine ⟨hm.2.1, ?_⟩
            dsimp only
            rw [Nat.add_comm p.2.1]
            exact P_ck b2 a2 hm.2.2
          · cases H
        · cases H
      · cases H
    · split at H
      · cases H
        exact ⟨w, by rw [pw_vret]; exact ⟨rfl, rfl, rfl, rfl⟩⟩
      · cases H
    · cases H
theorem ze_calls (hl : h.2.2.2.length = 32) : ∀ d z vs es q, ze_call d z vs es = some q → ze_w es = true → ze_w q.1 = true ∧ P_run d z (p_bk z 0) q.2.1 q.2.2 (p_ent vs) [] (ze_H h es) (fun v g => v = none ∧ g = ze_H h q.1)
  | 0, z, vs, es, q, H, w => by
    obtain ⟨a1, a2⟩ := ze_sound (D := 0) (y := z) hl (call := fun _ _ _ => none) (fun _ _ _ _ H => by cases H) _ _ _ _ _ H w
    exact ⟨a1, P_go a2⟩
  | d + 1, z, vs, es, q, H, w => by
    obtain ⟨a1, a2⟩ := ze_sound (D := d + 1) (y := z) hl (call := ze_call d) (fun z vs es q H w => by
      obtain ⟨b1, b2⟩ := ze_calls hl d z vs es q H w
      exact ⟨b1, d, rfl, b2⟩) _ _ _ _ _ H w
    exact ⟨a1, P_go a2⟩
end ZS
