section RE
variable {o : Bool} {B : Nat → Nat} {T Ls : Nat} {I : Nat → Nat → Int32} {L : Nat → Nat → Int64} {R : Nat → Nat → Option Nat} {X : List pKd}
/-- N is how many tokens there are -/
def tkN (B : Nat → Nat) (T N : Nat) : Prop := N ≤ T ∧ tS B T N = T ∧ (∀ j, j < N → tS B T j < T) ∧ ∀ k, N ≤ k → tC B T k = 0
theorem tkN_ex : ∃ N, tkN B T N := by
  obtain ⟨N, h1, h2, h3⟩ := tN_ex (B := B) (T := T)
  refine ⟨N, h1, h2, h3, fun k hk => ?_⟩
  have := tS_ge2 h2 (k - N)
  rw [show N + (k - N) = k by omega] at this
  unfold tC cdT
  rw [if_pos (by omega)]
theorem sr_35_1 : p_sr 35 1 = none := rfl
def rdR (R : Nat → Nat → Option Nat) : Nat → Nat → Option Nat := p_u R 35 1 (some 34)
theorem rdR_ne {a : Nat} (h : ¬ a = 35) : rdR R a = R a := p_u_ne h
def rdQ (I J : Nat → Nat → Int32) : Except Nat (List tCl) → Prop
  | .ok CL => (∀ a, a < 35 ∨ 43 < a → J a = I a) ∧ txC J CL
  | .error _ => ∀ a, a < 35 ∨ 43 < a → J a = I a
theorem pl_58 {x N : Nat} {r : Except Nat (List tCl)} (hI : invS I) (e1 : I 33 1 = nI T) (hT : T ≤ 400) (hB : ∀ k, k < T → I 34 k = nI (B k) ∧ B k < 256) (hN : tkN B T N) (hr : RX o (tC B T) (tV B T) N 0 0 0 0 [] = some r) : ∃ J, rdQ I J r ∧ P_m (x + 56) 58 [.ref 35, .ref 33, .int (nI (bN o))] (p_mk Ls I L R X) (fun v h' => v = some (.int (rdV B T r)) ∧ h' = p_mk Ls J L (rdR R) X) := by
  obtain ⟨n1, n2, n3, n4⟩ := hN
  have f0 : ∀ a, a < 35 ∨ 43 < a → p_u (p_u (p_u (p_u (p_u (p_u I 35 2 (nI T)) 35 3 (nI (bN o))) 35 5 (nI 0)) 35 6 (nI 0)) 36 0 (nI 0)) 36 6 (nI 0) a = I a := fun a ha => by rw [p_u_ne (by omega), p_u_ne (by omega), p_u_ne (by omega), p_u_ne (by omega), p_u_ne (by omega), p_u_ne (by omega)]
  have g2 : p_u (p_u (p_u (p_u (p_u (p_u I 35 2 (nI T)) 35 3 (nI (bN o))) 35 5 (nI 0)) 35 6 (nI 0)) 36 0 (nI 0)) 36 6 (nI 0) 35 2 = nI T := by rw [p_u_ne (by omega), p_u_ne (by omega), p_u_at, if_neg (by omega), p_u_at, if_neg (by omega), p_u_at, if_neg (by omega), p_u_at, if_pos rfl]
  have g3 : p_u (p_u (p_u (p_u (p_u (p_u I 35 2 (nI T)) 35 3 (nI (bN o))) 35 5 (nI 0)) 35 6 (nI 0)) 36 0 (nI 0)) 36 6 (nI 0) 35 3 = nI (bN o) := by rw [p_u_ne (by omega), p_u_ne (by omega), p_u_at, if_neg (by omega), p_u_at, if_neg (by omega), p_u_at, if_pos rfl]
  have g5 : p_u (p_u (p_u (p_u (p_u (p_u I 35 2 (nI T)) 35 3 (nI (bN o))) 35 5 (nI 0)) 35 6 (nI 0)) 36 0 (nI 0)) 36 6 (nI 0) 35 5 = nI 0 := by rw [p_u_ne (by omega), p_u_ne (by omega), p_u_at, if_neg (by omega), p_u_at, if_pos rfl]
  have g6 : p_u (p_u (p_u (p_u (p_u (p_u I 35 2 (nI T)) 35 3 (nI (bN o))) 35 5 (nI 0)) 35 6 (nI 0)) 36 0 (nI 0)) 36 6 (nI 0) 35 6 = nI 0 := by rw [p_u_ne (by omega), p_u_ne (by omega), p_u_at, if_pos rfl]
  have k0 : p_u (p_u (p_u (p_u (p_u (p_u I 35 2 (nI T)) 35 3 (nI (bN o))) 35 5 (nI 0)) 35 6 (nI 0)) 36 0 (nI 0)) 36 6 (nI 0) 36 0 = nI 0 := by rw [p_u_at, if_neg (by omega), p_u_at, if_pos rfl]
  have k6 : p_u (p_u (p_u (p_u (p_u (p_u I 35 2 (nI T)) 35 3 (nI (bN o))) 35 5 (nI 0)) 35 6 (nI 0)) 36 0 (nI 0)) 36 6 (nI 0) 36 6 = nI 0 := by rw [p_u_at, if_pos rfl]
  generalize hI1 : p_u (p_u (p_u (p_u (p_u (p_u I 35 2 (nI T)) 35 3 (nI (bN o))) 35 5 (nI 0)) 35 6 (nI 0)) 36 0 (nI 0)) 36 6 (nI 0) = I1 at *
  have r1 : rdR R 35 1 = some 34 := by unfold rdR; rw [p_u_at, if_pos rfl]
  have c0 : cT0 B T I1 (rdR R) := ⟨r1, g2, hT, fun k hk => by rw [f0 34 (by omega)]; exact hB k hk⟩
  have s72 := pl_72 (d := x + 55) (Ls := Ls) (L := L) (X := X) c0 (Nat.zero_le T) g5
  replace s72 : P_m (x + 55) 72 [.ref 35] (p_mk Ls I1 L (rdR R) X) (fun v h' => v = none ∧ h' = p_mk Ls (stp B T I1 0) L (rdR R) X) := s72
  have H1 : rdB o B T I1 (rdR R) := ⟨invS_fr hI (fun a ha => f0 a (by omega)), c0, g3⟩
  have hS : rdS B T (stp B T I1 0) 0 0 (clCode []) := ⟨stp_k, by rw [stp_35 (by omega) (by omega)]; exact g6, by omega, by rw [stp_ne (by omega)]; exact k6, Nat.le_refl 0, fun j q hj => by cases hj⟩
  have st := lp_58 (x := x) (Ls := Ls) (L := L) (X := X) (r := r) n2 n3 n4 (by omega) H1 12 [] 0 0 (stp B T I1 0) rfl (Nat.zero_le N) (frK_S frS_stp) (by rw [stp_ne (by omega)]; exact k0) ⟨fun j hj => absurd hj (Nat.not_lt_zero j), fun j q hj => by cases hj⟩ hS (fun h => absurd h (by omega)) (fun _ => hr)
  replace st : P_run (x + 55 + 1) 58 (p_bk 58 1) 0 0 [.ref 35, .ref 33, .int (nI (bN o)), .int (nI 0)] [] (p_mk Ls (stp B T I1 0) L (rdR R) X) _ := st
  have all : P_m (x + 56) 58 [.ref 35, .ref 33, .int (nI (bN o))] (p_mk Ls I L R X) (fun v h' => v = some (.int (rdV B T r)) ∧ ∃ J', rdP I1 J' r ∧ h' = p_mk Ls J' L (rdR R) X) := by
    clear hS
    generalize stp B T I1 0 = J1 at *
    generalize rdV B T r = VR at *
    have nb1 : bN o = 0 ∨ bN o = 1 := by cases o <;> simp [bN_f, bN_t]
    have nv : p_nv 3 (nI (bN o)) = nI (bN o) := by rcases nb1 with e | e <;> rw [e] <;> decide
    generalize bN o = O at *
    rw [show rdR R = p_u R 35 1 (some 34) from rfl] at *
    simp -implicitDefEqProofs (disch := first | omega | decide) only [P_m, ↓P_run_eq _ 58 _ (p_bk 58 0), bk_58_0, pb_58_0, pw_aload_n0, pw_aloadN_n0, pw_aload_n1, pw_aloadN_n1, pw_getR, pw_putR, pw_putN, pw_getI, pw_putI, pw_iload_n2, pw_putZ, pw_iconst, il_0, pw_iv1, pw_istore_n3, ps_3, pe_3, po_i3, po_r3, po_n3, po_u3, pw_nop, kd_33, rf_33_0, kd_35, rf_35_0, rf_35_1, kd_36, rf_36_1, rf_36_2, rf_36_3, rf_36_4, rf_36_5, rf_36_7, rf_36_8, n_0, n_1, nn_lt, nn_nlt, nn_le, nn_nle, nn_ne, nn_sub, nn_mul, nI_add, nn_neg, nm_eq, mn_eq, mm_eq, mn_lt, nm_lt, mn_le, nm_le, nn_sub0, nn_of, implies_true, nn_c, nn_in, nn_div, nat_rem, Nat.reduceMul, Nat.reduceSub, Nat.reduceDiv, Nat.reduceMod, pf_at, pf_ne, mk_s, mk_1, Classical.not_not, b2i_T, b2i_F, false_imp_iff, true_imp_iff, false_and, and_false, p_sw, Int.reduceAdd, Int.zero_add, Option.some.injEq, Value.int.injEq, Value.long.injEq, Value.ref.injEq, exists_eq_left', mk_I, mk_L, mk_wI, mk_wL, rf_s, rf_n, true_and, and_true, and_self, or_true, true_or, or_false, false_or, not_true_eq_false, not_false_eq_true, Option.toList_some, Option.toList_none, List.cons_append, List.nil_append, List.map_nil, List.map_cons, List.sum_nil, List.sum_cons, cat_i, cat_l, cat_r, cat_n, Nat.reduceLeDiff, Nat.reduceAdd, Nat.reduceEqDiff, Nat.zero_le, p_ent, p_u_ne, p_u_at, reduceIte, if_true, if_false, mk_wR sr_35_1, e1, hI1, nv, P_ce s72]
    refine ⟨?_, st⟩
    rcases nb1 with e | e
    · exact Or.inl (by rw [e])
    · exact Or.inr (by rw [e])
  obtain ⟨v, g', ⟨rfl, J', f1, rfl⟩, s⟩ := P_mex all
  refine ⟨J', ?_, s⟩
  match r, f1 with
  | .ok CL, f1 => exact ⟨fun a ha => (f1.1.1 a ha).trans (f0 a ha), f1.2⟩
  | .error e, f1 => exact fun a ha => (f1.1 a ha).trans (f0 a ha)
end RE
