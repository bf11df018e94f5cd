/-! THE CLASS READS: its state, parts -/
def frS (I J : Nat → Nat → Int32) : Prop := (∀ a, ¬ a = 35 → ¬ a = 36 → ¬ a = 42 → ¬ a = 43 → J a = I a) ∧ (∀ k, ¬ k = 4 → ¬ k = 5 → ¬ k = 6 → J 35 k = I 35 k) ∧ ∀ k, ¬ k = 6 → J 36 k = I 36 k
theorem frS_rf {I : Nat → Nat → Int32} : frS I I := ⟨fun _ _ _ _ _ => rfl, fun _ _ _ _ => rfl, fun _ _ => rfl⟩
theorem frS_tr {I J H : Nat → Nat → Int32} (h1 : frS I J) (h2 : frS J H) : frS I H := ⟨fun a a1 a2 a3 a4 => (h2.1 a a1 a2 a3 a4).trans (h1.1 a a1 a2 a3 a4), fun k k1 k2 k3 => (h2.2.1 k k1 k2 k3).trans (h1.2.1 k k1 k2 k3), fun k k1 => (h2.2.2 k k1).trans (h1.2.2 k k1)⟩
/-- what reading stands on -/
def rdB (o : Bool) (B : Nat → Nat) (T : Nat) (I : Nat → Nat → Int32) (R : Nat → Nat → Option Nat) : Prop := invS I ∧ cT0 B T I R ∧ I 35 3 = nI (bN o)
def rdS (B : Nat → Nat) (T : Nat) (J : Nat → Nat → Int32) (k l : Nat) (D : tCd) : Prop := cTk B T J k ∧ J 35 6 = nI l ∧ l ≤ 50 ∧ J 36 6 = nI D.length ∧ D.length ≤ k ∧ hold (J 42) (J 43) 0 D
def ocS {α : Type} (B : Nat → Nat) (T : Nat) (J : Nat → Nat → Int32) (D : tCd) : Except Nat (Nat × Nat × α × tCd) → Prop
  | .ok r => rdS B T J r.1 r.2.1 (D ++ r.2.2.2)
  | .error e => cTk B T J e
def ocV {α : Type} : Except Nat α → Nat
  | .ok _ => 1
  | .error _ => 0
section CP
variable {d Ls : Nat} {I J : Nat → Nat → Int32} {L : Nat → Nat → Int64} {R : Nat → Nat → Option Nat} {X : List pKd} {h : pHp} {B : Nat → Nat} {T : Nat} {o : Bool}
theorem invS_fr (H : invS I) (h : ∀ a, a ≤ 30 → J a = I a) : invS J := ⟨by rw [h 30 (by omega)]; exact H.1, fun j hj => ⟨by rw [h (12 + j) (by omega)]; exact (H.2 j hj).1, fun k hk => by rw [h (3 + j) (by omega)]; exact (H.2 j hj).2 k hk⟩⟩
theorem rdB_fr (H : rdB o B T I R) (h : frS I J) : rdB o B T J R := ⟨invS_fr H.1 (fun a ha => h.1 a (by omega) (by omega) (by omega) (by omega)), ⟨H.2.1.1, by rw [h.2.1 2 (by omega) (by omega) (by omega)]; exact H.2.1.2.1, H.2.1.2.2.1, fun k hk => by rw [h.1 34 (by omega) (by omega) (by omega) (by omega)]; exact H.2.1.2.2.2 k hk⟩, by rw [h.2.1 3 (by omega) (by omega) (by omega)]; exact H.2.2⟩
theorem frS_stp {k : Nat} : frS I (stp B T I k) := ⟨fun a a1 _ _ _ => stp_ne a1, fun j j1 j2 _ => stp_35 j1 j2, fun j _ => by rw [stp_ne (by omega)]⟩
theorem frS_em {n op v : Nat} : frS I (emW I n op v) := by
  unfold emW
  exact ⟨fun a _ a2 a3 a4 => by rw [p_u_ne a2, p_u_ne a4, p_u_ne a3], fun k _ _ _ => by rw [p_u_ne (by omega), p_u_ne (by omega), p_u_ne (by omega)], fun k hk => by rw [p_u_at, if_neg hk, p_u_ne (by omega), p_u_ne (by omega)]⟩
theorem rdS_stp {k l : Nat} {D : tCd} (h : rdS B T I k l D) : rdS B T (stp B T I (k + 1)) (k + 1) l D := ⟨stp_k, by rw [stp_35 (by omega) (by omega)]; exact h.2.1, h.2.2.1, by rw [stp_ne (by omega)]; exact h.2.2.2.1, by have := h.2.2.2.2.1; omega, by rw [stp_ne (by omega), stp_ne (by omega)]; exact h.2.2.2.2.2⟩
theorem rdS_em {k l op v : Nat} {D : tCd} (h : rdS B T I k l D) (hD : D.length + 1 ≤ k) : rdS B T (emW I D.length op v) k l (D ++ [(op, v)]) := by
  obtain ⟨h1, h2, h3, h4, h5, h6⟩ := h
  unfold emW
  refine ⟨⟨?_, ?_⟩, ?_, h3, ?_, ?_, ?_⟩
  · rw [p_u_ne (by omega), p_u_ne (by omega), p_u_ne (by omega)]; exact h1.1
  · rw [p_u_ne (by omega), p_u_ne (by omega), p_u_ne (by omega)]; exact h1.2
  · rw [p_u_ne (by omega), p_u_ne (by omega), p_u_ne (by omega)]; exact h2
  · rw [p_u_at, if_pos rfl, List.length_append]; rfl
  · rw [List.length_append]; exact hD
  · rw [hold_app]
    refine ⟨fun j q hj => ?_, ?_⟩
    · have hl : j < D.length := (List.getElem?_eq_some_iff.mp hj).1
      rw [p_u_ne (by omega), p_u_ne (by omega), p_u_at, if_neg (by omega), p_u_ne (by omega), p_u_at, if_neg (by omega)]
      exact h6 j q hj
    · rw [hold_cons]
      refine ⟨⟨?_, ?_⟩, fun j q hj => by simp at hj⟩
      · rw [p_u_ne (by omega), p_u_ne (by omega), p_u_at, if_pos (by omega)]
      · rw [p_u_ne (by omega), p_u_at, if_pos (by omega)]
theorem sg_ok : isSm 91 = false ∧ isDg 91 = false ∧ isSm 93 = false ∧ isDg 93 = false := by decide
def pln14 (c : Nat) : Option Nat := if 12 ≤ c ∧ c ≤ 18 then some (wdi c - 5) else none
theorem pl_14 : ∀ c, c < 356 → pln 14 c = (if 12 ≤ c ∧ c ≤ 18 then some (if c = 12 then 6 else wdi c - 5) else none) ∧ pln 15 c = (if 8 ≤ c ∧ c ≤ 16 then some (wdi c) else none) ∧ wdi c ≤ 10 ∧ (12 < c → c ≤ 18 → 5 ≤ wdi c) := by decide +kernel
theorem rdS_l {k l : Nat} {D : tCd} (h : rdS B T I k l D) (hl : l < 50) : rdS B T (p_u I 35 6 (nI (l + 1))) k (l + 1) D := by
  obtain ⟨h1, h2, h3, h4, h5, h6⟩ := h
  refine ⟨⟨?_, ?_⟩, ?_, by omega, ?_, h5, ?_⟩
  · rw [p_u_at, if_neg (by omega)]; exact h1.1
  · rw [p_u_at, if_neg (by omega)]; exact h1.2
  · rw [p_u_at, if_pos rfl]
  · rw [p_u_ne (by omega)]; exact h4
  · rw [p_u_ne (by omega), p_u_ne (by omega)]; exact h6
theorem frS_l {v : Int32} : frS I (p_u I 35 6 v) := ⟨fun a a1 _ _ _ => p_u_ne a1, fun k _ _ k3 => by rw [p_u_at, if_neg k3], fun k _ => by rw [p_u_ne (by omega)]⟩
theorem pl_66a {w k l : Nat} {D : tCd} (hS : rdS B T I k l D) (hD : D.length < 400) (hw : w < 11) : P_m (d + 1) 66 [.ref 35, .int (nI w)] (p_mk Ls I L R X) (fun v h' => v = some (.int (nI 1)) ∧ h' = p_mk Ls (emW I D.length 1 w) L R X) := by
  have s77 := pl_77 (d := d) (Ls := Ls) (L := L) (R := R) (X := X) (o := 1) (v := w) hD hS.2.2.2.1
  generalize emW I D.length 1 w = J at *
  generalize D.length = n at *
  simp -implicitDefEqProofs (disch := first | omega | decide) only [P_m, ↓P_run_eq _ 66 _ (p_bk 66 0), bk_66_0, pb_66_0, pw_iload_n1, pw_bipush, bl_11, pw_ceq, pw_aload_n0, pw_aloadN_n0, pw_getR, pw_iconst, il_1, pw_iv3, pw_popi, pw_popr, pw_ret1, kd_35, rf_35_0, rf_35_1, kd_36, rf_36_1, rf_36_2, rf_36_3, rf_36_4, rf_36_5, rf_36_7, rf_36_8, n_0, n_1, n_11, nn_lt, nn_nlt, nn_le, nn_nle, nn_ne, nn_sub, nn_mul, nI_add, nn_neg, nm_eq, mn_eq, mm_eq, mn_lt, nm_lt, mn_le, nm_le, nn_sub0, nn_of, implies_true, nn_c, nn_in, nn_div, nat_rem, Nat.reduceMul, Nat.reduceSub, Nat.reduceDiv, Nat.reduceMod, pf_at, pf_ne, mk_s, mk_1, Classical.not_not, b2i_T, b2i_F, false_imp_iff, true_imp_iff, false_and, and_false, p_sw, Int.reduceAdd, Int.zero_add, Option.some.injEq, Value.int.injEq, Value.long.injEq, Value.ref.injEq, exists_eq_left', mk_I, mk_L, mk_wI, mk_wL, rf_s, rf_n, true_and, and_true, and_self, or_true, true_or, or_false, false_or, not_true_eq_false, not_false_eq_true, Option.toList_some, Option.toList_none, List.cons_append, List.nil_append, List.map_nil, List.map_cons, List.sum_nil, List.sum_cons, cat_i, cat_l, cat_r, cat_n, Nat.reduceLeDiff, Nat.reduceAdd, Nat.reduceEqDiff, Nat.zero_le, p_ent, p_u_ne, p_u_at, reduceIte, if_true, if_false, P_ce s77]
theorem pl_66b {k l : Nat} {D : tCd} (h0 : cT0 B T I R) (hS : rdS B T I k l D) (hD : D.length < 400) : P_m (d + 1) 66 [.ref 35, .int (nI 11)] (p_mk Ls I L R X) (fun v h' => v = some (.int (nI (if tC B T k = 50 ∧ tV B T k ≤ 7 then 1 else 0))) ∧ h' = p_mk Ls (if tC B T k = 50 ∧ tV B T k ≤ 7 then emW (stp B T I (k + 1)) D.length 1 (11 + tV B T k) else I) L R X) := by
  have s67 := pl_67 (d := d) (Ls := Ls) (L := L) (X := X) h0 hS.1
  have s72 := pl_step (d := d) (Ls := Ls) (L := L) (X := X) h0 hS.1
  have s77 := pl_77 (d := d) (Ls := Ls) (L := L) (R := R) (X := X) (o := 1) (v := 11 + tV B T k) hD (rdS_stp hS).2.2.2.1
  by_cases c : tC B T k = 50 ∧ tV B T k ≤ 7
  · rw [if_pos c, if_pos c]
    unfold nmO at s67
    rw [if_pos c.1, if_pos (by omega)] at s67
    replace s67 : P_m d 67 [.ref 35] (p_mk Ls I L R X) (fun v h' => v = some (.int (nI (tV B T k))) ∧ h' = p_mk Ls I L R X) := s67
    have c2 := c.2
    generalize emW (stp B T I (k + 1)) D.length 1 (11 + tV B T k) = J at *
    generalize stp B T I (k + 1) = J1 at *
    generalize tV B T k = vv at *
    generalize D.length = n at *
    simp -implicitDefEqProofs (disch := first | omega | decide) only [P_m, ↓P_run_eq _ 66 _ (p_bk 66 0), bk_66_0, pb_66_0, ↓P_run_eq _ 66 _ (p_bk 66 1), bk_66_1, pb_66_1, ↓P_run_eq _ 66 _ (p_bk 66 3), bk_66_3, pb_66_3, pw_iload_n1, pw_bipush, bl_11, pw_ceq, pw_aload_n0, pw_aloadN_n0, pw_getR, pw_iconst, il_1, pw_iv3, pw_popi, pw_popr, pw_ret1, pw_iv1, pw_istore_n2, ps_2, pe_2, po_i2, po_r2, po_n2, po_u2, pw_iload_n2, pw_zlt, bl_8, pw_clt, pw_nop, pw_iadd, kd_35, rf_35_0, rf_35_1, kd_36, rf_36_1, rf_36_2, rf_36_3, rf_36_4, rf_36_5, rf_36_7, rf_36_8, n_0, n_1, n_8, n_11, nn_lt, nn_nlt, nn_le, nn_nle, nn_ne, nn_sub, nn_mul, nI_add, nn_neg, nm_eq, mn_eq, mm_eq, mn_lt, nm_lt, mn_le, nm_le, nn_sub0, nn_of, implies_true, nn_c, nn_in, nn_div, nat_rem, Nat.reduceMul, Nat.reduceSub, Nat.reduceDiv, Nat.reduceMod, pf_at, pf_ne, mk_s, mk_1, Classical.not_not, b2i_T, b2i_F, false_imp_iff, true_imp_iff, false_and, and_false, p_sw, Int.reduceAdd, Int.zero_add, Option.some.injEq, Value.int.injEq, Value.long.injEq, Value.ref.injEq, exists_eq_left', mk_I, mk_L, mk_wI, mk_wL, rf_s, rf_n, true_and, and_true, and_self, or_true, true_or, or_false, false_or, not_true_eq_false, not_false_eq_true, Option.toList_some, Option.toList_none, List.cons_append, List.nil_append, List.map_nil, List.map_cons, List.sum_nil, List.sum_cons, cat_i, cat_l, cat_r, cat_n, Nat.reduceLeDiff, Nat.reduceAdd, Nat.reduceEqDiff, Nat.zero_le, p_ent, p_u_ne, p_u_at, reduceIte, if_true, if_false, P_ce s67, P_ce s72, P_ce s77]
  · rw [if_neg c, if_neg c]
    unfold nmO at s67
    by_cases c1 : tC B T k = 50
    · rw [if_pos c1] at s67
      have g7 : 7 < (if tV B T k ≤ 1000 then tV B T k else 1001) := by
        split
        · exact Nat.not_le.mp (fun h => c ⟨c1, h⟩)
        · omega
      have g9 : (if tV B T k ≤ 1000 then tV B T k else 1001) ≤ 1001 := by split <;> omega
      clear s72 s77 c
      generalize (if tV B T k ≤ 1000 then tV B T k else 1001) = vv at *
      replace s67 : P_m d 67 [.ref 35] (p_mk Ls I L R X) (fun v h' => v = some (.int (nI vv)) ∧ h' = p_mk Ls I L R X) := s67
      simp -implicitDefEqProofs (disch := first | omega | decide) only [P_m, ↓P_run_eq _ 66 _ (p_bk 66 0), bk_66_0, pb_66_0, ↓P_run_eq _ 66 _ (p_bk 66 1), bk_66_1, pb_66_1, ↓P_run_eq _ 66 _ (p_bk 66 2), bk_66_2, pb_66_2, pw_iload_n1, pw_bipush, bl_11, pw_ceq, pw_aload_n0, pw_aloadN_n0, pw_getR, pw_iconst, il_1, pw_iv3, pw_popi, pw_popr, pw_ret1, pw_iv1, pw_istore_n2, ps_2, pe_2, po_i2, po_r2, po_n2, po_u2, pw_iload_n2, pw_zlt, bl_8, pw_clt, pw_nop, il_0, kd_35, rf_35_0, rf_35_1, kd_36, rf_36_1, rf_36_2, rf_36_3, rf_36_4, rf_36_5, rf_36_7, rf_36_8, n_0, n_1, n_8, n_11, nn_lt, nn_nlt, nn_le, nn_nle, nn_ne, nn_sub, nn_mul, nI_add, nn_neg, nm_eq, mn_eq, mm_eq, mn_lt, nm_lt, mn_le, nm_le, nn_sub0, nn_of, implies_true, nn_c, nn_in, nn_div, nat_rem, Nat.reduceMul, Nat.reduceSub, Nat.reduceDiv, Nat.reduceMod, pf_at, pf_ne, mk_s, mk_1, Classical.not_not, b2i_T, b2i_F, false_imp_iff, true_imp_iff, false_and, and_false, p_sw, Int.reduceAdd, Int.zero_add, Option.some.injEq, Value.int.injEq, Value.long.injEq, Value.ref.injEq, exists_eq_left', mk_I, mk_L, mk_wI, mk_wL, rf_s, rf_n, true_and, and_true, and_self, or_true, true_or, or_false, false_or, not_true_eq_false, not_false_eq_true, Option.toList_some, Option.toList_none, List.cons_append, List.nil_append, List.map_nil, List.map_cons, List.sum_nil, List.sum_cons, cat_i, cat_l, cat_r, cat_n, Nat.reduceLeDiff, Nat.reduceAdd, Nat.reduceEqDiff, Nat.zero_le, p_ent, p_u_ne, p_u_at, reduceIte, if_true, if_false, P_ce s67]
    · rw [if_neg c1] at s67
      replace s67 : P_m d 67 [.ref 35] (p_mk Ls I L R X) (fun v h' => v = some (.int (mI 1)) ∧ h' = p_mk Ls I L R X) := s67
      clear s72 s77
      simp -implicitDefEqProofs (disch := first | omega | decide) only [P_m, ↓P_run_eq _ 66 _ (p_bk 66 0), bk_66_0, pb_66_0, ↓P_run_eq _ 66 _ (p_bk 66 1), bk_66_1, pb_66_1, ↓P_run_eq _ 66 _ (p_bk 66 2), bk_66_2, pb_66_2, pw_iload_n1, pw_bipush, bl_11, pw_ceq, pw_aload_n0, pw_aloadN_n0, pw_getR, pw_iconst, il_1, pw_iv3, pw_popi, pw_popr, pw_ret1, pw_iv1, pw_istore_n2, ps_2, pe_2, po_i2, po_r2, po_n2, po_u2, pw_iload_n2, pw_zlt, bl_8, pw_clt, pw_nop, il_0, kd_35, rf_35_0, rf_35_1, kd_36, rf_36_1, rf_36_2, rf_36_3, rf_36_4, rf_36_5, rf_36_7, rf_36_8, n_0, n_1, n_8, n_11, nn_lt, nn_nlt, nn_le, nn_nle, nn_ne, nn_sub, nn_mul, nI_add, nn_neg, nm_eq, mn_eq, mm_eq, mn_lt, nm_lt, mn_le, nm_le, nn_sub0, nn_of, implies_true, nn_c, nn_in, nn_div, nat_rem, Nat.reduceMul, Nat.reduceSub, Nat.reduceDiv, Nat.reduceMod, pf_at, pf_ne, mk_s, mk_1, Classical.not_not, b2i_T, b2i_F, false_imp_iff, true_imp_iff, false_and, and_false, p_sw, Int.reduceAdd, Int.zero_add, Option.some.injEq, Value.int.injEq, Value.long.injEq, Value.ref.injEq, exists_eq_left', mk_I, mk_L, mk_wI, mk_wL, rf_s, rf_n, true_and, and_true, and_self, or_true, true_or, or_false, false_or, not_true_eq_false, not_false_eq_true, Option.toList_some, Option.toList_none, List.cons_append, List.nil_append, List.map_nil, List.map_cons, List.sum_nil, List.sum_cons, cat_i, cat_l, cat_r, cat_n, Nat.reduceLeDiff, Nat.reduceAdd, Nat.reduceEqDiff, Nat.zero_le, p_ent, p_u_ne, p_u_at, reduceIte, if_true, if_false, lm1, P_ce s67]
/-- a part that is no bracket -/
theorem pl_leaf {k l N dd : Nat} {D : tCd} (H : rdB o B T I R) (hS : rdS B T I k l D) (hN : ∀ k, N ≤ k → tC B T k = 0) (h4 : N ≤ 400) (h91 : ¬ tC B T k = 191) {r : Except Nat (Nat × Nat × tDS × tCd)} (hr : pLf o (tC B T) (tV B T) k l = some r) : ∃ J, (frS I J ∧ ocS B T J D r) ∧ P_m (d + 7) 65 [.ref 35, .int (nI dd)] (p_mk Ls I L R X) (fun v h' => v = some (.int (nI (ocV r))) ∧ h' = p_mk Ls J L R X) := by
  obtain ⟨hI, h0, h3⟩ := H
  obtain ⟨hk, e6, l5, e36, Dk, hD⟩ := hS
  have s68 := pl_68 (d := d + 6) (Ls := Ls) (L := L) (X := X) (c := 91) h0 hk (by omega) sg_ok.1 sg_ok.2.1
  rw [decide_eq_false (show ¬ tC B T k = 100 + 91 from h91), bN_f] at s68
  have s67 := pl_67 (d := d + 6) (Ls := Ls) (L := L) (X := X) h0 hk
  have s71 := pl_71t (d := d + 1) (Ls := Ls) (L := L) (X := X) (s := 2) hI h0 hk (by omega)
  have s71b := pl_71t (d := d + 1) (Ls := Ls) (L := L) (X := X) (s := 3) hI h0 hk (by omega)
  have cl : tC B T k < 356 := by
    have := tC_le (B := B) (T := T) (i := k) (fun j hj => (h0.2.2.2 j hj).2)
    omega
  obtain ⟨p14, p15, w10, w5⟩ := pl_14 _ cl
  rw [show 12 + 2 = 14 from rfl, p14] at s71
  rw [show 12 + 3 = 15 from rfl, p15] at s71b
  unfold pLf at hr
  by_cases lf : isLf o (tC B T k) (tV B T k) = false
  · -- it is none
    rw [if_pos lf] at hr
    cases hr
    refine ⟨I, ⟨frS_rf, hk⟩, ?_⟩
    show P_m _ _ _ _ (fun v h' => v = some (.int (nI 0)) ∧ _)
    by_cases c50 : tC B T k = 50
    · have v1 : ¬ tV B T k ≤ 1000 := fun hv => by
        unfold isLf at lf
        rw [c50, decide_eq_true hv] at lf
        simp at lf
      unfold nmO at s67
      rw [if_pos c50, if_neg v1] at s67
      rw [c50] at s71 s71b
      replace s67 : P_m (d + 6) 67 [.ref 35] (p_mk Ls I L R X) (fun v h' => v = some (.int (nI 1001)) ∧ h' = p_mk Ls I L R X) := s67
      replace s71 : P_m (d + 6) 71 [.ref 35, .ref 14] (p_mk Ls I L R X) (fun v h' => v = some (.int (mI 1)) ∧ h' = p_mk Ls I L R X) := s71
      replace s71b : P_m (d + 6) 71 [.ref 35, .ref 15] (p_mk Ls I L R X) (fun v h' => v = some (.int (mI 1)) ∧ h' = p_mk Ls I L R X) := s71b
      by_cases l50 : 50 ≤ l
      · cases o with
        | false =>
          rw [bN_f] at h3
          simp -implicitDefEqProofs (disch := first | omega | decide) only [P_m, ↓P_run_eq _ 65 _ (p_bk 65 0), bk_65_0, pb_65_0, ↓P_run_eq _ 65 _ (p_bk 65 4), bk_65_4, pb_65_4, ↓P_run_eq _ 65 _ (p_bk 65 5), bk_65_5, pb_65_5, ↓P_run_eq _ 65 _ (p_bk 65 6), bk_65_6, pb_65_6, ↓P_run_eq _ 65 _ (p_bk 65 7), bk_65_7, pb_65_7, pw_aload_n0, pw_aloadN_n0, pw_bipush, bl_91, pw_iv2, pw_zeq, pw_iload_n1, bl_8, pw_clt, pw_iconst, il_0, pw_ret1, pw_iv1, pw_istore_n2, ps_2, pe_2, po_i2, po_r2, po_n2, po_u2, pw_getI, pw_ldcS, pw_goto, pw_nop, pw_istore_n3, ps_3, pe_3, po_i3, po_r3, po_n3, po_u3, bl_50, pw_cge, pw_iload_n2, pw_sipush, sl_1000, pw_cgt, il_m1, pw_cne, pw_iload_n3, kd_35, rf_35_0, rf_35_1, n_0, n_1, n_8, n_50, n_91, n_1000, nn_lt, nn_nlt, nn_le, nn_nle, nn_ne, nn_sub, nn_mul, nI_add, nn_neg, nm_eq, mn_eq, mm_eq, mn_lt, nm_lt, mn_le, nm_le, nn_sub0, nn_of, implies_true, nn_c, nn_in, nn_div, nat_rem, Nat.reduceMul, Nat.reduceSub, Nat.reduceDiv, Nat.reduceMod, pf_at, pf_ne, mk_s, mk_1, Classical.not_not, b2i_T, b2i_F, false_imp_iff, true_imp_iff, false_and, and_false, p_sw, Int.reduceAdd, Int.zero_add, Option.some.injEq, Value.int.injEq, Value.long.injEq, Value.ref.injEq, exists_eq_left', mk_I, mk_L, mk_wI, mk_wL, rf_s, rf_n, true_and, and_true, and_self, or_true, true_or, or_false, false_or, not_true_eq_false, not_false_eq_true, Option.toList_some, Option.toList_none, List.cons_append, List.nil_append, List.map_nil, List.map_cons, List.sum_nil, List.sum_cons, cat_i, cat_l, cat_r, cat_n, Nat.reduceLeDiff, Nat.reduceAdd, Nat.reduceEqDiff, Nat.zero_le, p_ent, p_u_ne, p_u_at, reduceIte, if_true, if_false, h3, e6, P_ce s68, P_ce s67, P_ce s71b]
        | true =>
          rw [bN_t] at h3
          simp -implicitDefEqProofs (disch := first | omega | decide) only [P_m, ↓P_run_eq _ 65 _ (p_bk 65 0), bk_65_0, pb_65_0, ↓P_run_eq _ 65 _ (p_bk 65 4), bk_65_4, pb_65_4, ↓P_run_eq _ 65 _ (p_bk 65 6), bk_65_6, pb_65_6, ↓P_run_eq _ 65 _ (p_bk 65 7), bk_65_7, pb_65_7, pw_aload_n0, pw_aloadN_n0, pw_bipush, bl_91, pw_iv2, pw_zeq, pw_iload_n1, bl_8, pw_clt, pw_iconst, il_0, pw_ret1, pw_iv1, pw_istore_n2, ps_2, pe_2, po_i2, po_r2, po_n2, po_u2, pw_getI, pw_ldcS, pw_goto, pw_istore_n3, ps_3, pe_3, po_i3, po_r3, po_n3, po_u3, bl_50, pw_cge, pw_iload_n2, pw_sipush, sl_1000, pw_cgt, il_m1, pw_cne, pw_iload_n3, pw_nop, kd_35, rf_35_0, rf_35_1, n_0, n_1, n_8, n_50, n_91, n_1000, nn_lt, nn_nlt, nn_le, nn_nle, nn_ne, nn_sub, nn_mul, nI_add, nn_neg, nm_eq, mn_eq, mm_eq, mn_lt, nm_lt, mn_le, nm_le, nn_sub0, nn_of, implies_true, nn_c, nn_in, nn_div, nat_rem, Nat.reduceMul, Nat.reduceSub, Nat.reduceDiv, Nat.reduceMod, pf_at, pf_ne, mk_s, mk_1, Classical.not_not, b2i_T, b2i_F, false_imp_iff, true_imp_iff, false_and, and_false, p_sw, Int.reduceAdd, Int.zero_add, Option.some.injEq, Value.int.injEq, Value.long.injEq, Value.ref.injEq, exists_eq_left', mk_I, mk_L, mk_wI, mk_wL, rf_s, rf_n, true_and, and_true, and_self, or_true, true_or, or_false, false_or, not_true_eq_false, not_false_eq_true, Option.toList_some, Option.toList_none, List.cons_append, List.nil_append, List.map_nil, List.map_cons, List.sum_nil, List.sum_cons, cat_i, cat_l, cat_r, cat_n, Nat.reduceLeDiff, Nat.reduceAdd, Nat.reduceEqDiff, Nat.zero_le, p_ent, p_u_ne, p_u_at, reduceIte, if_true, if_false, h3, e6, P_ce s68, P_ce s67, P_ce s71]
      · cases o with
        | false =>
          rw [bN_f] at h3
          simp -implicitDefEqProofs (disch := first | omega | decide) only [P_m, ↓P_run_eq _ 65 _ (p_bk 65 0), bk_65_0, pb_65_0, ↓P_run_eq _ 65 _ (p_bk 65 4), bk_65_4, pb_65_4, ↓P_run_eq _ 65 _ (p_bk 65 5), bk_65_5, pb_65_5, ↓P_run_eq _ 65 _ (p_bk 65 6), bk_65_6, pb_65_6, ↓P_run_eq _ 65 _ (p_bk 65 7), bk_65_7, pb_65_7, pw_aload_n0, pw_aloadN_n0, pw_bipush, bl_91, pw_iv2, pw_zeq, pw_iload_n1, bl_8, pw_clt, pw_iconst, il_0, pw_ret1, pw_iv1, pw_istore_n2, ps_2, pe_2, po_i2, po_r2, po_n2, po_u2, pw_getI, pw_ldcS, pw_goto, pw_nop, pw_istore_n3, ps_3, pe_3, po_i3, po_r3, po_n3, po_u3, bl_50, pw_cge, pw_iload_n2, pw_sipush, sl_1000, pw_cgt, il_m1, pw_cne, pw_iload_n3, kd_35, rf_35_0, rf_35_1, n_0, n_1, n_8, n_50, n_91, n_1000, nn_lt, nn_nlt, nn_le, nn_nle, nn_ne, nn_sub, nn_mul, nI_add, nn_neg, nm_eq, mn_eq, mm_eq, mn_lt, nm_lt, mn_le, nm_le, nn_sub0, nn_of, implies_true, nn_c, nn_in, nn_div, nat_rem, Nat.reduceMul, Nat.reduceSub, Nat.reduceDiv, Nat.reduceMod, pf_at, pf_ne, mk_s, mk_1, Classical.not_not, b2i_T, b2i_F, false_imp_iff, true_imp_iff, false_and, and_false, p_sw, Int.reduceAdd, Int.zero_add, Option.some.injEq, Value.int.injEq, Value.long.injEq, Value.ref.injEq, exists_eq_left', mk_I, mk_L, mk_wI, mk_wL, rf_s, rf_n, true_and, and_true, and_self, or_true, true_or, or_false, false_or, not_true_eq_false, not_false_eq_true, Option.toList_some, Option.toList_none, List.cons_append, List.nil_append, List.map_nil, List.map_cons, List.sum_nil, List.sum_cons, cat_i, cat_l, cat_r, cat_n, Nat.reduceLeDiff, Nat.reduceAdd, Nat.reduceEqDiff, Nat.zero_le, p_ent, p_u_ne, p_u_at, reduceIte, if_true, if_false, h3, e6, P_ce s68, P_ce s67, P_ce s71b]
        | true =>
          rw [bN_t] at h3
          simp -implicitDefEqProofs (disch := first | omega | decide) only [P_m, ↓P_run_eq _ 65 _ (p_bk 65 0), bk_65_0, pb_65_0, ↓P_run_eq _ 65 _ (p_bk 65 4), bk_65_4, pb_65_4, ↓P_run_eq _ 65 _ (p_bk 65 6), bk_65_6, pb_65_6, ↓P_run_eq _ 65 _ (p_bk 65 7), bk_65_7, pb_65_7, pw_aload_n0, pw_aloadN_n0, pw_bipush, bl_91, pw_iv2, pw_zeq, pw_iload_n1, bl_8, pw_clt, pw_iconst, il_0, pw_ret1, pw_iv1, pw_istore_n2, ps_2, pe_2, po_i2, po_r2, po_n2, po_u2, pw_getI, pw_ldcS, pw_goto, pw_istore_n3, ps_3, pe_3, po_i3, po_r3, po_n3, po_u3, bl_50, pw_cge, pw_iload_n2, pw_sipush, sl_1000, pw_cgt, il_m1, pw_cne, pw_iload_n3, pw_nop, kd_35, rf_35_0, rf_35_1, n_0, n_1, n_8, n_50, n_91, n_1000, nn_lt, nn_nlt, nn_le, nn_nle, nn_ne, nn_sub, nn_mul, nI_add, nn_neg, nm_eq, mn_eq, mm_eq, mn_lt, nm_lt, mn_le, nm_le, nn_sub0, nn_of, implies_true, nn_c, nn_in, nn_div, nat_rem, Nat.reduceMul, Nat.reduceSub, Nat.reduceDiv, Nat.reduceMod, pf_at, pf_ne, mk_s, mk_1, Classical.not_not, b2i_T, b2i_F, false_imp_iff, true_imp_iff, false_and, and_false, p_sw, Int.reduceAdd, Int.zero_add, Option.some.injEq, Value.int.injEq, Value.long.injEq, Value.ref.injEq, exists_eq_left', mk_I, mk_L, mk_wI, mk_wL, rf_s, rf_n, true_and, and_true, and_self, or_true, true_or, or_false, false_or, not_true_eq_false, not_false_eq_true, Option.toList_some, Option.toList_none, List.cons_append, List.nil_append, List.map_nil, List.map_cons, List.sum_nil, List.sum_cons, cat_i, cat_l, cat_r, cat_n, Nat.reduceLeDiff, Nat.reduceAdd, Nat.reduceEqDiff, Nat.zero_le, p_ent, p_u_ne, p_u_at, reduceIte, if_true, if_false, h3, e6, P_ce s68, P_ce s67, P_ce s71]
    · unfold nmO at s67
      rw [if_neg c50] at s67
      replace s67 : P_m (d + 6) 67 [.ref 35] (p_mk Ls I L R X) (fun v h' => v = some (.int (mI 1)) ∧ h' = p_mk Ls I L R X) := s67
      unfold isLf at lf
      rw [decide_eq_false c50, Bool.false_and, Bool.false_or] at lf
      cases o with
      | false =>
        rw [bN_f] at h3
        have nw : ¬ (8 ≤ tC B T k ∧ tC B T k ≤ 16) := by simpa using lf
        rw [if_neg nw] at s71b
        replace s71b : P_m (d + 6) 71 [.ref 35, .ref 15] (p_mk Ls I L R X) (fun v h' => v = some (.int (mI 1)) ∧ h' = p_mk Ls I L R X) := s71b
        by_cases l50 : 50 ≤ l
        · simp -implicitDefEqProofs (disch := first | omega | decide) only [P_m, ↓P_run_eq _ 65 _ (p_bk 65 0), bk_65_0, pb_65_0, ↓P_run_eq _ 65 _ (p_bk 65 4), bk_65_4, pb_65_4, ↓P_run_eq _ 65 _ (p_bk 65 5), bk_65_5, pb_65_5, ↓P_run_eq _ 65 _ (p_bk 65 6), bk_65_6, pb_65_6, ↓P_run_eq _ 65 _ (p_bk 65 7), bk_65_7, pb_65_7, pw_aload_n0, pw_aloadN_n0, pw_bipush, bl_91, pw_iv2, pw_zeq, pw_iload_n1, bl_8, pw_clt, pw_iconst, il_0, pw_ret1, pw_iv1, pw_istore_n2, ps_2, pe_2, po_i2, po_r2, po_n2, po_u2, pw_getI, pw_ldcS, pw_goto, pw_nop, pw_istore_n3, ps_3, pe_3, po_i3, po_r3, po_n3, po_u3, bl_50, pw_cge, pw_iload_n2, pw_sipush, sl_1000, pw_cgt, il_m1, pw_cne, pw_iload_n3, kd_35, rf_35_0, rf_35_1, n_0, n_1, n_8, n_50, n_91, n_1000, nn_lt, nn_nlt, nn_le, nn_nle, nn_ne, nn_sub, nn_mul, nI_add, nn_neg, nm_eq, mn_eq, mm_eq, mn_lt, nm_lt, mn_le, nm_le, nn_sub0, nn_of, implies_true, nn_c, nn_in, nn_div, nat_rem, Nat.reduceMul, Nat.reduceSub, Nat.reduceDiv, Nat.reduceMod, pf_at, pf_ne, mk_s, mk_1, Classical.not_not, b2i_T, b2i_F, false_imp_iff, true_imp_iff, false_and, and_false, p_sw, Int.reduceAdd, Int.zero_add, Option.some.injEq, Value.int.injEq, Value.long.injEq, Value.ref.injEq, exists_eq_left', mk_I, mk_L, mk_wI, mk_wL, rf_s, rf_n, true_and, and_true, and_self, or_true, true_or, or_false, false_or, not_true_eq_false, not_false_eq_true, Option.toList_some, Option.toList_none, List.cons_append, List.nil_append, List.map_nil, List.map_cons, List.sum_nil, List.sum_cons, cat_i, cat_l, cat_r, cat_n, Nat.reduceLeDiff, Nat.reduceAdd, Nat.reduceEqDiff, Nat.zero_le, p_ent, p_u_ne, p_u_at, reduceIte, if_true, if_false, h3, e6, P_ce s68, P_ce s67, P_ce s71b]
        · simp -implicitDefEqProofs (disch := first | omega | decide) only [P_m, ↓P_run_eq _ 65 _ (p_bk 65 0), bk_65_0, pb_65_0, ↓P_run_eq _ 65 _ (p_bk 65 4), bk_65_4, pb_65_4, ↓P_run_eq _ 65 _ (p_bk 65 5), bk_65_5, pb_65_5, ↓P_run_eq _ 65 _ (p_bk 65 6), bk_65_6, pb_65_6, ↓P_run_eq _ 65 _ (p_bk 65 7), bk_65_7, pb_65_7, pw_aload_n0, pw_aloadN_n0, pw_bipush, bl_91, pw_iv2, pw_zeq, pw_iload_n1, bl_8, pw_clt, pw_iconst, il_0, pw_ret1, pw_iv1, pw_istore_n2, ps_2, pe_2, po_i2, po_r2, po_n2, po_u2, pw_getI, pw_ldcS, pw_goto, pw_nop, pw_istore_n3, ps_3, pe_3, po_i3, po_r3, po_n3, po_u3, bl_50, pw_cge, pw_iload_n2, pw_sipush, sl_1000, pw_cgt, il_m1, pw_cne, pw_iload_n3, kd_35, rf_35_0, rf_35_1, n_0, n_1, n_8, n_50, n_91, n_1000, nn_lt, nn_nlt, nn_le, nn_nle, nn_ne, nn_sub, nn_mul, nI_add, nn_neg, nm_eq, mn_eq, mm_eq, mn_lt, nm_lt, mn_le, nm_le, nn_sub0, nn_of, implies_true, nn_c, nn_in, nn_div, nat_rem, Nat.reduceMul, Nat.reduceSub, Nat.reduceDiv, Nat.reduceMod, pf_at, pf_ne, mk_s, mk_1, Classical.not_not, b2i_T, b2i_F, false_imp_iff, true_imp_iff, false_and, and_false, p_sw, Int.reduceAdd, Int.zero_add, Option.some.injEq, Value.int.injEq, Value.long.injEq, Value.ref.injEq, exists_eq_left', mk_I, mk_L, mk_wI, mk_wL, rf_s, rf_n, true_and, and_true, and_self, or_true, true_or, or_false, false_or, not_true_eq_false, not_false_eq_true, Option.toList_some, Option.toList_none, List.cons_append, List.nil_append, List.map_nil, List.map_cons, List.sum_nil, List.sum_cons, cat_i, cat_l, cat_r, cat_n, Nat.reduceLeDiff, Nat.reduceAdd, Nat.reduceEqDiff, Nat.zero_le, p_ent, p_u_ne, p_u_at, reduceIte, if_true, if_false, h3, e6, P_ce s68, P_ce s67, P_ce s71b]
      | true =>
        rw [bN_t] at h3
        have nw : ¬ (12 ≤ tC B T k ∧ tC B T k ≤ 18) := by simpa using lf
        rw [if_neg nw] at s71
        replace s71 : P_m (d + 6) 71 [.ref 35, .ref 14] (p_mk Ls I L R X) (fun v h' => v = some (.int (mI 1)) ∧ h' = p_mk Ls I L R X) := s71
        by_cases l50 : 50 ≤ l
        · simp -implicitDefEqProofs (disch := first | omega | decide) only [P_m, ↓P_run_eq _ 65 _ (p_bk 65 0), bk_65_0, pb_65_0, ↓P_run_eq _ 65 _ (p_bk 65 4), bk_65_4, pb_65_4, ↓P_run_eq _ 65 _ (p_bk 65 6), bk_65_6, pb_65_6, ↓P_run_eq _ 65 _ (p_bk 65 7), bk_65_7, pb_65_7, pw_aload_n0, pw_aloadN_n0, pw_bipush, bl_91, pw_iv2, pw_zeq, pw_iload_n1, bl_8, pw_clt, pw_iconst, il_0, pw_ret1, pw_iv1, pw_istore_n2, ps_2, pe_2, po_i2, po_r2, po_n2, po_u2, pw_getI, pw_ldcS, pw_goto, pw_istore_n3, ps_3, pe_3, po_i3, po_r3, po_n3, po_u3, bl_50, pw_cge, pw_iload_n2, pw_sipush, sl_1000, pw_cgt, il_m1, pw_cne, pw_iload_n3, pw_nop, kd_35, rf_35_0, rf_35_1, n_0, n_1, n_8, n_50, n_91, n_1000, nn_lt, nn_nlt, nn_le, nn_nle, nn_ne, nn_sub, nn_mul, nI_add, nn_neg, nm_eq, mn_eq, mm_eq, mn_lt, nm_lt, mn_le, nm_le, nn_sub0, nn_of, implies_true, nn_c, nn_in, nn_div, nat_rem, Nat.reduceMul, Nat.reduceSub, Nat.reduceDiv, Nat.reduceMod, pf_at, pf_ne, mk_s, mk_1, Classical.not_not, b2i_T, b2i_F, false_imp_iff, true_imp_iff, false_and, and_false, p_sw, Int.reduceAdd, Int.zero_add, Option.some.injEq, Value.int.injEq, Value.long.injEq, Value.ref.injEq, exists_eq_left', mk_I, mk_L, mk_wI, mk_wL, rf_s, rf_n, true_and, and_true, and_self, or_true, true_or, or_false, false_or, not_true_eq_false, not_false_eq_true, Option.toList_some, Option.toList_none, List.cons_append, List.nil_append, List.map_nil, List.map_cons, List.sum_nil, List.sum_cons, cat_i, cat_l, cat_r, cat_n, Nat.reduceLeDiff, Nat.reduceAdd, Nat.reduceEqDiff, Nat.zero_le, p_ent, p_u_ne, p_u_at, reduceIte, if_true, if_false, h3, e6, P_ce s68, P_ce s67, P_ce s71]
        · simp -implicitDefEqProofs (disch := first | omega | decide) only [P_m, ↓P_run_eq _ 65 _ (p_bk 65 0), bk_65_0, pb_65_0, ↓P_run_eq _ 65 _ (p_bk 65 4), bk_65_4, pb_65_4, ↓P_run_eq _ 65 _ (p_bk 65 6), bk_65_6, pb_65_6, ↓P_run_eq _ 65 _ (p_bk 65 7), bk_65_7, pb_65_7, pw_aload_n0, pw_aloadN_n0, pw_bipush, bl_91, pw_iv2, pw_zeq, pw_iload_n1, bl_8, pw_clt, pw_iconst, il_0, pw_ret1, pw_iv1, pw_istore_n2, ps_2, pe_2, po_i2, po_r2, po_n2, po_u2, pw_getI, pw_ldcS, pw_goto, pw_istore_n3, ps_3, pe_3, po_i3, po_r3, po_n3, po_u3, bl_50, pw_cge, pw_iload_n2, pw_sipush, sl_1000, pw_cgt, il_m1, pw_cne, pw_iload_n3, pw_nop, kd_35, rf_35_0, rf_35_1, n_0, n_1, n_8, n_50, n_91, n_1000, nn_lt, nn_nlt, nn_le, nn_nle, nn_ne, nn_sub, nn_mul, nI_add, nn_neg, nm_eq, mn_eq, mm_eq, mn_lt, nm_lt, mn_le, nm_le, nn_sub0, nn_of, implies_true, nn_c, nn_in, nn_div, nat_rem, Nat.reduceMul, Nat.reduceSub, Nat.reduceDiv, Nat.reduceMod, pf_at, pf_ne, mk_s, mk_1, Classical.not_not, b2i_T, b2i_F, false_imp_iff, true_imp_iff, false_and, and_false, p_sw, Int.reduceAdd, Int.zero_add, Option.some.injEq, Value.int.injEq, Value.long.injEq, Value.ref.injEq, exists_eq_left', mk_I, mk_L, mk_wI, mk_wL, rf_s, rf_n, true_and, and_true, and_self, or_true, true_or, or_false, false_or, not_true_eq_false, not_false_eq_true, Option.toList_some, Option.toList_none, List.cons_append, List.nil_append, List.map_nil, List.map_cons, List.sum_nil, List.sum_cons, cat_i, cat_l, cat_r, cat_n, Nat.reduceLeDiff, Nat.reduceAdd, Nat.reduceEqDiff, Nat.zero_le, p_ent, p_u_ne, p_u_at, reduceIte, if_true, if_false, h3, e6, P_ce s68, P_ce s67, P_ce s71]
  · rw [if_neg lf] at hr
    have lf : isLf o (tC B T k) (tV B T k) = true := by simpa using lf
    by_cases l50 : 50 ≤ l
    · rw [if_pos l50] at hr
      cases hr
      refine ⟨I, ⟨frS_rf, hk⟩, ?_⟩
      show P_m _ _ _ _ (fun v h' => v = some (.int (nI 0)) ∧ _)
      generalize pnI (nmO B T k) = NM at *
      generalize pnI (if 12 ≤ tC B T k ∧ tC B T k ≤ 18 then some (if tC B T k = 12 then 6 else wdi (tC B T k) - 5) else none) = W1 at *
      generalize pnI (if 8 ≤ tC B T k ∧ tC B T k ≤ 16 then some (wdi (tC B T k)) else none) = W2 at *
      cases o with
      | false =>
        rw [bN_f] at h3
        simp -implicitDefEqProofs (disch := first | omega | decide) only [P_m, ↓P_run_eq _ 65 _ (p_bk 65 0), bk_65_0, pb_65_0, ↓P_run_eq _ 65 _ (p_bk 65 4), bk_65_4, pb_65_4, ↓P_run_eq _ 65 _ (p_bk 65 5), bk_65_5, pb_65_5, ↓P_run_eq _ 65 _ (p_bk 65 6), bk_65_6, pb_65_6, ↓P_run_eq _ 65 _ (p_bk 65 7), bk_65_7, pb_65_7, pw_aload_n0, pw_aloadN_n0, pw_bipush, bl_91, pw_iv2, pw_zeq, pw_iload_n1, bl_8, pw_clt, pw_iconst, il_0, pw_ret1, pw_iv1, pw_istore_n2, ps_2, pe_2, po_i2, po_r2, po_n2, po_u2, pw_getI, pw_ldcS, pw_goto, pw_nop, pw_istore_n3, ps_3, pe_3, po_i3, po_r3, po_n3, po_u3, bl_50, pw_cge, pw_iload_n2, pw_sipush, sl_1000, pw_cgt, il_m1, pw_cne, pw_iload_n3, kd_35, rf_35_0, rf_35_1, n_0, n_1, n_8, n_50, n_91, n_1000, nn_lt, nn_nlt, nn_le, nn_nle, nn_ne, nn_sub, nn_mul, nI_add, nn_neg, nm_eq, mn_eq, mm_eq, mn_lt, nm_lt, mn_le, nm_le, nn_sub0, nn_of, implies_true, nn_c, nn_in, nn_div, nat_rem, Nat.reduceMul, Nat.reduceSub, Nat.reduceDiv, Nat.reduceMod, pf_at, pf_ne, mk_s, mk_1, Classical.not_not, b2i_T, b2i_F, false_imp_iff, true_imp_iff, false_and, and_false, p_sw, Int.reduceAdd, Int.zero_add, Option.some.injEq, Value.int.injEq, Value.long.injEq, Value.ref.injEq, exists_eq_left', mk_I, mk_L, mk_wI, mk_wL, rf_s, rf_n, true_and, and_true, and_self, or_true, true_or, or_false, false_or, not_true_eq_false, not_false_eq_true, Option.toList_some, Option.toList_none, List.cons_append, List.nil_append, List.map_nil, List.map_cons, List.sum_nil, List.sum_cons, cat_i, cat_l, cat_r, cat_n, Nat.reduceLeDiff, Nat.reduceAdd, Nat.reduceEqDiff, Nat.zero_le, p_ent, p_u_ne, p_u_at, reduceIte, if_true, if_false, h3, e6, P_ce s68, P_ce s67, P_ce s71b]
      | true =>
        rw [bN_t] at h3
        simp -implicitDefEqProofs (disch := first | omega | decide) only [P_m, ↓P_run_eq _ 65 _ (p_bk 65 0), bk_65_0, pb_65_0, ↓P_run_eq _ 65 _ (p_bk 65 4), bk_65_4, pb_65_4, ↓P_run_eq _ 65 _ (p_bk 65 6), bk_65_6, pb_65_6, ↓P_run_eq _ 65 _ (p_bk 65 7), bk_65_7, pb_65_7, pw_aload_n0, pw_aloadN_n0, pw_bipush, bl_91, pw_iv2, pw_zeq, pw_iload_n1, bl_8, pw_clt, pw_iconst, il_0, pw_ret1, pw_iv1, pw_istore_n2, ps_2, pe_2, po_i2, po_r2, po_n2, po_u2, pw_getI, pw_ldcS, pw_goto, pw_istore_n3, ps_3, pe_3, po_i3, po_r3, po_n3, po_u3, bl_50, pw_cge, pw_iload_n2, pw_sipush, sl_1000, pw_cgt, il_m1, pw_cne, pw_iload_n3, pw_nop, kd_35, rf_35_0, rf_35_1, n_0, n_1, n_8, n_50, n_91, n_1000, nn_lt, nn_nlt, nn_le, nn_nle, nn_ne, nn_sub, nn_mul, nI_add, nn_neg, nm_eq, mn_eq, mm_eq, mn_lt, nm_lt, mn_le, nm_le, nn_sub0, nn_of, implies_true, nn_c, nn_in, nn_div, nat_rem, Nat.reduceMul, Nat.reduceSub, Nat.reduceDiv, Nat.reduceMod, pf_at, pf_ne, mk_s, mk_1, Classical.not_not, b2i_T, b2i_F, false_imp_iff, true_imp_iff, false_and, and_false, p_sw, Int.reduceAdd, Int.zero_add, Option.some.injEq, Value.int.injEq, Value.long.injEq, Value.ref.injEq, exists_eq_left', mk_I, mk_L, mk_wI, mk_wL, rf_s, rf_n, true_and, and_true, and_self, or_true, true_or, or_false, false_or, not_true_eq_false, not_false_eq_true, Option.toList_some, Option.toList_none, List.cons_append, List.nil_append, List.map_nil, List.map_cons, List.sum_nil, List.sum_cons, cat_i, cat_l, cat_r, cat_n, Nat.reduceLeDiff, Nat.reduceAdd, Nat.reduceEqDiff, Nat.zero_le, p_ent, p_u_ne, p_u_at, reduceIte, if_true, if_false, h3, e6, P_ce s68, P_ce s67, P_ce s71]
    · rw [if_neg l50] at hr
      have kN : k < N := kN_of hN (fun hz => by
        rw [hz] at lf
        unfold isLf at lf
        cases o <;> simp at lf)
      have hS : rdS B T I k l D := ⟨hk, e6, l5, e36, Dk, hD⟩
      have hS1 := rdS_l hS (by omega)
      have f1 : frS I (p_u I 35 6 (nI (l + 1))) := frS_l
      have H1 := rdB_fr (o := o) (B := B) (T := T) (R := R) ⟨hI, h0, h3⟩ f1
      have s72 := pl_step (d := d + 6) (Ls := Ls) (L := L) (X := X) H1.2.1 hS1.1
      have hS2 := rdS_stp hS1
      have f2 : frS I (stp B T (p_u I 35 6 (nI (l + 1))) (k + 1)) := frS_tr f1 frS_stp
      have H2 := rdB_fr (o := o) (B := B) (T := T) (R := R) ⟨hI, h0, h3⟩ f2
      have h3b := H2.2.2
      generalize hJ2 : stp B T (p_u I 35 6 (nI (l + 1))) (k + 1) = J2 at *
      by_cases c50 : tC B T k = 50
      · have v1 : tV B T k ≤ 1000 := by
          unfold isLf at lf
          rw [c50] at lf
          cases o <;> simpa using lf
        rw [if_pos c50] at hr
        cases hr
        unfold nmO at s67
        rw [if_pos c50, if_pos v1] at s67
        replace s67 : P_m (d + 6) 67 [.ref 35] (p_mk Ls I L R X) (fun v h' => v = some (.int (nI (tV B T k))) ∧ h' = p_mk Ls I L R X) := s67
        have s77 := pl_77 (d := d + 6) (Ls := Ls) (L := L) (R := R) (X := X) (o := 0) (v := tV B T k) (show D.length < 400 by omega) hS2.2.2.2.1
        refine ⟨emW J2 D.length 0 (tV B T k), ⟨frS_tr f2 frS_em, rdS_em hS2 (by omega)⟩, ?_⟩
        show P_m _ _ _ _ (fun v h' => v = some (.int (nI 1)) ∧ _)
        clear hS2 hS1 hS H2 H1
        generalize emW J2 D.length 0 (tV B T k) = J3 at *
        generalize D.length = n at *
        generalize tV B T k = vv at *
        generalize pnI (if 12 ≤ tC B T k ∧ tC B T k ≤ 18 then some (if tC B T k = 12 then 6 else wdi (tC B T k) - 5) else none) = W1 at *
        generalize pnI (if 8 ≤ tC B T k ∧ tC B T k ≤ 16 then some (wdi (tC B T k)) else none) = W2 at *
        cases o with
        | false =>
          rw [bN_f] at h3 h3b
          simp -implicitDefEqProofs (disch := first | omega | decide) only [P_m, ↓P_run_eq _ 65 _ (p_bk 65 0), bk_65_0, pb_65_0, ↓P_run_eq _ 65 _ (p_bk 65 4), bk_65_4, pb_65_4, ↓P_run_eq _ 65 _ (p_bk 65 5), bk_65_5, pb_65_5, ↓P_run_eq _ 65 _ (p_bk 65 6), bk_65_6, pb_65_6, ↓P_run_eq _ 65 _ (p_bk 65 8), bk_65_8, pb_65_8, pw_aload_n0, pw_aloadN_n0, pw_bipush, bl_91, pw_iv2, pw_zeq, pw_iload_n1, bl_8, pw_clt, pw_iconst, il_0, pw_ret1, pw_iv1, pw_istore_n2, ps_2, pe_2, po_i2, po_r2, po_n2, po_u2, pw_getI, pw_ldcS, pw_goto, pw_nop, pw_istore_n3, ps_3, pe_3, po_i3, po_r3, po_n3, po_u3, bl_50, pw_cge, pw_iload_n2, pw_sipush, sl_1000, pw_cgt, il_m1, pw_cne, pw_iload_n3, pw_dupi, pw_dupr, il_1, pw_iadd, pw_putI, pw_ceq, pw_getR, pw_iv3, pw_popi, pw_popr, kd_35, rf_35_0, rf_35_1, kd_36, rf_36_1, rf_36_2, rf_36_3, rf_36_4, rf_36_5, rf_36_7, rf_36_8, n_0, n_1, n_8, n_50, n_91, n_1000, nn_lt, nn_nlt, nn_le, nn_nle, nn_ne, nn_sub, nn_mul, nI_add, nn_neg, nm_eq, mn_eq, mm_eq, mn_lt, nm_lt, mn_le, nm_le, nn_sub0, nn_of, implies_true, nn_c, nn_in, nn_div, nat_rem, Nat.reduceMul, Nat.reduceSub, Nat.reduceDiv, Nat.reduceMod, pf_at, pf_ne, mk_s, mk_1, Classical.not_not, b2i_T, b2i_F, false_imp_iff, true_imp_iff, false_and, and_false, p_sw, Int.reduceAdd, Int.zero_add, Option.some.injEq, Value.int.injEq, Value.long.injEq, Value.ref.injEq, exists_eq_left', mk_I, mk_L, mk_wI, mk_wL, rf_s, rf_n, true_and, and_true, and_self, or_true, true_or, or_false, false_or, not_true_eq_false, not_false_eq_true, Option.toList_some, Option.toList_none, List.cons_append, List.nil_append, List.map_nil, List.map_cons, List.sum_nil, List.sum_cons, cat_i, cat_l, cat_r, cat_n, Nat.reduceLeDiff, Nat.reduceAdd, Nat.reduceEqDiff, Nat.zero_le, p_ent, p_u_ne, p_u_at, reduceIte, if_true, if_false, h3, h3b, e6, P_ce s68, P_ce s67, P_ce s71b, P_ce s72, P_ce s77]
        | true =>
          rw [bN_t] at h3 h3b
          simp -implicitDefEqProofs (disch := first | omega | decide) only [P_m, ↓P_run_eq _ 65 _ (p_bk 65 0), bk_65_0, pb_65_0, ↓P_run_eq _ 65 _ (p_bk 65 4), bk_65_4, pb_65_4, ↓P_run_eq _ 65 _ (p_bk 65 6), bk_65_6, pb_65_6, ↓P_run_eq _ 65 _ (p_bk 65 8), bk_65_8, pb_65_8, pw_aload_n0, pw_aloadN_n0, pw_bipush, bl_91, pw_iv2, pw_zeq, pw_iload_n1, bl_8, pw_clt, pw_iconst, il_0, pw_ret1, pw_iv1, pw_istore_n2, ps_2, pe_2, po_i2, po_r2, po_n2, po_u2, pw_getI, pw_ldcS, pw_goto, pw_istore_n3, ps_3, pe_3, po_i3, po_r3, po_n3, po_u3, bl_50, pw_cge, pw_iload_n2, pw_sipush, sl_1000, pw_cgt, il_m1, pw_cne, pw_iload_n3, pw_nop, pw_dupi, pw_dupr, il_1, pw_iadd, pw_putI, pw_ceq, pw_getR, pw_iv3, pw_popi, pw_popr, kd_35, rf_35_0, rf_35_1, kd_36, rf_36_1, rf_36_2, rf_36_3, rf_36_4, rf_36_5, rf_36_7, rf_36_8, n_0, n_1, n_8, n_50, n_91, n_1000, nn_lt, nn_nlt, nn_le, nn_nle, nn_ne, nn_sub, nn_mul, nI_add, nn_neg, nm_eq, mn_eq, mm_eq, mn_lt, nm_lt, mn_le, nm_le, nn_sub0, nn_of, implies_true, nn_c, nn_in, nn_div, nat_rem, Nat.reduceMul, Nat.reduceSub, Nat.reduceDiv, Nat.reduceMod, pf_at, pf_ne, mk_s, mk_1, Classical.not_not, b2i_T, b2i_F, false_imp_iff, true_imp_iff, false_and, and_false, p_sw, Int.reduceAdd, Int.zero_add, Option.some.injEq, Value.int.injEq, Value.long.injEq, Value.ref.injEq, exists_eq_left', mk_I, mk_L, mk_wI, mk_wL, rf_s, rf_n, true_and, and_true, and_self, or_true, true_or, or_false, false_or, not_true_eq_false, not_false_eq_true, Option.toList_some, Option.toList_none, List.cons_append, List.nil_append, List.map_nil, List.map_cons, List.sum_nil, List.sum_cons, cat_i, cat_l, cat_r, cat_n, Nat.reduceLeDiff, Nat.reduceAdd, Nat.reduceEqDiff, Nat.zero_le, p_ent, p_u_ne, p_u_at, reduceIte, if_true, if_false, h3, h3b, e6, P_ce s68, P_ce s67, P_ce s71, P_ce s72, P_ce s77]
      · rw [if_neg c50] at hr
        unfold nmO at s67
        rw [if_neg c50] at s67
        replace s67 : P_m (d + 6) 67 [.ref 35] (p_mk Ls I L R X) (fun v h' => v = some (.int (mI 1)) ∧ h' = p_mk Ls I L R X) := s67
        unfold isLf at lf
        rw [decide_eq_false c50, Bool.false_and, Bool.false_or] at lf
        cases o with
        | false =>
          rw [bN_f] at h3 h3b
          have nw : 8 ≤ tC B T k ∧ tC B T k ≤ 16 := by simpa using lf
          rw [if_neg (fun hh => by cases hh.1)] at hr
          cases hr
          rw [if_pos nw] at s71b
          replace s71b : P_m (d + 6) 71 [.ref 35, .ref 15] (p_mk Ls I L R X) (fun v h' => v = some (.int (nI (wdi (tC B T k)))) ∧ h' = p_mk Ls I L R X) := s71b
          have s77 := pl_77 (d := d + 6) (Ls := Ls) (L := L) (R := R) (X := X) (o := 1) (v := wdi (tC B T k)) (show D.length < 400 by omega) hS2.2.2.2.1
          refine ⟨emW J2 D.length 1 (wdi (tC B T k)), ⟨frS_tr f2 frS_em, rdS_em hS2 (by omega)⟩, ?_⟩
          show P_m _ _ _ _ (fun v h' => v = some (.int (nI 1)) ∧ _)
          clear hS2 hS1 hS H2 H1
          generalize emW J2 D.length 1 (wdi (tC B T k)) = J3 at *
          generalize D.length = n at *
          generalize wdi (tC B T k) = vv at *
          simp -implicitDefEqProofs (disch := first | omega | decide) only [P_m, ↓P_run_eq _ 65 _ (p_bk 65 0), bk_65_0, pb_65_0, ↓P_run_eq _ 65 _ (p_bk 65 4), bk_65_4, pb_65_4, ↓P_run_eq _ 65 _ (p_bk 65 5), bk_65_5, pb_65_5, ↓P_run_eq _ 65 _ (p_bk 65 6), bk_65_6, pb_65_6, ↓P_run_eq _ 65 _ (p_bk 65 8), bk_65_8, pb_65_8, ↓P_run_eq _ 65 _ (p_bk 65 9), bk_65_9, pb_65_9, pw_aload_n0, pw_aloadN_n0, pw_bipush, bl_91, pw_iv2, pw_zeq, pw_iload_n1, bl_8, pw_clt, pw_iconst, il_0, pw_ret1, pw_iv1, pw_istore_n2, ps_2, pe_2, po_i2, po_r2, po_n2, po_u2, pw_getI, pw_ldcS, pw_goto, pw_nop, pw_istore_n3, ps_3, pe_3, po_i3, po_r3, po_n3, po_u3, bl_50, pw_cge, pw_iload_n2, pw_sipush, sl_1000, pw_cgt, il_m1, pw_cne, pw_iload_n3, pw_dupi, pw_dupr, il_1, pw_iadd, pw_putI, pw_ceq, pw_getR, pw_iv3, pw_popi, pw_popr, pw_zne, kd_35, rf_35_0, rf_35_1, kd_36, rf_36_1, rf_36_2, rf_36_3, rf_36_4, rf_36_5, rf_36_7, rf_36_8, n_0, n_1, n_8, n_50, n_91, n_1000, nn_lt, nn_nlt, nn_le, nn_nle, nn_ne, nn_sub, nn_mul, nI_add, nn_neg, nm_eq, mn_eq, mm_eq, mn_lt, nm_lt, mn_le, nm_le, nn_sub0, nn_of, implies_true, nn_c, nn_in, nn_div, nat_rem, Nat.reduceMul, Nat.reduceSub, Nat.reduceDiv, Nat.reduceMod, pf_at, pf_ne, mk_s, mk_1, Classical.not_not, b2i_T, b2i_F, false_imp_iff, true_imp_iff, false_and, and_false, p_sw, Int.reduceAdd, Int.zero_add, Option.some.injEq, Value.int.injEq, Value.long.injEq, Value.ref.injEq, exists_eq_left', mk_I, mk_L, mk_wI, mk_wL, rf_s, rf_n, true_and, and_true, and_self, or_true, true_or, or_false, false_or, not_true_eq_false, not_false_eq_true, Option.toList_some, Option.toList_none, List.cons_append, List.nil_append, List.map_nil, List.map_cons, List.sum_nil, List.sum_cons, cat_i, cat_l, cat_r, cat_n, Nat.reduceLeDiff, Nat.reduceAdd, Nat.reduceEqDiff, Nat.zero_le, p_ent, p_u_ne, p_u_at, reduceIte, if_true, if_false, h3, h3b, e6, P_ce s68, P_ce s67, P_ce s71b, P_ce s72, P_ce s77]
        | true =>
          rw [bN_t] at h3 h3b
          have nw : 12 ≤ tC B T k ∧ tC B T k ≤ 18 := by simpa using lf
          rw [if_pos nw] at s71
          by_cases c12 : tC B T k = 12
          · rw [if_pos ⟨rfl, c12⟩] at hr
            rw [if_pos c12] at s71
            replace s71 : P_m (d + 6) 71 [.ref 35, .ref 14] (p_mk Ls I L R X) (fun v h' => v = some (.int (nI 6)) ∧ h' = p_mk Ls I L R X) := s71
            have s66 := pl_66b (d := d + 5) (Ls := Ls) (L := L) (X := X) H2.2.1 hS2 (show D.length < 400 by omega)
            by_cases cq : tC B T (k + 1) = 50 ∧ tV B T (k + 1) ≤ 7
            · rw [if_pos cq] at hr
              rw [if_pos cq, if_pos cq] at s66
              cases hr
              refine ⟨emW (stp B T J2 (k + 1 + 1)) D.length 1 (11 + tV B T (k + 1)), ⟨frS_tr f2 (frS_tr frS_stp frS_em), rdS_em (rdS_stp hS2) (by omega)⟩, ?_⟩
              show P_m _ _ _ _ (fun v h' => v = some (.int (nI 1)) ∧ _)
              clear hS2 hS1 hS H2 H1
              generalize emW (stp B T J2 (k + 1 + 1)) D.length 1 (11 + tV B T (k + 1)) = J3 at *
              simp -implicitDefEqProofs (disch := first | omega | decide) only [P_m, ↓P_run_eq _ 65 _ (p_bk 65 0), bk_65_0, pb_65_0, ↓P_run_eq _ 65 _ (p_bk 65 4), bk_65_4, pb_65_4, ↓P_run_eq _ 65 _ (p_bk 65 6), bk_65_6, pb_65_6, ↓P_run_eq _ 65 _ (p_bk 65 8), bk_65_8, pb_65_8, ↓P_run_eq _ 65 _ (p_bk 65 9), bk_65_9, pb_65_9, ↓P_run_eq _ 65 _ (p_bk 65 10), bk_65_10, pb_65_10, pw_aload_n0, pw_aloadN_n0, pw_bipush, bl_91, pw_iv2, pw_zeq, pw_iload_n1, bl_8, pw_clt, pw_iconst, il_0, pw_ret1, pw_iv1, pw_istore_n2, ps_2, pe_2, po_i2, po_r2, po_n2, po_u2, pw_getI, pw_ldcS, pw_goto, pw_istore_n3, ps_3, pe_3, po_i3, po_r3, po_n3, po_u3, bl_50, pw_cge, pw_iload_n2, pw_sipush, sl_1000, pw_cgt, il_m1, pw_cne, pw_iload_n3, pw_nop, pw_dupi, pw_dupr, il_1, pw_iadd, pw_putI, pw_ceq, pw_getR, pw_iv3, pw_popi, pw_popr, pw_zne, il_5, kd_35, rf_35_0, rf_35_1, kd_36, rf_36_1, rf_36_2, rf_36_3, rf_36_4, rf_36_5, rf_36_7, rf_36_8, n_0, n_1, n_5, n_8, n_50, n_91, n_1000, nn_lt, nn_nlt, nn_le, nn_nle, nn_ne, nn_sub, nn_mul, nI_add, nn_neg, nm_eq, mn_eq, mm_eq, mn_lt, nm_lt, mn_le, nm_le, nn_sub0, nn_of, implies_true, nn_c, nn_in, nn_div, nat_rem, Nat.reduceMul, Nat.reduceSub, Nat.reduceDiv, Nat.reduceMod, pf_at, pf_ne, mk_s, mk_1, Classical.not_not, b2i_T, b2i_F, false_imp_iff, true_imp_iff, false_and, and_false, p_sw, Int.reduceAdd, Int.zero_add, Option.some.injEq, Value.int.injEq, Value.long.injEq, Value.ref.injEq, exists_eq_left', mk_I, mk_L, mk_wI, mk_wL, rf_s, rf_n, true_and, and_true, and_self, or_true, true_or, or_false, false_or, not_true_eq_false, not_false_eq_true, Option.toList_some, Option.toList_none, List.cons_append, List.nil_append, List.map_nil, List.map_cons, List.sum_nil, List.sum_cons, cat_i, cat_l, cat_r, cat_n, Nat.reduceLeDiff, Nat.reduceAdd, Nat.reduceEqDiff, Nat.zero_le, p_ent, p_u_ne, p_u_at, reduceIte, if_true, if_false, h3, h3b, e6, P_ce s68, P_ce s67, P_ce s71, P_ce s72, P_ce s66]
            · rw [if_neg cq] at hr
              rw [if_neg cq, if_neg cq] at s66
              cases hr
              refine ⟨J2, ⟨f2, hS2.1⟩, ?_⟩
              show P_m _ _ _ _ (fun v h' => v = some (.int (nI 0)) ∧ _)
              clear hS2 hS1 hS H2 H1
              simp -implicitDefEqProofs (disch := first | omega | decide) only [P_m, ↓P_run_eq _ 65 _ (p_bk 65 0), bk_65_0, pb_65_0, ↓P_run_eq _ 65 _ (p_bk 65 4), bk_65_4, pb_65_4, ↓P_run_eq _ 65 _ (p_bk 65 6), bk_65_6, pb_65_6, ↓P_run_eq _ 65 _ (p_bk 65 8), bk_65_8, pb_65_8, ↓P_run_eq _ 65 _ (p_bk 65 9), bk_65_9, pb_65_9, ↓P_run_eq _ 65 _ (p_bk 65 10), bk_65_10, pb_65_10, pw_aload_n0, pw_aloadN_n0, pw_bipush, bl_91, pw_iv2, pw_zeq, pw_iload_n1, bl_8, pw_clt, pw_iconst, il_0, pw_ret1, pw_iv1, pw_istore_n2, ps_2, pe_2, po_i2, po_r2, po_n2, po_u2, pw_getI, pw_ldcS, pw_goto, pw_istore_n3, ps_3, pe_3, po_i3, po_r3, po_n3, po_u3, bl_50, pw_cge, pw_iload_n2, pw_sipush, sl_1000, pw_cgt, il_m1, pw_cne, pw_iload_n3, pw_nop, pw_dupi, pw_dupr, il_1, pw_iadd, pw_putI, pw_ceq, pw_getR, pw_iv3, pw_popi, pw_popr, pw_zne, il_5, kd_35, rf_35_0, rf_35_1, kd_36, rf_36_1, rf_36_2, rf_36_3, rf_36_4, rf_36_5, rf_36_7, rf_36_8, n_0, n_1, n_5, n_8, n_50, n_91, n_1000, nn_lt, nn_nlt, nn_le, nn_nle, nn_ne, nn_sub, nn_mul, nI_add, nn_neg, nm_eq, mn_eq, mm_eq, mn_lt, nm_lt, mn_le, nm_le, nn_sub0, nn_of, implies_true, nn_c, nn_in, nn_div, nat_rem, Nat.reduceMul, Nat.reduceSub, Nat.reduceDiv, Nat.reduceMod, pf_at, pf_ne, mk_s, mk_1, Classical.not_not, b2i_T, b2i_F, false_imp_iff, true_imp_iff, false_and, and_false, p_sw, Int.reduceAdd, Int.zero_add, Option.some.injEq, Value.int.injEq, Value.long.injEq, Value.ref.injEq, exists_eq_left', mk_I, mk_L, mk_wI, mk_wL, rf_s, rf_n, true_and, and_true, and_self, or_true, true_or, or_false, false_or, not_true_eq_false, not_false_eq_true, Option.toList_some, Option.toList_none, List.cons_append, List.nil_append, List.map_nil, List.map_cons, List.sum_nil, List.sum_cons, cat_i, cat_l, cat_r, cat_n, Nat.reduceLeDiff, Nat.reduceAdd, Nat.reduceEqDiff, Nat.zero_le, p_ent, p_u_ne, p_u_at, reduceIte, if_true, if_false, h3, h3b, e6, P_ce s68, P_ce s67, P_ce s71, P_ce s72, P_ce s66]
          · rw [if_neg (fun hh => c12 hh.2)] at hr
            rw [if_neg c12] at s71
            cases hr
            have w5' := w5 (by omega) nw.2
            replace s71 : P_m (d + 6) 71 [.ref 35, .ref 14] (p_mk Ls I L R X) (fun v h' => v = some (.int (nI (wdi (tC B T k) - 5))) ∧ h' = p_mk Ls I L R X) := s71
            have s66 := pl_66a (d := d + 5) (Ls := Ls) (L := L) (R := R) (X := X) (w := wdi (tC B T k)) hS2 (show D.length < 400 by omega) (by omega)
            refine ⟨emW J2 D.length 1 (wdi (tC B T k)), ⟨frS_tr f2 frS_em, rdS_em hS2 (by omega)⟩, ?_⟩
            show P_m _ _ _ _ (fun v h' => v = some (.int (nI 1)) ∧ _)
            have ew0 : nI 5 + nI (wdi (tC B T k) - 5) = nI (5 + (wdi (tC B T k) - 5)) := (Int32.ofNat_add _ _).symm
            have ew : nI 5 + nI (wdi (tC B T k) - 5) = nI (wdi (tC B T k)) := by rw [ew0, show 5 + (wdi (tC B T k) - 5) = wdi (tC B T k) by omega]
            have wb : wdi (tC B T k) - 5 ≤ 10 := by omega
            clear ew0
            clear hS2 hS1 hS H2 H1
            generalize emW J2 D.length 1 (wdi (tC B T k)) = J3 at *
            generalize wdi (tC B T k) - 5 = w' at *
            generalize wdi (tC B T k) = vv at *
            simp -implicitDefEqProofs (disch := first | omega | decide) only [P_m, ↓P_run_eq _ 65 _ (p_bk 65 0), bk_65_0, pb_65_0, ↓P_run_eq _ 65 _ (p_bk 65 4), bk_65_4, pb_65_4, ↓P_run_eq _ 65 _ (p_bk 65 6), bk_65_6, pb_65_6, ↓P_run_eq _ 65 _ (p_bk 65 8), bk_65_8, pb_65_8, ↓P_run_eq _ 65 _ (p_bk 65 9), bk_65_9, pb_65_9, ↓P_run_eq _ 65 _ (p_bk 65 10), bk_65_10, pb_65_10, pw_aload_n0, pw_aloadN_n0, pw_bipush, bl_91, pw_iv2, pw_zeq, pw_iload_n1, bl_8, pw_clt, pw_iconst, il_0, pw_ret1, pw_iv1, pw_istore_n2, ps_2, pe_2, po_i2, po_r2, po_n2, po_u2, pw_getI, pw_ldcS, pw_goto, pw_istore_n3, ps_3, pe_3, po_i3, po_r3, po_n3, po_u3, bl_50, pw_cge, pw_iload_n2, pw_sipush, sl_1000, pw_cgt, il_m1, pw_cne, pw_iload_n3, pw_nop, pw_dupi, pw_dupr, il_1, pw_iadd, pw_putI, pw_ceq, pw_getR, pw_iv3, pw_popi, pw_popr, pw_zne, il_5, kd_35, rf_35_0, rf_35_1, kd_36, rf_36_1, rf_36_2, rf_36_3, rf_36_4, rf_36_5, rf_36_7, rf_36_8, n_0, n_1, n_5, n_8, n_50, n_91, n_1000, nn_lt, nn_nlt, nn_le, nn_nle, nn_ne, nn_sub, nn_mul, nI_add, nn_neg, nm_eq, mn_eq, mm_eq, mn_lt, nm_lt, mn_le, nm_le, nn_sub0, nn_of, implies_true, nn_c, nn_in, nn_div, nat_rem, Nat.reduceMul, Nat.reduceSub, Nat.reduceDiv, Nat.reduceMod, pf_at, pf_ne, mk_s, mk_1, Classical.not_not, b2i_T, b2i_F, false_imp_iff, true_imp_iff, false_and, and_false, p_sw, Int.reduceAdd, Int.zero_add, Option.some.injEq, Value.int.injEq, Value.long.injEq, Value.ref.injEq, exists_eq_left', mk_I, mk_L, mk_wI, mk_wL, rf_s, rf_n, true_and, and_true, and_self, or_true, true_or, or_false, false_or, not_true_eq_false, not_false_eq_true, Option.toList_some, Option.toList_none, List.cons_append, List.nil_append, List.map_nil, List.map_cons, List.sum_nil, List.sum_cons, cat_i, cat_l, cat_r, cat_n, Nat.reduceLeDiff, Nat.reduceAdd, Nat.reduceEqDiff, Nat.zero_le, p_ent, p_u_ne, p_u_at, reduceIte, if_true, if_false, h3, h3b, e6, ew, P_ce s68, P_ce s67, P_ce s71, P_ce s72, P_ce s66]
end CP
