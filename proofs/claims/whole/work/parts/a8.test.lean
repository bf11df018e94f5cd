section TT
variable {o : Bool} {B : Nat → Nat} {T Ls N : Nat} {L : Nat → Nat → Int64} {R : Nat → Nat → Option Nat} {X : List pKd}
def po (u : Bool) (cs : tCd) (op : Nat) : tCd := if u = true then cs ++ [(op, 0)] else []
def px (u : Bool) (i : Nat) : Int32 := if u = true then nI i else mI 1
def A2 (o : Bool) (C V : Nat → Nat) (a : Bool) (g2 : tDB) (cs2 : tCd) (c2 d : Nat) (r : Nat × Nat × tDB × tCd) : tRB := if a = true then RB o C V 2 false d r.1 r.2.1 c2 (andD g2 r.2.2.1) (cs2 ++ ((3, c2 + cs2.length + 1 + r.2.2.2.length) :: r.2.2.2)) else RB o C V 2 false d r.1 r.2.1 c2 r.2.2.1 r.2.2.2
def A3 (o : Bool) (C V : Nat → Nat) (u : Bool) (g3 : tDB) (cs3 : tCd) (c0 d : Nat) (r : Nat × Nat × tDB × tCd) : tRB := if u = true then RB o C V 3 false d r.1 r.2.1 c0 (orD g3 r.2.2.1) (cs3 ++ ((4, c0 + cs3.length + 1 + r.2.2.2.length) :: r.2.2.2)) else RB o C V 3 false d r.1 r.2.1 c0 r.2.2.1 r.2.2.2
theorem rdS_land {k l op v w : Nat} {P S : tCd} {I : Nat → Nat → Int32} (h : rdS B T I k l (P ++ (op, v) :: S)) : rdS B T (p_u I 43 P.length (nI w)) k l (P ++ (op, w) :: S) := by
  obtain ⟨h1, h2, h3, h4, h5, h6⟩ := h
  have el : (P ++ (op, w) :: S).length = (P ++ (op, v) :: S).length := by rw [List.length_append, List.length_append, List.length_cons, List.length_cons]
  refine ⟨⟨by rw [p_u_ne (by omega)]; exact h1.1, by rw [p_u_ne (by omega)]; exact h1.2⟩, by rw [p_u_ne (by omega)]; exact h2, h3, by rw [p_u_ne (by omega), el]; exact h4, by rw [el]; exact h5, ?_⟩
  rw [hold_app, hold_cons] at h6 ⊢
  obtain ⟨a1, ⟨a2, a3⟩, a4⟩ := h6
  refine ⟨fun j q hj => ?_, ⟨?_, ?_⟩, fun j q hj => ?_⟩
  · have hl : j < P.length := (List.getElem?_eq_some_iff.mp hj).1
    rw [p_u_ne (by omega), p_u_at, if_neg (by omega)]
    exact a1 j q hj
  · rw [p_u_ne (by omega)]; exact a2
  · rw [p_u_at, if_pos (by omega)]
  · rw [p_u_ne (by omega), p_u_at, if_neg (by omega)]
    exact a4 j q hj
theorem frS_land {I : Nat → Nat → Int32} {j : Nat} {v : Int32} : frS I (p_u I 43 j v) := ⟨fun a _ _ _ a4 => p_u_ne a4, fun k _ _ _ => by rw [p_u_ne (by omega)], fun k _ => by rw [p_u_ne (by omega)]⟩
theorem po_len {u : Bool} {cs : tCd} {op : Nat} : (po u cs op).length = if u = true then cs.length + 1 else 0 := by
  unfold po
  split
  · rw [List.length_append]; rfl
  · rfl
theorem lp_60 {k0 x d : Nat} {D0 : tCd} {I : Nat → Nat → Int32} {r : Except Nat (Nat × Nat × tDB × tCd)} (hN : ∀ k, N ≤ k → tC B T k = 0) (h4 : N ≤ 400) (d8 : d ≤ 8) (H : rdB o B T I R) (hP : ∀ k, k0 ≤ k → k ≤ N → okPlain o B T Ls L R X k) : ∀ M k, N - k ≤ M → k0 ≤ k → k ≤ N → ∀ u g3 cs3 a g2 cs2 g l n J, 2 * n ≤ k → frS I J → rdS B T J k l (D0 ++ (po u cs3 4 ++ po a cs2 3)) → (bnd (RB o (tC B T) (tV B T) 0 false d k l (D0 ++ (po u cs3 4 ++ po a cs2 3)).length g []) fun r => bnd (A2 o (tC B T) (tV B T) a g2 cs2 (D0.length + (po u cs3 4).length) d r) fun r => A3 o (tC B T) (tV B T) u g3 cs3 D0.length d r) = some r → P_run (x + 5 * (8 - d) + 13 + 1) 60 (p_bk 60 1) 0 0 [.ref 35, .int (nI d), .int (px a (D0.length + (po u cs3 4).length + cs2.length)), .int (px u (D0.length + cs3.length)), .int (nI n)] [] (p_mk Ls J L R X) (fun v h' => v = some (.int (nI (ocV r))) ∧ ∃ J', (frS I J' ∧ ocS B T J' D0 r) ∧ h' = p_mk Ls J' L R X) := by
  intro M
  induction M with
  | zero =>
    intro k hM hk0 hkN u g3 cs3 a g2 cs2 g l n J hn fJ hS hr
    obtain ⟨q, hq⟩ := RB_t (o := o) (V := tV B T) (md := 0) (d := d) (l := l) (c := (D0 ++ (po u cs3 4 ++ po a cs2 3)).length) (p := false) (g := g) (cs := []) hN h4 hkN (by omega)
    obtain ⟨J1, ⟨f1, o1⟩, s61⟩ := hP k hk0 hkN x d l _ g [] _ J q d8 (rdB_fr H fJ) hS rfl hq
    rw [hq] at hr
    match q, hq, o1, s61, hr with
    | .error e, hq, o1, s61, hr =>
      cases hr
      show P_run _ _ _ _ _ _ _ _ (fun v h' => v = some (.int (nI 0)) ∧ _)
      replace s61 : P_m (x + 5 * (8 - d) + 13) 61 [.ref 35, .int (nI d)] (p_mk Ls J L R X) (fun v h' => v = some (.int (nI 0)) ∧ h' = p_mk Ls J1 L R X) := s61
      clear hS
      generalize px a (D0.length + (po u cs3 4).length + cs2.length) = A at *
      generalize px u (D0.length + cs3.length) = U at *
      rw [P_run_eq, bk_60_1, pb_60_1]; simp -implicitDefEqProofs (disch := first | omega | decide) only [P_m, pw_iload_4, pw_sipush, sl_400, pw_cge, pw_aload_n0, pw_aloadN_n0, pw_iload_n1, pw_iv2, pw_zne, pw_iconst, il_0, pw_ret1, kd_35, rf_35_0, rf_35_1, n_0, n_1, n_400, nn_lt, nn_nlt, nn_le, nn_nle, nn_ne, nn_sub, nn_mul, nI_add, nn_neg, nm_eq, mn_eq, mm_eq, mn_lt, nm_lt, mn_le, nm_le, nn_sub0, nn_of, implies_true, nn_c, nn_in, nn_div, nat_rem, Nat.reduceMul, Nat.reduceSub, Nat.reduceDiv, Nat.reduceMod, pf_at, pf_ne, mk_s, mk_1, Classical.not_not, b2i_T, b2i_F, false_imp_iff, true_imp_iff, false_and, and_false, p_sw, Int.reduceAdd, Int.zero_add, Option.some.injEq, Value.int.injEq, Value.long.injEq, Value.ref.injEq, exists_eq_left', mk_I, mk_L, mk_wI, mk_wL, rf_s, rf_n, true_and, and_true, and_self, or_true, true_or, or_false, false_or, not_true_eq_false, not_false_eq_true, Option.toList_some, Option.toList_none, List.cons_append, List.nil_append, List.map_nil, List.map_cons, List.sum_nil, List.sum_cons, cat_i, cat_l, cat_r, cat_n, Nat.reduceLeDiff, Nat.reduceAdd, Nat.reduceEqDiff, Nat.zero_le, p_ent, p_u_ne, p_u_at, reduceIte, if_true, if_false, P_ce s61]
      exact ⟨J1, ⟨frS_tr fJ f1, o1⟩, rfl⟩
    | .ok q, hq, o1, s61, hr =>
      have pr := RB_pr hN hq hkN
      have := pr.2.1 rfl
      omega
  | succ M ih =>
    intro k hM hk0 hkN u g3 cs3 a g2 cs2 g l n J hn fJ hS hr
    obtain ⟨q, hq⟩ := RB_t (o := o) (V := tV B T) (md := 0) (d := d) (l := l) (c := (D0 ++ (po u cs3 4 ++ po a cs2 3)).length) (p := false) (g := g) (cs := []) hN h4 hkN (by omega)
    obtain ⟨J1, ⟨f1, o1⟩, s61⟩ := hP k hk0 hkN x d l _ g [] _ J q d8 (rdB_fr H fJ) hS rfl hq
    rw [hq] at hr
    match q, hq, o1, s61, hr with
    | .error e, hq, o1, s61, hr =>
      cases hr
      show P_run _ _ _ _ _ _ _ _ (fun v h' => v = some (.int (nI 0)) ∧ _)
      replace s61 : P_m (x + 5 * (8 - d) + 13) 61 [.ref 35, .int (nI d)] (p_mk Ls J L R X) (fun v h' => v = some (.int (nI 0)) ∧ h' = p_mk Ls J1 L R X) := s61
      clear hS ih
      generalize px a (D0.length + (po u cs3 4).length + cs2.length) = A at *
      generalize px u (D0.length + cs3.length) = U at *
      rw [P_run_eq, bk_60_1, pb_60_1]; simp -implicitDefEqProofs (disch := first | omega | decide) only [P_m, pw_iload_4, pw_sipush, sl_400, pw_cge, pw_aload_n0, pw_aloadN_n0, pw_iload_n1, pw_iv2, pw_zne, pw_iconst, il_0, pw_ret1, kd_35, rf_35_0, rf_35_1, n_0, n_1, n_400, nn_lt, nn_nlt, nn_le, nn_nle, nn_ne, nn_sub, nn_mul, nI_add, nn_neg, nm_eq, mn_eq, mm_eq, mn_lt, nm_lt, mn_le, nm_le, nn_sub0, nn_of, implies_true, nn_c, nn_in, nn_div, nat_rem, Nat.reduceMul, Nat.reduceSub, Nat.reduceDiv, Nat.reduceMod, pf_at, pf_ne, mk_s, mk_1, Classical.not_not, b2i_T, b2i_F, false_imp_iff, true_imp_iff, false_and, and_false, p_sw, Int.reduceAdd, Int.zero_add, Option.some.injEq, Value.int.injEq, Value.long.injEq, Value.ref.injEq, exists_eq_left', mk_I, mk_L, mk_wI, mk_wL, rf_s, rf_n, true_and, and_true, and_self, or_true, true_or, or_false, false_or, not_true_eq_false, not_false_eq_true, Option.toList_some, Option.toList_none, List.cons_append, List.nil_append, List.map_nil, List.map_cons, List.sum_nil, List.sum_cons, cat_i, cat_l, cat_r, cat_n, Nat.reduceLeDiff, Nat.reduceAdd, Nat.reduceEqDiff, Nat.zero_le, p_ent, p_u_ne, p_u_at, reduceIte, if_true, if_false, P_ce s61]
      exact ⟨J1, ⟨frS_tr fJ f1, o1⟩, rfl⟩
    | .ok q, hq, o1, s61, hr =>
      have o1 : rdS B T J1 q.1 q.2.1 (D0 ++ (po u cs3 4 ++ po a cs2 3) ++ q.2.2.2) := o1
      replace s61 : P_m (x + 5 * (8 - d) + 13) 61 [.ref 35, .int (nI d)] (p_mk Ls J L R X) (fun v h' => v = some (.int (nI 1)) ∧ h' = p_mk Ls J1 L R X) := s61
      obtain ⟨q1, q2, -⟩ := RB_pr hN hq hkN
      obtain ⟨q3, q4⟩ := q2 rfl
      rw [bnd_ok] at hr
      have n400 : n < 400 := by omega
      -- behind the landing of "and"
      have tail : ∀ (J2 : Nat → Nat → Int32) (g2' : tDB) (cs2' : tCd) (A : Int32), frS I J2 → rdS B T J2 q.1 q.2.1 (D0 ++ (po u cs3 4 ++ cs2')) → bnd (RB o (tC B T) (tV B T) 2 false d q.1 q.2.1 (D0.length + (po u cs3 4).length) g2' cs2') (fun r => A3 o (tC B T) (tV B T) u g3 cs3 D0.length d r) = some r → ∀ J1, P_m (x + 5 * (8 - d) + 13) 78 [.ref 36, .int A] (p_mk Ls J1 L R X) (fun v h' => v = none ∧ h' = p_mk Ls J2 L R X) → P_run (x + 5 * (8 - d) + 13 + 1) 60 (p_bk 60 2) 0 0 [.ref 35, .int (nI d), .int A, .int (px u (D0.length + cs3.length)), .int (nI n)] [] (p_mk Ls J1 L R X) (fun v h' => v = some (.int (nI (ocV r))) ∧ ∃ J', (frS I J' ∧ ocS B T J' D0 r) ∧ h' = p_mk Ls J' L R X) := by
        intro J2 g2' cs2' A fJ2 hS2 hr2 J1 s78
        have H2 := rdB_fr H fJ2
        have s70 := pl_70 (d := x + 5 * (8 - d) + 7) (Ls := Ls) (L := L) (X := X) (s := 7) H2.1 H2.2.1 hS2.1 (by omega) pln_w.2.1
        replace s70 : P_m (x + 5 * (8 - d) + 13) 70 [.ref 35, .ref 19] (p_mk Ls J2 L R X) (fun v h' => v = some (.int (nI (bN (decide (tC B T q.1 = 6))))) ∧ h' = p_mk Ls (if tC B T q.1 = 6 then stp B T J2 (q.1 + 1) else J2) L R X) := s70
        have Dl := hS2.2.2.2.2.1
        rw [RB_2 hN h4] at hr2
        by_cases c6 : tC B T q.1 = 6
        · have qN := kN_of hN (show ¬ tC B T q.1 = 0 by omega)
          rw [if_pos c6, bnd_as] at hr2
          rw [decide_eq_true c6, bN_t, if_pos c6] at s70
          have hS3 := rdS_stp hS2
          have s77 := pl_77 (d := x + 5 * (8 - d) + 13) (Ls := Ls) (L := L) (R := R) (X := X) (o := 3) (v := 0) (n := (D0 ++ (po u cs3 4 ++ cs2')).length) (by omega) hS3.2.2.2.1
          have hS4 := rdS_em (op := 3) (v := 0) hS3 (by omega)
          have ex : D0 ++ (po u cs3 4 ++ cs2') ++ [(3, 0)] = D0 ++ (po u cs3 4 ++ po true cs2' 3) := by unfold po; simp only [if_true, List.append_assoc]
          have ex2 : (D0 ++ (po u cs3 4 ++ cs2')).length = D0.length + (po u cs3 4).length + cs2'.length := by rw [List.length_append, List.length_append]; omega
          have ex3 : (D0 ++ (po u cs3 4 ++ po true cs2' 3)).length = D0.length + (po u cs3 4).length + cs2'.length + 1 := by rw [← ex, List.length_append, ex2]; rfl
          rw [ex] at hS4
          have nx := ih (q.1 + 1) (by omega) (by omega) (by omega) u g3 cs3 true g2' cs2' g2' q.2.1 (n + 1) _ (by omega) (frS_tr fJ2 (frS_tr frS_stp frS_em)) hS4 (by
            unfold A2
            simp only [if_true]
            rw [ex3]
            exact hr2)
          have ep : px true (D0.length + (po u cs3 4).length + cs2'.length) = nI (D0 ++ (po u cs3 4 ++ cs2')).length := by rw [ex2]; rfl
          rw [ep] at nx
          clear ih hr hr2 hS4 hS3 hS2 ep ex ex2 ex3 o1 hS
          generalize emW (stp B T J2 (q.1 + 1)) (D0 ++ (po u cs3 4 ++ cs2')).length 3 0 = J4 at *
          generalize (D0 ++ (po u cs3 4 ++ cs2')).length = dl at *
          generalize stp B T J2 (q.1 + 1) = J3 at *
          generalize px u (D0.length + cs3.length) = U at *
          generalize nI (ocV r) = VR at *
          rw [P_run_eq, bk_60_2, pb_60_2]; simp -implicitDefEqProofs (disch := first | omega | decide) only [P_m, ↓P_run_eq _ 60 _ (p_bk 60 5), bk_60_5, pb_60_5, pw_aload_n0, pw_aloadN_n0, pw_getR, pw_iload_n2, pw_iv2, pw_iconst, il_m1, pw_istore_n2, ps_2, pe_2, po_i2, po_r2, po_n2, po_u2, pw_ldcS, pw_zeq, il_3, il_0, pw_iv3, pw_goto, pw_iinc_4, il_1, po_i4, po_r4, po_n4, po_u4, kd_35, rf_35_0, rf_35_1, kd_36, rf_36_1, rf_36_2, rf_36_3, rf_36_4, rf_36_5, rf_36_7, rf_36_8, n_0, n_1, n_3, nn_lt, nn_nlt, nn_le, nn_nle, nn_ne, nn_sub, nn_mul, nI_add, nn_neg, nm_eq, mn_eq, mm_eq, mn_lt, nm_lt, mn_le, nm_le, nn_sub0, nn_of, implies_true, nn_c, nn_in, nn_div, nat_rem, Nat.reduceMul, Nat.reduceSub, Nat.reduceDiv, Nat.reduceMod, pf_at, pf_ne, mk_s, mk_1, Classical.not_not, b2i_T, b2i_F, false_imp_iff, true_imp_iff, false_and, and_false, p_sw, Int.reduceAdd, Int.zero_add, Option.some.injEq, Value.int.injEq, Value.long.injEq, Value.ref.injEq, exists_eq_left', mk_I, mk_L, mk_wI, mk_wL, rf_s, rf_n, true_and, and_true, and_self, or_true, true_or, or_false, false_or, not_true_eq_false, not_false_eq_true, Option.toList_some, Option.toList_none, List.cons_append, List.nil_append, List.map_nil, List.map_cons, List.sum_nil, List.sum_cons, cat_i, cat_l, cat_r, cat_n, Nat.reduceLeDiff, Nat.reduceAdd, Nat.reduceEqDiff, Nat.zero_le, p_ent, p_u_ne, p_u_at, reduceIte, if_true, if_false, P_ce s78, P_ce s70, P_ce s77]
          exact nx
        · rw [if_neg c6, bnd_ok] at hr2
          rw [decide_eq_false c6, bN_f, if_neg c6] at s70
          -- behind the landing of "or"
          have tail2 : ∀ (J3 : Nat → Nat → Int32) (g3' : tDB) (cs3' : tCd) (U : Int32), frS I J3 → rdS B T J3 q.1 q.2.1 (D0 ++ cs3') → RB o (tC B T) (tV B T) 3 false d q.1 q.2.1 D0.length g3' cs3' = some r → P_m (x + 5 * (8 - d) + 13) 78 [.ref 36, .int U] (p_mk Ls J2 L R X) (fun v h' => v = none ∧ h' = p_mk Ls J3 L R X) → P_run (x + 5 * (8 - d) + 13 + 1) 60 (p_bk 60 3) 0 0 [.ref 35, .int (nI d), .int (mI 1), .int U, .int (nI n)] [] (p_mk Ls J2 L R X) (fun v h' => v = some (.int (nI (ocV r))) ∧ ∃ J', (frS I J' ∧ ocS B T J' D0 r) ∧ h' = p_mk Ls J' L R X) := by
            intro J3 g3' cs3' U fJ3 hS3 hr3 s78b
            have H3 := rdB_fr H fJ3
            have s70b := pl_70 (d := x + 5 * (8 - d) + 7) (Ls := Ls) (L := L) (X := X) (s := 8) H3.1 H3.2.1 hS3.1 (by omega) pln_w.2.2.1
            replace s70b : P_m (x + 5 * (8 - d) + 13) 70 [.ref 35, .ref 20] (p_mk Ls J3 L R X) (fun v h' => v = some (.int (nI (bN (decide (tC B T q.1 = 5))))) ∧ h' = p_mk Ls (if tC B T q.1 = 5 then stp B T J3 (q.1 + 1) else J3) L R X) := s70b
            have Dl3 := hS3.2.2.2.2.1
            rw [RB_3 hN h4] at hr3
            by_cases c5 : tC B T q.1 = 5
            · have qN := kN_of hN (show ¬ tC B T q.1 = 0 by omega)
              rw [if_pos c5] at hr3
              rw [decide_eq_true c5, bN_t, if_pos c5] at s70b
              have hS4 := rdS_stp hS3
              have s77 := pl_77 (d := x + 5 * (8 - d) + 13) (Ls := Ls) (L := L) (R := R) (X := X) (o := 4) (v := 0) (n := (D0 ++ cs3').length) (by omega) hS4.2.2.2.1
              have hS5 := rdS_em (op := 4) (v := 0) hS4 (by omega)
              have ex : D0 ++ cs3' ++ [(4, 0)] = D0 ++ (po true cs3' 4 ++ po false [] 3) := by unfold po; simp only [if_true, if_false, List.append_assoc, List.append_nil, Bool.false_eq_true]
              have ex2 : (D0 ++ cs3').length = D0.length + cs3'.length := List.length_append
              have ex3 : (D0 ++ (po true cs3' 4 ++ po false [] 3)).length = D0.length + cs3'.length + 1 := by rw [← ex, List.length_append, ex2]; rfl
              have ex4 : (po true cs3' 4).length = cs3'.length + 1 := by rw [po_len, if_pos rfl]
              rw [ex] at hS5
              have nx := ih (q.1 + 1) (by omega) (by omega) (by omega) true g3' cs3' false g3' [] g3' q.2.1 (n + 1) _ (by omega) (frS_tr fJ3 (frS_tr frS_stp frS_em)) hS5 (by
                unfold A2 A3
                simp only [if_true, Bool.false_eq_true, if_false]
                rw [ex3, ex4]
                exact hr3)
              have ep : px true (D0.length + cs3'.length) = nI (D0 ++ cs3').length := by rw [ex2]; rfl
              have ep2 : px false (D0.length + (po true cs3' 4).length + ([] : tCd).length) = mI 1 := rfl
              rw [ep, ep2] at nx
              clear ih hr hr2 hr3 hS5 hS4 hS3 hS2 ep ep2 ex ex2 ex3 ex4 o1 hS
              generalize emW (stp B T J3 (q.1 + 1)) (D0 ++ cs3').length 4 0 = J5 at *
              generalize (D0 ++ cs3').length = dl at *
              generalize stp B T J3 (q.1 + 1) = J4 at *
              generalize nI (ocV r) = VR at *
              rw [P_run_eq, bk_60_3, pb_60_3]; simp -implicitDefEqProofs (disch := first | omega | decide) only [P_m, ↓P_run_eq _ 60 _ (p_bk 60 4), bk_60_4, pb_60_4, ↓P_run_eq _ 60 _ (p_bk 60 5), bk_60_5, pb_60_5, pw_aload_n0, pw_aloadN_n0, pw_getR, pw_iload_n3, pw_iv2, pw_ldcS, pw_zne, pw_iconst, il_1, pw_ret1, il_4, il_0, pw_iv3, pw_istore_n3, ps_3, pe_3, po_i3, po_r3, po_n3, po_u3, pw_nop, pw_iinc_4, po_i4, po_r4, po_n4, po_u4, pw_goto, kd_35, rf_35_0, rf_35_1, kd_36, rf_36_1, rf_36_2, rf_36_3, rf_36_4, rf_36_5, rf_36_7, rf_36_8, n_0, n_1, n_4, nn_lt, nn_nlt, nn_le, nn_nle, nn_ne, nn_sub, nn_mul, nI_add, nn_neg, nm_eq, mn_eq, mm_eq, mn_lt, nm_lt, mn_le, nm_le, nn_sub0, nn_of, implies_true, nn_c, nn_in, nn_div, nat_rem, Nat.reduceMul, Nat.reduceSub, Nat.reduceDiv, Nat.reduceMod, pf_at, pf_ne, mk_s, mk_1, Classical.not_not, b2i_T, b2i_F, false_imp_iff, true_imp_iff, false_and, and_false, p_sw, Int.reduceAdd, Int.zero_add, Option.some.injEq, Value.int.injEq, Value.long.injEq, Value.ref.injEq, exists_eq_left', mk_I, mk_L, mk_wI, mk_wL, rf_s, rf_n, true_and, and_true, and_self, or_true, true_or, or_false, false_or, not_true_eq_false, not_false_eq_true, Option.toList_some, Option.toList_none, List.cons_append, List.nil_append, List.map_nil, List.map_cons, List.sum_nil, List.sum_cons, cat_i, cat_l, cat_r, cat_n, Nat.reduceLeDiff, Nat.reduceAdd, Nat.reduceEqDiff, Nat.zero_le, p_ent, p_u_ne, p_u_at, reduceIte, if_true, if_false, P_ce s78b, P_ce s70b, P_ce s77]
              exact nx
            · rw [if_neg c5] at hr3
              rw [decide_eq_false c5, bN_f, if_neg c5] at s70b
              cases hr3
              show P_run _ _ _ _ _ _ _ _ (fun v h' => v = some (.int (nI 1)) ∧ _)
              clear ih hr hr2 hS2 o1 hS
              rw [P_run_eq, bk_60_3, pb_60_3]; simp -implicitDefEqProofs (disch := first | omega | decide) only [P_m, pw_aload_n0, pw_aloadN_n0, pw_getR, pw_iload_n3, pw_iv2, pw_ldcS, pw_zne, pw_iconst, il_1, pw_ret1, kd_35, rf_35_0, rf_35_1, kd_36, rf_36_1, rf_36_2, rf_36_3, rf_36_4, rf_36_5, rf_36_7, rf_36_8, n_0, n_1, nn_lt, nn_nlt, nn_le, nn_nle, nn_ne, nn_sub, nn_mul, nI_add, nn_neg, nm_eq, mn_eq, mm_eq, mn_lt, nm_lt, mn_le, nm_le, nn_sub0, nn_of, implies_true, nn_c, nn_in, nn_div, nat_rem, Nat.reduceMul, Nat.reduceSub, Nat.reduceDiv, Nat.reduceMod, pf_at, pf_ne, mk_s, mk_1, Classical.not_not, b2i_T, b2i_F, false_imp_iff, true_imp_iff, false_and, and_false, p_sw, Int.reduceAdd, Int.zero_add, Option.some.injEq, Value.int.injEq, Value.long.injEq, Value.ref.injEq, exists_eq_left', mk_I, mk_L, mk_wI, mk_wL, rf_s, rf_n, true_and, and_true, and_self, or_true, true_or, or_false, false_or, not_true_eq_false, not_false_eq_true, Option.toList_some, Option.toList_none, List.cons_append, List.nil_append, List.map_nil, List.map_cons, List.sum_nil, List.sum_cons, cat_i, cat_l, cat_r, cat_n, Nat.reduceLeDiff, Nat.reduceAdd, Nat.reduceEqDiff, Nat.zero_le, p_ent, p_u_ne, p_u_at, reduceIte, if_true, if_false, P_ce s78b, P_ce s70b]
              exact ⟨J3, ⟨fJ3, hS3⟩, rfl⟩
          unfold A3 at hr2
          have fin : P_run (x + 5 * (8 - d) + 13 + 1) 60 (p_bk 60 3) 0 0 [.ref 35, .int (nI d), .int (mI 1), .int (px u (D0.length + cs3.length)), .int (nI n)] [] (p_mk Ls J2 L R X) (fun v h' => v = some (.int (nI (ocV r))) ∧ ∃ J', (frS I J' ∧ ocS B T J' D0 r) ∧ h' = p_mk Ls J' L R X) := by
            cases u with
            | false =>
              rw [if_neg (by decide)] at hr2
              have ex : D0 ++ (po false cs3 4 ++ cs2') = D0 ++ cs2' := rfl
              rw [ex] at hS2
              exact tail2 J2 g2' cs2' (mI 1) fJ2 hS2 hr2 pl_78n
            | true =>
              rw [if_pos rfl] at hr2
              have ex : D0 ++ (po true cs3 4 ++ cs2') = (D0 ++ cs3) ++ (4, 0) :: cs2' := by unfold po; simp only [if_true, List.append_assoc, List.cons_append, List.nil_append]
              rw [ex] at hS2 Dl
              have e1 : (D0 ++ cs3).length = D0.length + cs3.length := List.length_append
              have e2 : ((D0 ++ cs3) ++ (4, 0) :: cs2').length = D0.length + cs3.length + 1 + cs2'.length := by rw [List.length_append, e1, List.length_cons]; omega
              have s78b := pl_78 (d := x + 5 * (8 - d) + 13) (Ls := Ls) (I := J2) (L := L) (R := R) (X := X) (n := ((D0 ++ cs3) ++ (4, 0) :: cs2').length) (x := D0.length + cs3.length) (by omega) (by omega) hS2.2.2.2.1
              have hS3 := rdS_land (w := D0.length + cs3.length + 1 + cs2'.length) hS2
              rw [e1] at hS3
              rw [e2] at s78b
              have ex5 : D0 ++ cs3 ++ (4, D0.length + cs3.length + 1 + cs2'.length) :: cs2' = D0 ++ (cs3 ++ (4, D0.length + cs3.length + 1 + cs2'.length) :: cs2') := by simp only [List.append_assoc]
              rw [ex5] at hS3
              exact tail2 _ _ _ (nI (D0.length + cs3.length)) (frS_tr fJ2 frS_land) hS3 hr2 s78b
          clear ih hr hr2 tail2 hS2 o1 hS
          generalize px u (D0.length + cs3.length) = U at *
          generalize nI (ocV r) = VR at *
          rw [P_run_eq, bk_60_2, pb_60_2]; simp -implicitDefEqProofs (disch := first | omega | decide) only [P_m, pw_aload_n0, pw_aloadN_n0, pw_getR, pw_iload_n2, pw_iv2, pw_iconst, il_m1, pw_istore_n2, ps_2, pe_2, po_i2, po_r2, po_n2, po_u2, pw_ldcS, pw_zeq, il_3, il_0, pw_iv3, pw_goto, kd_35, rf_35_0, rf_35_1, kd_36, rf_36_1, rf_36_2, rf_36_3, rf_36_4, rf_36_5, rf_36_7, rf_36_8, n_0, n_1, n_3, nn_lt, nn_nlt, nn_le, nn_nle, nn_ne, nn_sub, nn_mul, nI_add, nn_neg, nm_eq, mn_eq, mm_eq, mn_lt, nm_lt, mn_le, nm_le, nn_sub0, nn_of, implies_true, nn_c, nn_in, nn_div, nat_rem, Nat.reduceMul, Nat.reduceSub, Nat.reduceDiv, Nat.reduceMod, pf_at, pf_ne, mk_s, mk_1, Classical.not_not, b2i_T, b2i_F, false_imp_iff, true_imp_iff, false_and, and_false, p_sw, Int.reduceAdd, Int.zero_add, Option.some.injEq, Value.int.injEq, Value.long.injEq, Value.ref.injEq, exists_eq_left', mk_I, mk_L, mk_wI, mk_wL, rf_s, rf_n, true_and, and_true, and_self, or_true, true_or, or_false, false_or, not_true_eq_false, not_false_eq_true, Option.toList_some, Option.toList_none, List.cons_append, List.nil_append, List.map_nil, List.map_cons, List.sum_nil, List.sum_cons, cat_i, cat_l, cat_r, cat_n, Nat.reduceLeDiff, Nat.reduceAdd, Nat.reduceEqDiff, Nat.zero_le, p_ent, p_u_ne, p_u_at, reduceIte, if_true, if_false, P_ce s78, P_ce s70]
          exact fin
      unfold A2 at hr
      have st : P_run (x + 5 * (8 - d) + 13 + 1) 60 (p_bk 60 2) 0 0 [.ref 35, .int (nI d), .int (px a (D0.length + (po u cs3 4).length + cs2.length)), .int (px u (D0.length + cs3.length)), .int (nI n)] [] (p_mk Ls J1 L R X) (fun v h' => v = some (.int (nI (ocV r))) ∧ ∃ J', (frS I J' ∧ ocS B T J' D0 r) ∧ h' = p_mk Ls J' L R X) := by
        cases a with
        | false =>
          rw [if_neg (by decide)] at hr
          have ex : D0 ++ (po u cs3 4 ++ po false cs2 3) ++ q.2.2.2 = D0 ++ (po u cs3 4 ++ q.2.2.2) := by
            show D0 ++ (po u cs3 4 ++ []) ++ q.2.2.2 = _
            rw [List.append_nil, List.append_assoc]
          rw [ex] at o1
          exact tail J1 _ _ (mI 1) (frS_tr fJ f1) o1 hr J1 pl_78n
        | true =>
          rw [if_pos rfl] at hr
          have ex : D0 ++ (po u cs3 4 ++ po true cs2 3) ++ q.2.2.2 = (D0 ++ (po u cs3 4 ++ cs2)) ++ (3, 0) :: q.2.2.2 := by
            show D0 ++ (po u cs3 4 ++ (cs2 ++ [(3, 0)])) ++ q.2.2.2 = _
            simp only [List.append_assoc, List.cons_append, List.nil_append]
          rw [ex] at o1
          have e1 : (D0 ++ (po u cs3 4 ++ cs2)).length = D0.length + (po u cs3 4).length + cs2.length := by rw [List.length_append, List.length_append]; omega
          have e2 : ((D0 ++ (po u cs3 4 ++ cs2)) ++ (3, 0) :: q.2.2.2).length = D0.length + (po u cs3 4).length + cs2.length + 1 + q.2.2.2.length := by rw [List.length_append, e1, List.length_cons]; omega
          have Dl := o1.2.2.2.2.1
          have s78 := pl_78 (d := x + 5 * (8 - d) + 13) (Ls := Ls) (I := J1) (L := L) (R := R) (X := X) (n := ((D0 ++ (po u cs3 4 ++ cs2)) ++ (3, 0) :: q.2.2.2).length) (x := D0.length + (po u cs3 4).length + cs2.length) (by omega) (by omega) o1.2.2.2.1
          have hS2 := rdS_land (w := D0.length + (po u cs3 4).length + cs2.length + 1 + q.2.2.2.length) o1
          rw [e1] at hS2
          rw [e2] at s78
          have ex5 : D0 ++ (po u cs3 4 ++ cs2) ++ (3, D0.length + (po u cs3 4).length + cs2.length + 1 + q.2.2.2.length) :: q.2.2.2 = D0 ++ (po u cs3 4 ++ (cs2 ++ (3, D0.length + (po u cs3 4).length + cs2.length + 1 + q.2.2.2.length) :: q.2.2.2)) := by simp only [List.append_assoc]
          rw [ex5] at hS2
          exact tail _ _ _ (nI (D0.length + (po u cs3 4).length + cs2.length)) (frS_tr fJ (frS_tr f1 frS_land)) hS2 hr J1 s78
      clear ih hr tail hS o1
      generalize px a (D0.length + (po u cs3 4).length + cs2.length) = A at *
      generalize px u (D0.length + cs3.length) = U at *
      generalize nI (ocV r) = VR at *
      rw [P_run_eq, bk_60_1, pb_60_1]; simp -implicitDefEqProofs (disch := first | omega | decide) only [P_m, pw_iload_4, pw_sipush, sl_400, pw_cge, pw_aload_n0, pw_aloadN_n0, pw_iload_n1, pw_iv2, pw_zne, pw_iconst, il_0, pw_ret1, kd_35, rf_35_0, rf_35_1, n_0, n_1, n_400, nn_lt, nn_nlt, nn_le, nn_nle, nn_ne, nn_sub, nn_mul, nI_add, nn_neg, nm_eq, mn_eq, mm_eq, mn_lt, nm_lt, mn_le, nm_le, nn_sub0, nn_of, implies_true, nn_c, nn_in, nn_div, nat_rem, Nat.reduceMul, Nat.reduceSub, Nat.reduceDiv, Nat.reduceMod, pf_at, pf_ne, mk_s, mk_1, Classical.not_not, b2i_T, b2i_F, false_imp_iff, true_imp_iff, false_and, and_false, p_sw, Int.reduceAdd, Int.zero_add, Option.some.injEq, Value.int.injEq, Value.long.injEq, Value.ref.injEq, exists_eq_left', mk_I, mk_L, mk_wI, mk_wL, rf_s, rf_n, true_and, and_true, and_self, or_true, true_or, or_false, false_or, not_true_eq_false, not_false_eq_true, Option.toList_some, Option.toList_none, List.cons_append, List.nil_append, List.map_nil, List.map_cons, List.sum_nil, List.sum_cons, cat_i, cat_l, cat_r, cat_n, Nat.reduceLeDiff, Nat.reduceAdd, Nat.reduceEqDiff, Nat.zero_le, p_ent, p_u_ne, p_u_at, reduceIte, if_true, if_false, P_ce s61]
      exact st
theorem test_s {k0 : Nat} (hN : ∀ k, N ≤ k → tC B T k = 0) (h4 : N ≤ 400) (hk : k0 ≤ N) (hP : ∀ k, k0 ≤ k → k ≤ N → okPlain o B T Ls L R X k) : okTest o B T Ls L R X k0 := by
  intro x d l c p g cs D I r d8 H hS hc hR
  rw [RB_1 hN h4 hk] at hR
  have ex : D = D ++ (po false [] 4 ++ po false [] 3) := by unfold po; simp
  have hS' := hS
  rw [ex] at hS'
  have st := lp_60 (x := x) (D0 := D) (I := I) (r := r) hN h4 d8 H hP (N - k0) k0 (Nat.le_refl _) (Nat.le_refl _) hk false g [] false g [] g l 0 I (by omega) frS_rf hS' (by
    rw [← ex]
    unfold A2 A3
    simp only [Bool.false_eq_true, if_false]
    rw [hc] at hR
    exact hR)
  have e1 : px false (D.length + (po false [] 4).length + ([] : tCd).length) = mI 1 := rfl
  have e2 : px false (D.length + ([] : tCd).length) = mI 1 := rfl
  rw [e1, e2] at st
  have all : P_m (x + 5 * (8 - d) + 14) 60 [.ref 35, .int (nI d)] (p_mk Ls I L R X) (fun v h' => v = some (.int (nI (ocV r))) ∧ ∃ J', (frS I J' ∧ ocS B T J' D r) ∧ h' = p_mk Ls J' L R X) := by
    clear hS hS' hR ex
    generalize nI (ocV r) = VV at *
    simp -implicitDefEqProofs (disch := first | omega | decide) only [P_m, ↓P_run_eq _ 60 _ (p_bk 60 0), bk_60_0, pb_60_0, pw_iconst, il_m1, pw_istore_n2, ps_2, pe_2, po_i2, po_r2, po_n2, po_u2, pw_istore_n3, ps_3, pe_3, po_i3, po_r3, po_n3, po_u3, il_0, pw_istore, ps_4, pe_4, po_i4, po_r4, po_n4, po_u4, pw_nop, kd_35, rf_35_0, rf_35_1, n_0, n_1, nn_lt, nn_nlt, nn_le, nn_nle, nn_ne, nn_sub, nn_mul, nI_add, nn_neg, nm_eq, mn_eq, mm_eq, mn_lt, nm_lt, mn_le, nm_le, nn_sub0, nn_of, implies_true, nn_c, nn_in, nn_div, nat_rem, Nat.reduceMul, Nat.reduceSub, Nat.reduceDiv, Nat.reduceMod, pf_at, pf_ne, mk_s, mk_1, Classical.not_not, b2i_T, b2i_F, false_imp_iff, true_imp_iff, false_and, and_false, p_sw, Int.reduceAdd, Int.zero_add, Option.some.injEq, Value.int.injEq, Value.long.injEq, Value.ref.injEq, exists_eq_left', mk_I, mk_L, mk_wI, mk_wL, rf_s, rf_n, true_and, and_true, and_self, or_true, true_or, or_false, false_or, not_true_eq_false, not_false_eq_true, Option.toList_some, Option.toList_none, List.cons_append, List.nil_append, List.map_nil, List.map_cons, List.sum_nil, List.sum_cons, cat_i, cat_l, cat_r, cat_n, Nat.reduceLeDiff, Nat.reduceAdd, Nat.reduceEqDiff, Nat.zero_le, p_ent, p_u_ne, p_u_at, reduceIte, if_true, if_false]
    exact st
  obtain ⟨v, g', ⟨rfl, J', f1, rfl⟩, s⟩ := P_mex all
  exact ⟨J', f1, s⟩
/-- the class reads every test as the language says -/
theorem tests_c (hN : ∀ k, N ≤ k → tC B T k = 0) (h4 : N ≤ 400) : ∀ k, k ≤ N → okTest o B T Ls L R X k := by
  have main : ∀ M k, k ≤ N → N - k ≤ M → okTest o B T Ls L R X k := by
    intro M
    induction M with
    | zero =>
      intro k hk hM
      refine test_s hN h4 hk (fun k' h1 h2 => plain_s hN h4 h2 (fun k'' h3 h5 => absurd h5 (by omega)))
    | succ M ih =>
      intro k hk hM
      refine test_s hN h4 hk (fun k' h1 h2 => plain_s hN h4 h2 (fun k'' h3 h5 => ih (k'' + 1) (by omega) (by omega)))
  exact fun k hk => main (N - k) k hk (Nat.le_refl _)
end TT
