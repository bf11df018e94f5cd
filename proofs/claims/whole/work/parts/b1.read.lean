/-! THE CLASS READS A TEXT -/
def frK (I J : Nat → Nat → Int32) : Prop := (∀ a, a < 35 ∨ 43 < a → J a = I a) ∧ ∀ k, ¬ k = 4 → ¬ k = 5 → ¬ k = 6 → J 35 k = I 35 k
theorem frK_rf {I : Nat → Nat → Int32} : frK I I := ⟨fun _ _ => rfl, fun _ _ _ _ => rfl⟩
theorem frK_tr {I J H : Nat → Nat → Int32} (h1 : frK I J) (h2 : frK J H) : frK I H := ⟨fun a ha => (h2.1 a ha).trans (h1.1 a ha), fun k k1 k2 k3 => (h2.2 k k1 k2 k3).trans (h1.2 k k1 k2 k3)⟩
theorem frK_S {I J : Nat → Nat → Int32} (h : frS I J) : frK I J := ⟨fun a ha => h.1 a (by omega) (by omega) (by omega) (by omega), h.2.1⟩
theorem acW_ne {I : Nat → Nat → Int32} {m kd t fr mi en a : Nat} (h : a < 36 ∨ 41 < a) : acW I m kd t fr mi en a = I a := by
  unfold acW
  rw [p_u_ne (by omega), p_u_ne (by omega), p_u_ne (by omega), p_u_ne (by omega), p_u_ne (by omega), p_u_ne (by omega)]
theorem frK_ac {I : Nat → Nat → Int32} {m kd t fr mi en : Nat} : frK I (acW I m kd t fr mi en) := ⟨fun a ha => acW_ne (by omega), fun k _ _ _ => by rw [acW_ne (by omega)]⟩
section RD
variable {o : Bool} {B : Nat → Nat} {T Ls N : Nat} {L : Nat → Nat → Int64} {R : Nat → Nat → Option Nat} {X : List pKd}
theorem rdB_K {I J : Nat → Nat → Int32} (H : rdB o B T I R) (h : frK I J) : rdB o B T J R := ⟨invS_fr H.1 (fun a ha => h.1 a (by omega)), ⟨H.2.1.1, by rw [h.2 2 (by omega) (by omega) (by omega)]; exact H.2.1.2.1, H.2.1.2.2.1, fun k hk => by rw [h.1 34 (by omega)]; exact H.2.1.2.2.2 k hk⟩, by rw [h.2 3 (by omega) (by omega) (by omega)]; exact H.2.2⟩
theorem acW_36 {I : Nat → Nat → Int32} {m kd t fr mi en j : Nat} : acW I m kd t fr mi en 36 j = if j = 0 then nI (m + 1) else I 36 j := by
  unfold acW
  rw [p_u_at]
  split
  · rfl
  · rw [p_u_ne (by omega), p_u_ne (by omega), p_u_ne (by omega), p_u_ne (by omega), p_u_ne (by omega)]
theorem rdS_ac {I : Nat → Nat → Int32} {m kd t fr mi en k l : Nat} {D : tCd} (h : rdS B T I k l D) : rdS B T (acW I m kd t fr mi en) k l D := by
  obtain ⟨h1, h2, h3, h4, h5, h6⟩ := h
  refine ⟨⟨by rw [acW_ne (by omega)]; exact h1.1, by rw [acW_ne (by omega)]; exact h1.2⟩, by rw [acW_ne (by omega)]; exact h2, h3, by rw [acW_36, if_neg (by omega)]; exact h4, h5, by rw [acW_ne (by omega), acW_ne (by omega)]; exact h6⟩
theorem clCode_ap : ∀ (a : List tCl) (c : tCl), clCode (a ++ [c]) = clCode a ++ (cl_s c ++ cl_b c)
  | [], c => by show cl_s c ++ (cl_b c ++ []) = [] ++ _; rw [List.append_nil, List.nil_append]
  | x :: a, c => by
    show cl_s x ++ (cl_b x ++ clCode (a ++ [c])) = (cl_s x ++ (cl_b x ++ clCode a)) ++ _
    rw [clCode_ap a c]
    simp only [List.append_assoc]
def txC (I : Nat → Nat → Int32) (CL : List tCl) : Prop := I 36 0 = nI CL.length ∧ I 36 6 = nI (clCode CL).length ∧ txA I 37 38 39 40 41 42 43 CL
theorem tx_ac {I I0 : Nat → Nat → Int32} {acc : List tCl} {c : tCl} {k l : Nat} (f : ∀ a, 37 ≤ a → a ≤ 41 → I a = I0 a) (h : txA I0 37 38 39 40 41 42 43 acc) (hS : rdS B T I k l (clCode acc ++ (cl_s c ++ cl_b c))) : txA (acJ I acc.length (clCode acc).length c) 37 38 39 40 41 42 43 (acc ++ [c]) := by
  have hb : clB (acc ++ [c]) acc.length = (clCode acc).length := by rw [clB_le acc [c] acc.length (Nat.le_refl _), clCode_len]
  refine ⟨fun j hj x hx => ?_, fun j q hq => ?_⟩
  · by_cases e : j < acc.length
    · have hx' : acc[j]? = some x := by rw [List.getElem?_append_left e] at hx; exact hx
      obtain ⟨a1, a2, a3, a4, a5⟩ := h.1 j e x hx'
      rw [clB_le acc [c] j (by omega)]
      unfold acJ acW
      refine ⟨?_, ?_, ?_, ?_, ?_⟩
      · rw [p_u_ne (by omega), p_u_ne (by omega), p_u_ne (by omega), p_u_ne (by omega), p_u_ne (by omega), p_u_at, if_neg (by omega), f 37 (by omega) (by omega)]; exact a1
      · rw [p_u_ne (by omega), p_u_ne (by omega), p_u_ne (by omega), p_u_ne (by omega), p_u_at, if_neg (by omega), p_u_ne (by omega), f 38 (by omega) (by omega)]; exact a2
      · rw [p_u_ne (by omega), p_u_ne (by omega), p_u_ne (by omega), p_u_at, if_neg (by omega), p_u_ne (by omega), p_u_ne (by omega), f 39 (by omega) (by omega)]; exact a3
      · rw [p_u_ne (by omega), p_u_ne (by omega), p_u_at, if_neg (by omega), p_u_ne (by omega), p_u_ne (by omega), p_u_ne (by omega), f 40 (by omega) (by omega)]; exact a4
      · rw [p_u_ne (by omega), p_u_at, if_neg (by omega), p_u_ne (by omega), p_u_ne (by omega), p_u_ne (by omega), p_u_ne (by omega), f 41 (by omega) (by omega)]; exact a5
    · have ej : j = acc.length := by rw [List.length_append] at hj; simp at hj; omega
      subst ej
      have ex : x = c := by
        rw [List.getElem?_append_right (Nat.le_refl _), Nat.sub_self] at hx
        cases hx; rfl
      subst ex
      rw [hb]
      unfold acJ acW
      refine ⟨?_, ?_, ?_, ?_, ?_⟩
      · rw [p_u_ne (by omega), p_u_ne (by omega), p_u_ne (by omega), p_u_ne (by omega), p_u_ne (by omega), p_u_at, if_pos rfl]
      · rw [p_u_ne (by omega), p_u_ne (by omega), p_u_ne (by omega), p_u_ne (by omega), p_u_at, if_pos rfl]
      · rw [p_u_ne (by omega), p_u_ne (by omega), p_u_ne (by omega), p_u_at, if_pos rfl]
      · rw [p_u_ne (by omega), p_u_ne (by omega), p_u_at, if_pos rfl]
      · rw [p_u_ne (by omega), p_u_at, if_pos rfl]
  · rw [clCode_ap] at hq
    have := hS.2.2.2.2.2 j q hq
    rw [Nat.zero_add] at this
    unfold acJ
    rw [acW_ne (by omega), acW_ne (by omega)]
    exact this
theorem sg4 : isSm 59 = false ∧ isDg 59 = false := by decide
def rdV (B : Nat → Nat) (T : Nat) : Except Nat (List tCl) → Int32
  | .ok _ => mI 1
  | .error e => nI (tS B T e)
def rdP (I J : Nat → Nat → Int32) : Except Nat (List tCl) → Prop
  | .ok CL => frK I J ∧ txC J CL
  | .error _ => frK I J
theorem lp_58 {x : Nat} {I : Nat → Nat → Int32} {r : Except Nat (List tCl)} (hT : tS B T N = T) (hJ : ∀ j, j < N → tS B T j < T) (hN : ∀ k, N ≤ k → tC B T k = 0) (h4 : N ≤ 400) (H : rdB o B T I R) : ∀ M acc k l J, acc.length + M = 12 → k ≤ N → frK I J → J 36 0 = nI acc.length → txA J 37 38 39 40 41 42 43 acc → rdS B T J k l (clCode acc) → (M = 0 → r = .error k) → (¬ M = 0 → RX o (tC B T) (tV B T) N acc.length k l (clCode acc).length acc = some r) → P_run (x + 55 + 1) 58 (p_bk 58 1) 0 0 [.ref 35, .ref 33, .int (nI (bN o)), .int (nI acc.length)] [] (p_mk Ls J L R X) (fun v h' => v = some (.int (rdV B T r)) ∧ ∃ J', rdP I J' r ∧ h' = p_mk Ls J' L R X) := by
  intro M
  induction M with
  | zero =>
    intro acc k l J hM hk fJ e0 hA hS h0 _
    have e := h0 rfl
    subst e
    have e4 := hS.1.1
    have al : acc.length = 12 := by omega
    have fin : rdP I J (.error k) := fJ
    show P_run _ _ _ _ _ _ _ _ (fun v h' => v = some (.int (nI (tS B T k))) ∧ _)
    rw [al]
    clear hS hA
    generalize tS B T k = p at *
    generalize nI (bN o) = O at *
    rw [P_run_eq, bk_58_1, pb_58_1]; simp -implicitDefEqProofs (disch := first | omega | decide) only [P_m, ↓P_run_eq _ 58 _ (p_bk 58 5), bk_58_5, pb_58_5, pw_iload_n3, pw_bipush, bl_12, pw_cge, pw_aload_n0, pw_aloadN_n0, pw_iv1, pw_zne, pw_getI, pw_ret0, kd_35, rf_35_0, rf_35_1, n_0, n_1, n_12, nn_lt, nn_nlt, nn_le, nn_nle, nn_ne, nn_sub, nn_mul, nI_add, nn_neg, nm_eq, mn_eq, mm_eq, mn_lt, nm_lt, mn_le, nm_le, nn_sub0, nn_of, implies_true, nn_c, nn_in, nn_div, nat_rem, Nat.reduceMul, Nat.reduceSub, Nat.reduceDiv, Nat.reduceMod, pf_at, pf_ne, mk_s, mk_1, Classical.not_not, b2i_T, b2i_F, false_imp_iff, true_imp_iff, false_and, and_false, p_sw, Int.reduceAdd, Int.zero_add, Option.some.injEq, Value.int.injEq, Value.long.injEq, Value.ref.injEq, exists_eq_left', mk_I, mk_L, mk_wI, mk_wL, rf_s, rf_n, true_and, and_true, and_self, or_true, true_or, or_false, false_or, not_true_eq_false, not_false_eq_true, Option.toList_some, Option.toList_none, List.cons_append, List.nil_append, List.map_nil, List.map_cons, List.sum_nil, List.sum_cons, cat_i, cat_l, cat_r, cat_n, Nat.reduceLeDiff, Nat.reduceAdd, Nat.reduceEqDiff, Nat.zero_le, p_ent, p_u_ne, p_u_at, reduceIte, if_true, if_false, e4]
    exact ⟨J, fin, rfl⟩
  | succ M ih =>
    intro acc k l J hM hk fJ e0 hA hS _ hr
    have hr := hr (by omega)
    have HJ := rdB_K H fJ
    rw [RX_e hN h4 hk] at hr
    obtain ⟨q, hq⟩ := RC_t (o := o) (V := tV B T) (l := l) (c := (clCode acc).length) hN h4 hk
    obtain ⟨J1, o1, s59⟩ := pl_59 (x := x) (Ls := Ls) (L := L) (X := X) hN h4 hk HJ hS (show acc.length < 12 by omega) e0 hq
    have m12 : acc.length < 12 := by omega
    rw [hq] at hr
    match q, hq, o1, s59, hr with
    | .error e, hq, o1, s59, hr =>
      cases hr
      obtain ⟨f1, k1⟩ := o1
      have e4 := k1.1
      have fin : rdP I J1 (.error e) := frK_tr fJ (frK_S f1)
      show P_run _ _ _ _ _ _ _ _ (fun v h' => v = some (.int (nI (tS B T e))) ∧ _)
      replace s59 : P_m (x + 55) 59 [.ref 35] (p_mk Ls J L R X) (fun v h' => v = some (.int (nI 0)) ∧ h' = p_mk Ls J1 L R X) := s59
      clear hS hA ih
      generalize tS B T e = p at *
      generalize nI (bN o) = O at *
      generalize acc.length = m at *
      rw [P_run_eq, bk_58_1, pb_58_1]; simp -implicitDefEqProofs (disch := first | omega | decide) only [P_m, pw_iload_n3, pw_bipush, bl_12, pw_cge, pw_aload_n0, pw_aloadN_n0, pw_iv1, pw_zne, pw_getI, pw_ret0, kd_35, rf_35_0, rf_35_1, n_0, n_1, n_12, nn_lt, nn_nlt, nn_le, nn_nle, nn_ne, nn_sub, nn_mul, nI_add, nn_neg, nm_eq, mn_eq, mm_eq, mn_lt, nm_lt, mn_le, nm_le, nn_sub0, nn_of, implies_true, nn_c, nn_in, nn_div, nat_rem, Nat.reduceMul, Nat.reduceSub, Nat.reduceDiv, Nat.reduceMod, pf_at, pf_ne, mk_s, mk_1, Classical.not_not, b2i_T, b2i_F, false_imp_iff, true_imp_iff, false_and, and_false, p_sw, Int.reduceAdd, Int.zero_add, Option.some.injEq, Value.int.injEq, Value.long.injEq, Value.ref.injEq, exists_eq_left', mk_I, mk_L, mk_wI, mk_wL, rf_s, rf_n, true_and, and_true, and_self, or_true, true_or, or_false, false_or, not_true_eq_false, not_false_eq_true, Option.toList_some, Option.toList_none, List.cons_append, List.nil_append, List.map_nil, List.map_cons, List.sum_nil, List.sum_cons, cat_i, cat_l, cat_r, cat_n, Nat.reduceLeDiff, Nat.reduceAdd, Nat.reduceEqDiff, Nat.zero_le, p_ent, p_u_ne, p_u_at, reduceIte, if_true, if_false, e4, P_ce s59]
      exact ⟨J1, fin, rfl⟩
    | .ok q, hq, o1, s59, hr =>
      obtain ⟨J2, f2, o2, rfl⟩ := o1
      obtain ⟨p1, p2, p3⟩ := RC_pr hN hk hq
      rw [bnd_ok] at hr
      replace s59 : P_m (x + 55) 59 [.ref 35] (p_mk Ls J L R X) (fun v h' => v = some (.int (nI 1)) ∧ h' = p_mk Ls (acJ J2 acc.length (clCode acc).length q.2.2) L R X) := s59
      have fK : frK I (acJ J2 acc.length (clCode acc).length q.2.2) := frK_tr fJ (frK_tr (frK_S f2) frK_ac)
      have o3 : rdS B T (acJ J2 acc.length (clCode acc).length q.2.2) q.1 q.2.1 (clCode (acc ++ [q.2.2])) := by rw [clCode_ap]; exact rdS_ac o2
      have t3 := tx_ac (B := B) (T := T) (c := q.2.2) (fun a a1 a2 => f2.1 a (by omega) (by omega) (by omega) (by omega)) hA o2
      have c3 : acJ J2 acc.length (clCode acc).length q.2.2 36 0 = nI (acc ++ [q.2.2]).length := by
        unfold acJ
        rw [acW_36, if_pos rfl, List.length_append]; rfl
      have HK := rdB_K H fK
      generalize acJ J2 acc.length (clCode acc).length q.2.2 = J3 at *
      have e4 := o3.1.1
      have e2 := HK.2.1.2.1
      have s69 := pl_69 (d := x + 54) (Ls := Ls) (L := L) (X := X) (c := 59) HK.2.1 o3.1 (by omega) sg4.1 sg4.2
      have tb := tS_b (B := B) (T := T) q.1
      have T4 := HK.2.1.2.2.1
      by_cases c1 : q.1 = N
      · rw [if_pos c1] at hr
        cases hr
        have fin : rdP I J3 (.ok (acc ++ [q.2.2])) := ⟨fK, c3, o3.2.2.2.1, t3⟩
        show P_run _ _ _ _ _ _ _ _ (fun v h' => v = some (.int (mI 1)) ∧ _)
        have eT : tS B T q.1 = T := by rw [c1]; exact hT
        rw [eT] at e4
        clear hS hA ih o3 t3 o2 hq s69
        generalize nI (bN o) = O at *
        generalize acc.length = m at *
        rw [P_run_eq, bk_58_1, pb_58_1]; simp -implicitDefEqProofs (disch := first | omega | decide) only [P_m, ↓P_run_eq _ 58 _ (p_bk 58 2), bk_58_2, pb_58_2, pw_iload_n3, pw_bipush, bl_12, pw_cge, pw_aload_n0, pw_aloadN_n0, pw_iv1, pw_zne, pw_getI, pw_ret0, pw_clt, pw_iconst, il_m1, kd_35, rf_35_0, rf_35_1, n_0, n_1, n_12, nn_lt, nn_nlt, nn_le, nn_nle, nn_ne, nn_sub, nn_mul, nI_add, nn_neg, nm_eq, mn_eq, mm_eq, mn_lt, nm_lt, mn_le, nm_le, nn_sub0, nn_of, implies_true, nn_c, nn_in, nn_div, nat_rem, Nat.reduceMul, Nat.reduceSub, Nat.reduceDiv, Nat.reduceMod, pf_at, pf_ne, mk_s, mk_1, Classical.not_not, b2i_T, b2i_F, false_imp_iff, true_imp_iff, false_and, and_false, p_sw, Int.reduceAdd, Int.zero_add, Option.some.injEq, Value.int.injEq, Value.long.injEq, Value.ref.injEq, exists_eq_left', mk_I, mk_L, mk_wI, mk_wL, rf_s, rf_n, true_and, and_true, and_self, or_true, true_or, or_false, false_or, not_true_eq_false, not_false_eq_true, Option.toList_some, Option.toList_none, List.cons_append, List.nil_append, List.map_nil, List.map_cons, List.sum_nil, List.sum_cons, cat_i, cat_l, cat_r, cat_n, Nat.reduceLeDiff, Nat.reduceAdd, Nat.reduceEqDiff, Nat.zero_le, p_ent, p_u_ne, p_u_at, reduceIte, if_true, if_false, e4, e2, P_ce s59]
        exact ⟨J3, fin, rfl⟩
      · rw [if_neg c1] at hr
        have tl := hJ q.1 (by omega)
        by_cases c2 : tC B T q.1 = 159
        · rw [if_pos c2] at hr
          rw [decide_eq_true (show tC B T q.1 = 100 + 59 from c2), bN_t, if_pos (show tC B T q.1 = 100 + 59 from c2)] at s69
          have qN := kN_of hN (show ¬ tC B T q.1 = 0 by omega)
          have al : (acc ++ [q.2.2]).length = acc.length + 1 := by rw [List.length_append]; rfl
          have cl2 : (clCode (acc ++ [q.2.2])).length = (clCode acc).length + (cl_s q.2.2).length + (cl_b q.2.2).length := by rw [clCode_ap, List.length_append, List.length_append]; omega
          have nx := ih (acc ++ [q.2.2]) (q.1 + 1) q.2.1 (stp B T J3 (q.1 + 1)) (by rw [al]; omega) (by omega) (frK_tr fK (frK_S frS_stp)) (by rw [stp_ne (by omega)]; exact c3) (by
            unfold txA at t3 ⊢
            rw [stp_ne (by omega), stp_ne (by omega), stp_ne (by omega), stp_ne (by omega), stp_ne (by omega), stp_ne (by omega), stp_ne (by omega)]
            exact t3) (rdS_stp o3) (fun hM0 => by
              rw [if_pos (by omega)] at hr
              cases hr; rfl) (fun hM0 => by
              rw [if_neg (by omega)] at hr
              rw [al, cl2]
              exact hr)
          rw [al] at nx
          clear hS hA ih o3 t3 o2 hq hr
          generalize stp B T J3 (q.1 + 1) = J4 at *
          generalize tS B T q.1 = p at *
          generalize nI (bN o) = O at *
          generalize acc.length = m at *
          generalize rdV B T r = VR at *
          rw [P_run_eq, bk_58_1, pb_58_1]; simp -implicitDefEqProofs (disch := first | omega | decide) only [P_m, ↓P_run_eq _ 58 _ (p_bk 58 2), bk_58_2, pb_58_2, ↓P_run_eq _ 58 _ (p_bk 58 3), bk_58_3, pb_58_3, ↓P_run_eq _ 58 _ (p_bk 58 4), bk_58_4, pb_58_4, pw_iload_n3, pw_bipush, bl_12, pw_cge, pw_aload_n0, pw_aloadN_n0, pw_iv1, pw_zne, pw_getI, pw_ret0, pw_clt, pw_iconst, il_m1, bl_59, pw_iv2, pw_iinc_3, il_1, po_i3, po_r3, po_n3, po_u3, pw_goto, kd_35, rf_35_0, rf_35_1, n_0, n_1, n_12, n_59, nn_lt, nn_nlt, nn_le, nn_nle, nn_ne, nn_sub, nn_mul, nI_add, nn_neg, nm_eq, mn_eq, mm_eq, mn_lt, nm_lt, mn_le, nm_le, nn_sub0, nn_of, implies_true, nn_c, nn_in, nn_div, nat_rem, Nat.reduceMul, Nat.reduceSub, Nat.reduceDiv, Nat.reduceMod, pf_at, pf_ne, mk_s, mk_1, Classical.not_not, b2i_T, b2i_F, false_imp_iff, true_imp_iff, false_and, and_false, p_sw, Int.reduceAdd, Int.zero_add, Option.some.injEq, Value.int.injEq, Value.long.injEq, Value.ref.injEq, exists_eq_left', mk_I, mk_L, mk_wI, mk_wL, rf_s, rf_n, true_and, and_true, and_self, or_true, true_or, or_false, false_or, not_true_eq_false, not_false_eq_true, Option.toList_some, Option.toList_none, List.cons_append, List.nil_append, List.map_nil, List.map_cons, List.sum_nil, List.sum_cons, cat_i, cat_l, cat_r, cat_n, Nat.reduceLeDiff, Nat.reduceAdd, Nat.reduceEqDiff, Nat.zero_le, p_ent, p_u_ne, p_u_at, reduceIte, if_true, if_false, e4, e2, P_ce s59, P_ce s69]
          exact nx
        · rw [if_neg c2] at hr
          rw [decide_eq_false (show ¬ tC B T q.1 = 100 + 59 from c2), bN_f, if_neg (show ¬ tC B T q.1 = 100 + 59 from c2)] at s69
          cases hr
          have fin : rdP I J3 (.error q.1) := fK
          show P_run _ _ _ _ _ _ _ _ (fun v h' => v = some (.int (nI (tS B T q.1))) ∧ _)
          clear hS hA ih o3 t3 o2 hq
          generalize tS B T q.1 = p at *
          generalize nI (bN o) = O at *
          generalize acc.length = m at *
          rw [P_run_eq, bk_58_1, pb_58_1]; simp -implicitDefEqProofs (disch := first | omega | decide) only [P_m, ↓P_run_eq _ 58 _ (p_bk 58 2), bk_58_2, pb_58_2, ↓P_run_eq _ 58 _ (p_bk 58 3), bk_58_3, pb_58_3, pw_iload_n3, pw_bipush, bl_12, pw_cge, pw_aload_n0, pw_aloadN_n0, pw_iv1, pw_zne, pw_getI, pw_ret0, pw_clt, pw_iconst, il_m1, bl_59, pw_iv2, kd_35, rf_35_0, rf_35_1, n_0, n_1, n_12, n_59, nn_lt, nn_nlt, nn_le, nn_nle, nn_ne, nn_sub, nn_mul, nI_add, nn_neg, nm_eq, mn_eq, mm_eq, mn_lt, nm_lt, mn_le, nm_le, nn_sub0, nn_of, implies_true, nn_c, nn_in, nn_div, nat_rem, Nat.reduceMul, Nat.reduceSub, Nat.reduceDiv, Nat.reduceMod, pf_at, pf_ne, mk_s, mk_1, Classical.not_not, b2i_T, b2i_F, false_imp_iff, true_imp_iff, false_and, and_false, p_sw, Int.reduceAdd, Int.zero_add, Option.some.injEq, Value.int.injEq, Value.long.injEq, Value.ref.injEq, exists_eq_left', mk_I, mk_L, mk_wI, mk_wL, rf_s, rf_n, true_and, and_true, and_self, or_true, true_or, or_false, false_or, not_true_eq_false, not_false_eq_true, Option.toList_some, Option.toList_none, List.cons_append, List.nil_append, List.map_nil, List.map_cons, List.sum_nil, List.sum_cons, cat_i, cat_l, cat_r, cat_n, Nat.reduceLeDiff, Nat.reduceAdd, Nat.reduceEqDiff, Nat.zero_le, p_ent, p_u_ne, p_u_at, reduceIte, if_true, if_false, e4, e2, P_ce s59, P_ce s69]
          exact ⟨J3, fin, rfl⟩
end RD
