section GE
variable {d D Ls : Nat} {I J : Nat → Nat → Int32} {L : Nat → Nat → Int64} {R : Nat → Nat → Option Nat} {X : List pKd} {c : Option (List tCl)} {K0 W : Nat → Int32} {B : Nat → Nat} {T N : Nat}
theorem pl_180o {t : Nat} (ht : t ≤ 6) (N4 : N ≤ 400) (e18 : I 123 18 = nI N) (hR : tkR B T I N) : ∃ J, ((∀ a, ¬ a = 125 → J a = I a) ∧ lyK B T t (upd (I 125) (57 + t) (nI N)) (J 125) N) ∧ P_m d 180 [.ref 123, .int (nI t)] (p_mk Ls I L R X) (fun v h' => v = none ∧ h' = p_mk Ls J L R X) := by
  have loop : ∀ k, k ≤ N → ∀ J, (∀ a, ¬ a = 125 → J a = I a) → lyK B T t (upd (I 125) (57 + t) (nI N)) (J 125) k → P_run d 180 (p_bk 180 1) 0 0 [.ref 123, .int (nI t), .int (nI k)] [] (p_mk Ls J L R X) (fun v h' => v = none ∧ ∃ J, ((∀ a, ¬ a = 125 → J a = I a) ∧ lyK B T t (upd (I 125) (57 + t) (nI N)) (J 125) N) ∧ h' = p_mk Ls J L R X) := by
    refine down_ind ?_ ?_
    · intro J f1 f2
      have e : J 123 18 = nI N := by rw [f1 123 (by omega)]; exact e18
      rw [P_run_eq, bk_180_1, pb_180_1]; simp -implicitDefEqProofs (disch := first | omega | decide) only [P_m, ↓P_run_eq _ 180 _ (p_bk 180 2), bk_180_2, pb_180_2, pw_iload_n2, pw_aload_n0, pw_aloadN_n0, pw_getI, pw_cge, pw_getR, pw_bipush, bl_64, pw_sipush, sl_400, pw_iload_n1, pw_imul, pw_iadd, pw_iald, pw_iast, sl_2864, pw_iinc_2, il_1, po_i2, po_r2, po_n2, po_u2, pw_goto, pw_vret, kd_123, rf_123_1, rf_123_2, rf_123_3, rf_123_4, rf_123_5, rf_123_7, rf_123_11, rf_123_12, rf_123_15, rf_123_16, rf_123_17, rf_123_26, rf_123_29, rf_123_30, rf_123_32, rf_123_34, rf_123_35, rf_123_45, n_0, n_1, n_64, n_400, n_2864, nn_lt, nn_nlt, nn_le, nn_nle, nn_ne, nn_sub, nn_mul, nI_add, nn_neg, nm_eq, mn_eq, mm_eq, mn_lt, nm_lt, mn_le, nm_le, nn_sub0, nn_of, implies_true, nn_c, nn_in, nn_div, nat_rem, Nat.reduceMul, Nat.reduceSub, Nat.reduceDiv, Nat.reduceMod, pf_at, pf_ne, mk_s, mk_1, Classical.not_not, b2i_T, b2i_F, false_imp_iff, true_imp_iff, false_and, and_false, p_sw, Int.reduceAdd, Int.zero_add, Option.some.injEq, Value.int.injEq, Value.long.injEq, Value.ref.injEq, exists_eq_left', mk_I, mk_L, mk_wI, mk_wL, rf_s, rf_n, true_and, and_true, and_self, or_true, true_or, or_false, false_or, not_true_eq_false, not_false_eq_true, Option.toList_some, Option.toList_none, List.cons_append, List.nil_append, List.map_nil, List.map_cons, List.sum_nil, List.sum_cons, cat_i, cat_l, cat_r, cat_n, Nat.reduceLeDiff, Nat.reduceAdd, Nat.reduceEqDiff, Nat.zero_le, p_ent, p_u_ne, p_u_at, reduceIte, if_true, if_false, e]
      exact ⟨J, ⟨f1, f2⟩, rfl⟩
    · intro k hk nx J f1 f2
      have e : J 123 18 = nI N := by rw [f1 123 (by omega)]; exact e18
      obtain ⟨t1, t2, -⟩ := hR k hk
      have a1 : J 132 k = nI (tC B T k) := by rw [f1 132 (by omega)]; exact t1
      have a2 : p_u J 125 (64 + 400 * t + k) (nI (tC B T k)) 133 k = nI (tV B T k) := by rw [p_u_ne (by omega), f1 133 (by omega)]; exact t2
      have nx := nx (p_u (p_u J 125 (64 + 400 * t + k) (nI (tC B T k))) 125 (2864 + 400 * t + k) (nI (tV B T k))) (fun a ha => by rw [p_u_ne ha, p_u_ne ha]; exact f1 a ha) ⟨fun j hj => by
        rw [p_u_at, p_u_at, p_u_at, p_u_at]
        by_cases e : j = k
        · subst e
          rw [if_neg (by omega), if_pos rfl, if_pos rfl]; exact ⟨rfl, rfl⟩
        · rw [if_neg (by omega), if_neg (by omega), if_neg (by omega), if_neg (by omega)]; exact f2.1 j (by omega), fun j h1 h2 => by
        rw [p_u_at, if_neg (by omega), p_u_at, if_neg (by omega)]; exact f2.2 j (by omega) (by omega)⟩
      have x1 : 64 + t * 400 + k = 64 + 400 * t + k := by omega
      have x2 : 2864 + t * 400 + k = 2864 + 400 * t + k := by omega
      generalize tC B T k = cc at *
      generalize tV B T k = vv at *
      rw [P_run_eq, bk_180_1, pb_180_1]; simp -implicitDefEqProofs (disch := first | omega | decide) only [P_m, pw_iload_n2, pw_aload_n0, pw_aloadN_n0, pw_getI, pw_cge, pw_getR, pw_bipush, bl_64, pw_sipush, sl_400, pw_iload_n1, pw_imul, pw_iadd, pw_iald, pw_iast, sl_2864, pw_iinc_2, il_1, po_i2, po_r2, po_n2, po_u2, pw_goto, kd_123, rf_123_1, rf_123_2, rf_123_3, rf_123_4, rf_123_5, rf_123_7, rf_123_11, rf_123_12, rf_123_15, rf_123_16, rf_123_17, rf_123_26, rf_123_29, rf_123_30, rf_123_32, rf_123_34, rf_123_35, rf_123_45, kd_125, kd_132, kd_133, n_0, n_1, n_64, n_400, n_2864, nn_lt, nn_nlt, nn_le, nn_nle, nn_ne, nn_sub, nn_mul, nI_add, nn_neg, nm_eq, mn_eq, mm_eq, mn_lt, nm_lt, mn_le, nm_le, nn_sub0, nn_of, implies_true, nn_c, nn_in, nn_div, nat_rem, Nat.reduceMul, Nat.reduceSub, Nat.reduceDiv, Nat.reduceMod, pf_at, pf_ne, mk_s, mk_1, Classical.not_not, b2i_T, b2i_F, false_imp_iff, true_imp_iff, false_and, and_false, p_sw, Int.reduceAdd, Int.zero_add, Option.some.injEq, Value.int.injEq, Value.long.injEq, Value.ref.injEq, exists_eq_left', mk_I, mk_L, mk_wI, mk_wL, rf_s, rf_n, true_and, and_true, and_self, or_true, true_or, or_false, false_or, not_true_eq_false, not_false_eq_true, Option.toList_some, Option.toList_none, List.cons_append, List.nil_append, List.map_nil, List.map_cons, List.sum_nil, List.sum_cons, cat_i, cat_l, cat_r, cat_n, Nat.reduceLeDiff, Nat.reduceAdd, Nat.reduceEqDiff, Nat.zero_le, p_ent, p_u_ne, p_u_at, reduceIte, if_true, if_false, e, a1, a2, x1, x2]
      exact nx
  have st := loop 0 (Nat.zero_le N) (p_u I 125 (57 + t) (nI N)) (fun a ha => p_u_ne ha) ⟨fun j hj => absurd hj (Nat.not_lt_zero j), fun j _ _ => by rw [p_u_at]; rfl⟩
  have all : P_m d 180 [.ref 123, .int (nI t)] (p_mk Ls I L R X) (fun v h' => v = none ∧ ∃ J, ((∀ a, ¬ a = 125 → J a = I a) ∧ lyK B T t (upd (I 125) (57 + t) (nI N)) (J 125) N) ∧ h' = p_mk Ls J L R X) := by
    simp -implicitDefEqProofs (disch := first | omega | decide) only [P_m, ↓P_run_eq _ 180 _ (p_bk 180 0), bk_180_0, pb_180_0, pw_aload_n0, pw_aloadN_n0, pw_getR, pw_bipush, bl_57, pw_iload_n1, pw_iadd, pw_getI, pw_iast, pw_iconst, il_0, pw_istore_n2, ps_2, pe_2, po_i2, po_r2, po_n2, po_u2, pw_nop, kd_123, rf_123_1, rf_123_2, rf_123_3, rf_123_4, rf_123_5, rf_123_7, rf_123_11, rf_123_12, rf_123_15, rf_123_16, rf_123_17, rf_123_26, rf_123_29, rf_123_30, rf_123_32, rf_123_34, rf_123_35, rf_123_45, kd_125, n_0, n_1, n_57, nn_lt, nn_nlt, nn_le, nn_nle, nn_ne, nn_sub, nn_mul, nI_add, nn_neg, nm_eq, mn_eq, mm_eq, mn_lt, nm_lt, mn_le, nm_le, nn_sub0, nn_of, implies_true, nn_c, nn_in, nn_div, nat_rem, Nat.reduceMul, Nat.reduceSub, Nat.reduceDiv, Nat.reduceMod, pf_at, pf_ne, mk_s, mk_1, Classical.not_not, b2i_T, b2i_F, false_imp_iff, true_imp_iff, false_and, and_false, p_sw, Int.reduceAdd, Int.zero_add, Option.some.injEq, Value.int.injEq, Value.long.injEq, Value.ref.injEq, exists_eq_left', mk_I, mk_L, mk_wI, mk_wL, rf_s, rf_n, true_and, and_true, and_self, or_true, true_or, or_false, false_or, not_true_eq_false, not_false_eq_true, Option.toList_some, Option.toList_none, List.cons_append, List.nil_append, List.map_nil, List.map_cons, List.sum_nil, List.sum_cons, cat_i, cat_l, cat_r, cat_n, Nat.reduceLeDiff, Nat.reduceAdd, Nat.reduceEqDiff, Nat.zero_le, p_ent, p_u_ne, p_u_at, reduceIte, if_true, if_false, e18]
    exact st
  obtain ⟨v, g', ⟨rfl, J', f1, rfl⟩, s⟩ := P_mex all
  exact ⟨J', f1, s⟩
/-- what the reference takes back -/
def tbI (J : Nat → Nat → Int32) : Nat → Nat → Int32 := p_u (p_fn (p_fn J 125 (va_cpy (J 128) (J 125) 13 0 13)) 136 (va_cpy (J 137) (J 136) 0 0 224)) 123 31 (J 123 44)
/-- what running leaves on the reference's side -/
def rmQ (Ls : Nat) (I : Nat → Nat → Int32) (L : Nat → Nat → Int64) (R : Nat → Nat → Option Nat) (X : List pKd) (c : Option (List tCl)) (K0 : Nat → Int32) (r : Except Nat oS) (v : Option Value) (h' : pHp) : Prop := match r with
  | .ok s' => v = some (.int (nI s'.2.2.2.1)) ∧ oOk c K0 s' ∧ ∃ J w, frOd I J ∧ rfO J s' ∧ h' = p_mk Ls (p_u J 123 0 0) (p_u L 123 43 w) R X
  | .error e => v = some (.int (-3)) ∧ ∃ J w, frOd I J ∧ (∀ j, 13 ≤ j → J 125 j = K0 j) ∧ h' = p_mk Ls (p_u (p_u (p_u (tbI J) 123 37 (nI e)) 123 0 (-3)) 124 3 (J 124 3 + 1)) (p_u L 123 43 w) R X
theorem lp_253 (hX : txO K0 T) (hD : 49 ≤ D) : ∀ n m k l cc acc CL, l ≤ 50 → m ≤ 11 → pX true (kC K0 6) (kV K0 6) T n m k l cc acc = some (.ok CL) → ∃ rest, CL = acc ++ rest ∧ ∀ (s : oS) (J : Nat → Nat → Int32) (w : Int64), frOd I J → rfO J s → oOk c K0 s → J 123 38 = nI (2400 + k) → s.2.2.2.1 + 20 * rest.length ≤ 300 → P_run (D + 4) 253 (p_bk 253 2) 0 0 [.ref 123, .int (nI (2400 + T)), .int (nI m)] [] (p_mk Ls J (p_u L 123 43 w) R X) (rmQ Ls I L R X c K0 (oC c m rest s))
  | 0, _, _, _, _, _, _, _, _, h => by cases h
  | n + 1, m, k, l, cc, acc, CL, hl, hm, h => by
    obtain ⟨x1, x2, x3⟩ := hX
    unfold pX at h
    obtain ⟨a, e1, e2⟩ := bnd_iok h
    obtain ⟨g1, g2, g3, g4, g5⟩ := pC_g hl e1
    have aT : a.1 ≤ T ∧ ∃ rest, CL = acc ++ (a.2.2 :: rest) ∧ ∀ (s : oS) (J : Nat → Nat → Int32) (w : Int64), frOd I J → rfO J s → oOk c K0 s → J 123 38 = nI (2400 + a.1 + 1) → s.2.2.2.1 + 20 * rest.length ≤ 300 → P_run (D + 4) 253 (p_bk 253 2) 0 0 [.ref 123, .int (nI (2400 + T)), .int (nI (m + 1))] [] (p_mk Ls J (p_u L 123 43 w) R X) (rmQ Ls I L R X c K0 (oC c (m + 1) rest s)) := by
      split at e2
      · rename_i hTe
        cases e2
        refine ⟨by omega, [], rfl, fun s J w f hs ho k38 hn => ?_⟩
        have hn : s.2.2.2.1 + 20 * 0 ≤ 300 := hn
        have s9 := sp_129 (d := D + 3) (Ls := Ls) (I := J) (L := p_u L 123 43 w) (R := R) (X := X) (nI s.2.2.2.1)
        have e27 := hs.2.1
        have hQ : rmQ Ls I L R X c K0 (oC c (m + 1) [] s) (some (.int (nI s.2.2.2.1))) (p_mk Ls (p_u J 123 0 0) (p_u L 123 43 w) R X) := ⟨rfl, ho, J, w, f, hs, rfl⟩
        generalize rmQ Ls I L R X c K0 (oC c (m + 1) [] s) = QQ at *
        rw [hTe] at k38
        generalize s.2.2.2.1 = nn at *
        rw [P_run_eq, bk_253_2, pb_253_2]; simp -implicitDefEqProofs (disch := first | omega | decide) only [P_m, ↓P_run_eq _ 253 _ (p_bk 253 5), bk_253_5, pb_253_5, pw_aload_n0, pw_aloadN_n0, pw_getI, pw_iload_n1, pw_cge, pw_iv2, pw_zeq, pw_goto, pw_ret0, kd_123, rf_123_1, rf_123_2, rf_123_3, rf_123_4, rf_123_5, rf_123_7, rf_123_11, rf_123_12, rf_123_15, rf_123_16, rf_123_17, rf_123_26, rf_123_29, rf_123_30, rf_123_32, rf_123_34, rf_123_35, rf_123_45, n_0, n_1, nn_lt, nn_nlt, nn_le, nn_nle, nn_ne, nn_sub, nn_mul, nI_add, nn_neg, nm_eq, mn_eq, mm_eq, mn_lt, nm_lt, mn_le, nm_le, nn_sub0, nn_of, implies_true, nn_c, nn_in, nn_div, nat_rem, Nat.reduceMul, Nat.reduceSub, Nat.reduceDiv, Nat.reduceMod, pf_at, pf_ne, mk_s, mk_1, Classical.not_not, b2i_T, b2i_F, false_imp_iff, true_imp_iff, false_and, and_false, p_sw, Int.reduceAdd, Int.zero_add, Option.some.injEq, Value.int.injEq, Value.long.injEq, Value.ref.injEq, exists_eq_left', mk_I, mk_L, mk_wI, mk_wL, rf_s, rf_n, true_and, and_true, and_self, or_true, true_or, or_false, false_or, not_true_eq_false, not_false_eq_true, Option.toList_some, Option.toList_none, List.cons_append, List.nil_append, List.map_nil, List.map_cons, List.sum_nil, List.sum_cons, cat_i, cat_l, cat_r, cat_n, Nat.reduceLeDiff, Nat.reduceAdd, Nat.reduceEqDiff, Nat.zero_le, p_ent, p_u_ne, p_u_at, reduceIte, if_true, if_false, k38, e27, P_ce s9]
        exact hQ
      · split at e2
        · rename_i h159
          split at e2
          · cases e2
          · have haT : a.1 < T := by
              rcases Nat.lt_or_ge a.1 T with h | h
              · exact h
              · rw [kC_0 x3 x2 h] at h159; omega
            obtain ⟨rest, e3, ih⟩ := lp_253 ⟨x1, x2, x3⟩ hD n _ _ _ _ _ CL g4 (by omega) e2
            refine ⟨by omega, rest, by rw [e3, List.append_assoc]; rfl, fun s J w f hs ho k38 hn => ih s J w f hs ho (by rw [k38]; congr 1) hn⟩
        · cases e2
    obtain ⟨aT, rest, e3, ih⟩ := aT
    refine ⟨a.2.2 :: rest, e3, fun s J w f hs ho k38 hn => ?_⟩
    rw [List.length_cons] at hn
    have s257 : P_m (D + 3) 257 [.ref 123, .int (nI (2400 + T))] (p_mk Ls J (p_u L 123 43 w) R X) (fun v h' => (∃ s' J' w', oT c a.2.2 (cl_t a.2.2) s = some s' ∧ oOk c K0 s' ∧ s'.2.2.2.1 ≤ s.2.2.2.1 + 20 ∧ frOd I J' ∧ rfO J' s' ∧ J' 123 38 = nI (2400 + a.1 + 1) ∧ v = some (.int (nI 1)) ∧ h' = p_mk Ls J' (p_u L 123 43 w') R X) ∨ (oT c a.2.2 (cl_t a.2.2) s = none ∧ ∃ J' w', frOd I J' ∧ (∀ j, 13 ≤ j → J' 125 j = K0 j) ∧ v = some (.int (nI 0)) ∧ h' = p_mk Ls J' (p_u L 123 43 w') R X)) := by
      refine ru_m ⟨x1, x2, x3⟩ e1 (by omega) hl hD f hs ho k38 (by omega) (fun s' J' w' k1 k2 k3 k4 k5 k6 => Or.inl ⟨s', J', w', k1, k2, k3, k4, k5, k6, rfl, rfl⟩) (fun k1 J' w' k2 k3 => Or.inr ⟨k1, J', w', k2, k3, rfl, rfl⟩)
    have hc : oC c m (a.2.2 :: rest) s = match oT c a.2.2 (cl_t a.2.2) s with
      | none => Except.error m
      | some s' => oC c (m + 1) rest s' := rfl
    rw [hc]
    clear hc e1 e2 h e3
    have step : ∀ QQ, (∀ s' J' w', oT c a.2.2 (cl_t a.2.2) s = some s' → oOk c K0 s' → s'.2.2.2.1 ≤ s.2.2.2.1 + 20 → frOd I J' → rfO J' s' → J' 123 38 = nI (2400 + a.1 + 1) → P_run (D + 4) 253 (p_bk 253 2) 0 0 [.ref 123, .int (nI (2400 + T)), .int (nI (m + 1))] [] (p_mk Ls J' (p_u L 123 43 w') R X) QQ) → (∀ J' w', oT c a.2.2 (cl_t a.2.2) s = none → frOd I J' → (∀ j, 13 ≤ j → J' 125 j = K0 j) → QQ (some (.int (-3))) (p_mk Ls (p_u (p_u (p_u (tbI J') 123 37 (nI m)) 123 0 (-3)) 124 3 (J' 124 3 + 1)) (p_u L 123 43 w') R X)) → P_run (D + 4) 253 (p_bk 253 2) 0 0 [.ref 123, .int (nI (2400 + T)), .int (nI m)] [] (p_mk Ls J (p_u L 123 43 w) R X) QQ := by
      intro QQ q1 q2
      rw [P_run_eq, bk_253_2, pb_253_2]; simp -implicitDefEqProofs (disch := first | omega | decide) only [P_m, pw_aload_n0, pw_aloadN_n0, pw_getI, pw_iload_n1, pw_cge, pw_iv2, pw_zeq, pw_goto, kd_123, rf_123_1, rf_123_2, rf_123_3, rf_123_4, rf_123_5, rf_123_7, rf_123_11, rf_123_12, rf_123_15, rf_123_16, rf_123_17, rf_123_26, rf_123_29, rf_123_30, rf_123_32, rf_123_34, rf_123_35, rf_123_45, n_0, n_1, nn_lt, nn_nlt, nn_le, nn_nle, nn_ne, nn_sub, nn_mul, nI_add, nn_neg, nm_eq, mn_eq, mm_eq, mn_lt, nm_lt, mn_le, nm_le, nn_sub0, nn_of, implies_true, nn_c, nn_in, nn_div, nat_rem, Nat.reduceMul, Nat.reduceSub, Nat.reduceDiv, Nat.reduceMod, pf_at, pf_ne, mk_s, mk_1, Classical.not_not, b2i_T, b2i_F, false_imp_iff, true_imp_iff, false_and, and_false, p_sw, Int.reduceAdd, Int.zero_add, Option.some.injEq, Value.int.injEq, Value.long.injEq, Value.ref.injEq, exists_eq_left', mk_I, mk_L, mk_wI, mk_wL, rf_s, rf_n, true_and, and_true, and_self, or_true, true_or, or_false, false_or, not_true_eq_false, not_false_eq_true, Option.toList_some, Option.toList_none, List.cons_append, List.nil_append, List.map_nil, List.map_cons, List.sum_nil, List.sum_cons, cat_i, cat_l, cat_r, cat_n, Nat.reduceLeDiff, Nat.reduceAdd, Nat.reduceEqDiff, Nat.zero_le, p_ent, p_u_ne, p_u_at, reduceIte, if_true, if_false, k38]
      refine P_c s257 ?_
      rintro _ _ (⟨s', J', w', k1, k2, k3, k4, k5, k6, rfl, rfl⟩ | ⟨k1, J', w', k2, k3, rfl, rfl⟩)
      · have q := q1 s' J' w' k1 k2 k3 k4 k5 k6
        clear q1 q2
        simp -implicitDefEqProofs (disch := first | omega | decide) only [P_m, ↓P_run_eq _ 253 _ (p_bk 253 4), bk_253_4, pb_253_4, pw_aload_n0, pw_aloadN_n0, pw_getI, pw_iload_n1, pw_cge, pw_iv2, pw_zeq, pw_goto, pw_iinc_2, il_1, po_i2, po_r2, po_n2, po_u2, kd_123, rf_123_1, rf_123_2, rf_123_3, rf_123_4, rf_123_5, rf_123_7, rf_123_11, rf_123_12, rf_123_15, rf_123_16, rf_123_17, rf_123_26, rf_123_29, rf_123_30, rf_123_32, rf_123_34, rf_123_35, rf_123_45, n_0, n_1, nn_lt, nn_nlt, nn_le, nn_nle, nn_ne, nn_sub, nn_mul, nI_add, nn_neg, nm_eq, mn_eq, mm_eq, mn_lt, nm_lt, mn_le, nm_le, nn_sub0, nn_of, implies_true, nn_c, nn_in, nn_div, nat_rem, Nat.reduceMul, Nat.reduceSub, Nat.reduceDiv, Nat.reduceMod, pf_at, pf_ne, mk_s, mk_1, Classical.not_not, b2i_T, b2i_F, false_imp_iff, true_imp_iff, false_and, and_false, p_sw, Int.reduceAdd, Int.zero_add, Option.some.injEq, Value.int.injEq, Value.long.injEq, Value.ref.injEq, exists_eq_left', mk_I, mk_L, mk_wI, mk_wL, rf_s, rf_n, true_and, and_true, and_self, or_true, true_or, or_false, false_or, not_true_eq_false, not_false_eq_true, Option.toList_some, Option.toList_none, List.cons_append, List.nil_append, List.map_nil, List.map_cons, List.sum_nil, List.sum_cons, cat_i, cat_l, cat_r, cat_n, Nat.reduceLeDiff, Nat.reduceAdd, Nat.reduceEqDiff, Nat.zero_le, p_ent, p_u_ne, p_u_at, reduceIte, if_true, if_false]
        exact q
      · have q := q2 J' w' k1 k2 k3
        have s252 : P_m (D + 3) 252 [.ref 123] (p_mk Ls J' (p_u L 123 43 w') R X) (fun v h' => v = none ∧ h' = p_mk Ls (tbI J') (p_u L 123 43 w') R X) := sp_252 (d := D + 2)
        have e124 : p_u (tbI J') 123 37 (nI m) 124 3 = J' 124 3 := by unfold tbI; rw [p_u_ne (by omega), p_u_ne (by omega), pf_ne (by omega), pf_ne (by omega)]
        have s128 := rm_3 (d := D + 3) (Ls := Ls) (I := p_u (tbI J') 123 37 (nI m)) (L := p_u L 123 43 w') (R := R) (X := X)
        rw [e124] at s128
        clear q1 q2
        generalize tbI J' = TB at *
        simp -implicitDefEqProofs (disch := first | omega | decide) only [P_m, ↓P_run_eq _ 253 _ (p_bk 253 3), bk_253_3, pb_253_3, pw_aload_n0, pw_aloadN_n0, pw_getI, pw_iload_n1, pw_cge, pw_iv2, pw_zeq, pw_goto, pw_iv1, pw_iload_n2, pw_putI, pw_bipush, bl_m3, pw_ret0, kd_123, rf_123_1, rf_123_2, rf_123_3, rf_123_4, rf_123_5, rf_123_7, rf_123_11, rf_123_12, rf_123_15, rf_123_16, rf_123_17, rf_123_26, rf_123_29, rf_123_30, rf_123_32, rf_123_34, rf_123_35, rf_123_45, n_0, n_1, nn_lt, nn_nlt, nn_le, nn_nle, nn_ne, nn_sub, nn_mul, nI_add, nn_neg, nm_eq, mn_eq, mm_eq, mn_lt, nm_lt, mn_le, nm_le, nn_sub0, nn_of, implies_true, nn_c, nn_in, nn_div, nat_rem, Nat.reduceMul, Nat.reduceSub, Nat.reduceDiv, Nat.reduceMod, pf_at, pf_ne, mk_s, mk_1, Classical.not_not, b2i_T, b2i_F, false_imp_iff, true_imp_iff, false_and, and_false, p_sw, Int.reduceAdd, Int.zero_add, Option.some.injEq, Value.int.injEq, Value.long.injEq, Value.ref.injEq, exists_eq_left', mk_I, mk_L, mk_wI, mk_wL, rf_s, rf_n, true_and, and_true, and_self, or_true, true_or, or_false, false_or, not_true_eq_false, not_false_eq_true, Option.toList_some, Option.toList_none, List.cons_append, List.nil_append, List.map_nil, List.map_cons, List.sum_nil, List.sum_cons, cat_i, cat_l, cat_r, cat_n, Nat.reduceLeDiff, Nat.reduceAdd, Nat.reduceEqDiff, Nat.zero_le, p_ent, p_u_ne, p_u_at, reduceIte, if_true, if_false, P_ce s252, P_ce s128]
        exact q
    refine step _ (fun s' J' w' k1 k2 k3 k4 k5 k6 => ?_) (fun J' w' k1 k2 k3 => ?_)
    · rw [k1]; exact ih s' J' w' k4 k5 k2 k6 (by omega)
    · rw [k1]; exact ⟨rfl, J', w', k2, k3, rfl⟩
end GE
