theorem bN_t : bN true = 1 := rfl
theorem bN_f : bN false = 0 := rfl
section PT
variable {d Ls : Nat} {I : Nat → Nat → Int32} {L : Nat → Nat → Int64} {R : Nat → Nat → Option Nat} {X : List pKd} {h : pHp} {c : Option (List tCl)}
def frF (I J : Nat → Nat → Int32) : Prop := (∀ a, ¬ a = 123 → ¬ a = 135 → ¬ a = 138 → J a = I a) ∧ ∀ k, k ≠ 22 → k ≠ 23 → k ≠ 24 → k ≠ 25 → k ≠ 33 → J 123 k = I 123 k
theorem frF_E {I J J' : Nat → Nat → Int32} (h1 : frF I J) (h2 : frE J J') : frF I J' := ⟨fun a a1 a2 a3 => (h2.1 a a1 a2).trans (h1.1 a a1 a2 a3), fun k k1 k2 k3 k4 k5 => (h2.2 k k1 k2 k3 k4).trans (h1.2 k k1 k2 k3 k4 k5)⟩
/-- the first question that stands for a set -/
def fsN (A s : Nat) (C : Option (Nat × Nat)) : Nat := if s = A then (match C with | none => 100 | some b => b.2) else 100
def celK (c : Option (List tCl)) (K : Nat → Int32) (so md : Bool) (g : Option Nat) (s q : Nat) : Option (Nat × Nat) := cel (kn K 52) (fun q => kn K (37 + q)) (fun t => kn K (13 + t)) (yv c K) (okP c K so) md (plT c K so md g s) s q
def cndK (c : Option (List tCl)) (K : Nat → Int32) (so md : Bool) (g : Option Nat) (s q : Nat) : Option Nat := cnd (kn K 52) (fun q => kn K (37 + q)) (fun t => kn K (13 + t)) (yv c K) (okP c K so) md (plT c K so md g s) s q
theorem celK_s {K : Nat → Int32} {so md : Bool} {g : Option Nat} {s q : Nat} : celK c K so md g s (q + 1) = (match cndK c K so md g s q with
    | none => celK c K so md g s q
    | some v => match celK c K so md g s q with
      | none => some (v, q)
      | some b => if v < b.1 then some (v, q) else some b) := rfl
theorem lp_229 {so md : Bool} {g : Option Nat} {s : Nat} {Q : Option Value → pHp → Prop} (hV : vld (I 125)) (hc : lawOf (I 125) c) (hg : ∀ k, g = some k → k < 256) (hs : s < 256) (hd : dn s (kn (I 125) 0) = 0) (hl : tld g s = false)
    (hk : ∀ J', frF I J' → tbR J' (plT c (I 125) so md g s) (kn (I 125) 0) s → J' 138 s = pfI ((plC c (I 125) so md g s).map Prod.fst) → J' 123 33 = nI (fsN (kn (I 125) 0) s (plC c (I 125) so md g s)) → P_run (d + 49) 229 (p_bk 229 1) 0 0 [.ref 123, .int (pnI g), .int (nI (bN so)), .int (nI (bN (!md))), .int (nI (s + 1))] [] (p_mk Ls J' L R X) Q) :
    ∀ q, q ≤ kn (I 125) 53 → ∀ J, frF I J → tbR J (plT c (I 125) so md g s) (kn (I 125) 0) s → J 138 s = pfI ((celK c (I 125) so md g s q).map Prod.fst) → J 123 33 = nI (fsN (kn (I 125) 0) s (celK c (I 125) so md g s q)) → P_run (d + 49) 229 (p_bk 229 6) 0 0 [.ref 123, .int (pnI g), .int (nI (bN so)), .int (nI (bN (!md))), .int (nI s), .int (nI q)] [] (p_mk Ls J L R X) Q := by
  obtain ⟨n1, n2⟩ := kn_52 hV
  obtain ⟨m1, m2⟩ := kn_53 hV
  obtain ⟨k1, k2, k3⟩ := kn_0 hV
  have hp := tld_pc hs hg hl
  refine down_ind ?_ ?_
  · intro J hJ hT h1 h2
    have e125 : J 125 = I 125 := hJ.1 125 (by omega) (by omega) (by omega)
    have j53 : J 125 53 = nI (kn (I 125) 53) := by rw [e125]; exact m1
    have nx := hk J hJ hT h1 h2
    generalize pnI g = G at *
    rw [P_run_eq, bk_229_6, pb_229_6]; simp -implicitDefEqProofs (disch := first | omega | decide) only [P_m, ↓P_run_eq _ 229 _ (p_bk 229 14), bk_229_14, pb_229_14, pw_iload_5, pw_aload_n0, pw_aloadN_n0, pw_getR, pw_bipush, bl_53, pw_iald, pw_cge, pw_iload_4, pw_iload_n2, pw_iv4, pw_zne, pw_goto, pw_iinc_4, il_1, po_i4, po_r4, po_n4, po_u4, kd_123, rf_123_1, rf_123_2, rf_123_3, rf_123_4, rf_123_5, rf_123_7, rf_123_11, rf_123_12, rf_123_15, rf_123_16, rf_123_17, rf_123_26, rf_123_29, rf_123_30, rf_123_32, rf_123_34, rf_123_35, rf_123_45, kd_125, n_0, n_1, n_53, nn_lt, nn_nlt, nn_le, nn_nle, nn_ne, nn_sub, nn_mul, nI_add, nn_neg, nm_eq, mn_eq, mm_eq, mn_lt, nm_lt, mn_le, nm_le, nn_sub0, nn_of, implies_true, nn_c, nn_in, nn_div, nat_rem, Nat.reduceMul, Nat.reduceSub, Nat.reduceDiv, Nat.reduceMod, pf_at, pf_ne, mk_s, mk_1, Classical.not_not, b2i_T, b2i_F, false_imp_iff, true_imp_iff, false_and, and_false, p_sw, Int.reduceAdd, Int.zero_add, Option.some.injEq, Value.int.injEq, Value.long.injEq, Value.ref.injEq, exists_eq_left', mk_I, mk_L, mk_wI, mk_wL, rf_s, rf_n, true_and, and_true, and_self, or_true, true_or, or_false, false_or, not_true_eq_false, not_false_eq_true, Option.toList_some, Option.toList_none, List.cons_append, List.nil_append, List.map_nil, List.map_cons, List.sum_nil, List.sum_cons, cat_i, cat_l, cat_r, cat_n, Nat.reduceLeDiff, Nat.reduceAdd, Nat.reduceEqDiff, Nat.zero_le, p_ent, p_u_ne, p_u_at, reduceIte, if_true, if_false, j53]
    exact P_ls nx one_l
  · intro q hq ih J hJ hT h1 h2
    have hq8 : q < 8 := by omega
    have e125 : J 125 = I 125 := hJ.1 125 (by omega) (by omega) (by omega)
    have j53 : J 125 53 = nI (kn (I 125) 53) := by rw [e125]; exact m1
    obtain ⟨y1, y2⟩ := kn_37 hV hq8
    have w99 : ∀ t, t < kn (I 125) 52 → (fun t => kn (I 125) (13 + t)) t ≤ 99 := fun t ht => (kn_13 hV (by omega)).2
    have bB := plT_b (c := c) (so := so) (md := md) hV hg s (by omega)
    have e29 := kn_e hV (j := 29 + q) (by omega) (by omega) (by omega)
    rw [mx_29 q hq8] at e29
    have he := vld_env hV hq8
    obtain ⟨J1, f1, s1⟩ := pl_228 (d := d) (Ls := Ls) (I := J) (L := L) (R := R) (X := X) (c := c) (q := q) (s := s) (a := kn (I 125) (37 + q)) (so := so) n2 w99 hs hd bB hT y2 (by rw [e125]; exact y1) (by rw [e125]; exact n1) (by rw [e125]; exact hc) (by rw [e125]; exact he) (by rw [e125]; exact e29)
    rw [e125] at s1
    have fJ1 := frF_E hJ f1
    have e1251 : J1 125 = I 125 := fJ1.1 125 (by omega) (by omega) (by omega)
    have e138 : J1 138 = J 138 := f1.1 138 (by omega) (by omega)
    have e33 : J1 123 33 = J 123 33 := f1.2 33 (by omega) (by omega) (by omega) (by omega)
    have cd : cndK c (I 125) so md g s q = if okP c (I 125) so q (pc s) = true then (match bhx (plT c (I 125) so md g s) (kn (I 125) (37 + q)) (kn (I 125) 52) s 4 with
        | none => none
        | some b => some (yv c (I 125) q (pc s) * wtS (kn (I 125) 52) (fun t => kn (I 125) (13 + t)) md s + (if md = true then b.1 else b.2))) else none := rfl
    have no : cndK c (I 125) so md g s q = none → P_run (d + 49) 229 (p_bk 229 6) 0 0 [.ref 123, .int (pnI g), .int (nI (bN so)), .int (nI (bN (!md))), .int (nI s), .int (nI (q + 1))] [] (p_mk Ls J1 L R X) Q := by
      intro e
      have es : celK c (I 125) so md g s (q + 1) = celK c (I 125) so md g s q := by rw [celK_s, e]
      rw [es] at ih
      exact ih J1 fJ1 (fun s' a1 a2 => by rw [e138]; exact hT s' a1 a2) (by rw [e138]; exact h1) (by rw [e33]; exact h2)
    cases hok : okP c (I 125) so q (pc s) with
    | false =>
      rw [hok, if_neg (by decide)] at cd
      have nx := no cd
      rw [hok, Bool.false_and] at s1
      replace s1 : P_m (d + 48) 228 [.ref 123, .int (nI q), .int (nI s), .int (nI (bN so))] (p_mk Ls J L R X) (fun v h' => v = some (.int (nI 0)) ∧ h' = p_mk Ls J1 L R X) := s1
      generalize pnI g = G at *
      rw [P_run_eq, bk_229_6, pb_229_6]; simp -implicitDefEqProofs (disch := first | omega | decide) only [P_m, ↓P_run_eq _ 229 _ (p_bk 229 13), bk_229_13, pb_229_13, pw_iload_5, pw_aload_n0, pw_aloadN_n0, pw_getR, pw_bipush, bl_53, pw_iald, pw_cge, pw_iload_4, pw_iload_n2, pw_iv4, pw_zne, pw_goto, pw_iinc_5, il_1, po_i5, po_r5, po_n5, po_u5, kd_123, rf_123_1, rf_123_2, rf_123_3, rf_123_4, rf_123_5, rf_123_7, rf_123_11, rf_123_12, rf_123_15, rf_123_16, rf_123_17, rf_123_26, rf_123_29, rf_123_30, rf_123_32, rf_123_34, rf_123_35, rf_123_45, kd_125, n_0, n_1, n_53, nn_lt, nn_nlt, nn_le, nn_nle, nn_ne, nn_sub, nn_mul, nI_add, nn_neg, nm_eq, mn_eq, mm_eq, mn_lt, nm_lt, mn_le, nm_le, nn_sub0, nn_of, implies_true, nn_c, nn_in, nn_div, nat_rem, Nat.reduceMul, Nat.reduceSub, Nat.reduceDiv, Nat.reduceMod, pf_at, pf_ne, mk_s, mk_1, Classical.not_not, b2i_T, b2i_F, false_imp_iff, true_imp_iff, false_and, and_false, p_sw, Int.reduceAdd, Int.zero_add, Option.some.injEq, Value.int.injEq, Value.long.injEq, Value.ref.injEq, exists_eq_left', mk_I, mk_L, mk_wI, mk_wL, rf_s, rf_n, true_and, and_true, and_self, or_true, true_or, or_false, false_or, not_true_eq_false, not_false_eq_true, Option.toList_some, Option.toList_none, List.cons_append, List.nil_append, List.map_nil, List.map_cons, List.sum_nil, List.sum_cons, cat_i, cat_l, cat_r, cat_n, Nat.reduceLeDiff, Nat.reduceAdd, Nat.reduceEqDiff, Nat.zero_le, p_ent, p_u_ne, p_u_at, reduceIte, if_true, if_false, j53, P_ce s1]
      exact nx
    | true =>
      rw [hok, if_pos rfl] at cd
      rw [hok, Bool.true_and] at s1
      cases hB : bhx (plT c (I 125) so md g s) (kn (I 125) (37 + q)) (kn (I 125) 52) s 4 with
      | none =>
        rw [hB] at cd s1
        have nx := no cd
        replace s1 : P_m (d + 48) 228 [.ref 123, .int (nI q), .int (nI s), .int (nI (bN so))] (p_mk Ls J L R X) (fun v h' => v = some (.int (nI 0)) ∧ h' = p_mk Ls J1 L R X) := s1
        generalize pnI g = G at *
        rw [P_run_eq, bk_229_6, pb_229_6]; simp -implicitDefEqProofs (disch := first | omega | decide) only [P_m, ↓P_run_eq _ 229 _ (p_bk 229 13), bk_229_13, pb_229_13, pw_iload_5, pw_aload_n0, pw_aloadN_n0, pw_getR, pw_bipush, bl_53, pw_iald, pw_cge, pw_iload_4, pw_iload_n2, pw_iv4, pw_zne, pw_goto, pw_iinc_5, il_1, po_i5, po_r5, po_n5, po_u5, kd_123, rf_123_1, rf_123_2, rf_123_3, rf_123_4, rf_123_5, rf_123_7, rf_123_11, rf_123_12, rf_123_15, rf_123_16, rf_123_17, rf_123_26, rf_123_29, rf_123_30, rf_123_32, rf_123_34, rf_123_35, rf_123_45, kd_125, n_0, n_1, n_53, nn_lt, nn_nlt, nn_le, nn_nle, nn_ne, nn_sub, nn_mul, nI_add, nn_neg, nm_eq, mn_eq, mm_eq, mn_lt, nm_lt, mn_le, nm_le, nn_sub0, nn_of, implies_true, nn_c, nn_in, nn_div, nat_rem, Nat.reduceMul, Nat.reduceSub, Nat.reduceDiv, Nat.reduceMod, pf_at, pf_ne, mk_s, mk_1, Classical.not_not, b2i_T, b2i_F, false_imp_iff, true_imp_iff, false_and, and_false, p_sw, Int.reduceAdd, Int.zero_add, Option.some.injEq, Value.int.injEq, Value.long.injEq, Value.ref.injEq, exists_eq_left', mk_I, mk_L, mk_wI, mk_wL, rf_s, rf_n, true_and, and_true, and_self, or_true, true_or, or_false, false_or, not_true_eq_false, not_false_eq_true, Option.toList_some, Option.toList_none, List.cons_append, List.nil_append, List.map_nil, List.map_cons, List.sum_nil, List.sum_cons, cat_i, cat_l, cat_r, cat_n, Nat.reduceLeDiff, Nat.reduceAdd, Nat.reduceEqDiff, Nat.zero_le, p_ent, p_u_ne, p_u_at, reduceIte, if_true, if_false, j53, P_ce s1]
        exact nx
      | some B =>
        rw [hB] at cd s1
        replace s1 : P_m (d + 48) 228 [.ref 123, .int (nI q), .int (nI s), .int (nI (bN so))] (p_mk Ls J L R X) (fun v h' => v = some (.int (nI 1)) ∧ h' = p_mk Ls J1 L R X) := s1
        replace cd : cndK c (I 125) so md g s q = some (yv c (I 125) q (pc s) * wtS (kn (I 125) 52) (fun t => kn (I 125) (13 + t)) md s + (if md = true then B.1 else B.2)) := cd
        have hv := cnd_b n2 w99 hs (by omega) (yv_e he (pc_le _)).2 bB cd
        have hv2 : yv c (I 125) q (pc s) * wtS (kn (I 125) 52) (fun t => kn (I 125) (13 + t)) md s + (if md = true then B.1 else B.2) ≤ 627264 := by
          have h2 := wtS_le (md := md) n2 w99 s
          have h3 := pc_le s
          have h4 : 99 * pc s * wtS (kn (I 125) 52) (fun t => kn (I 125) (13 + t)) md s ≤ 792 * 792 := Nat.mul_le_mul (by omega) h2
          omega
        -- the candidate
        have run : ∃ J2, frE J1 J2 ∧ P_m (d + 48) (if md = true then 227 else 226) [.ref 123, .int (nI q), .int (nI s)] (p_mk Ls J1 L R X) (fun v h' => v = some (.int (nI (yv c (I 125) q (pc s) * wtS (kn (I 125) 52) (fun t => kn (I 125) (13 + t)) md s + (if md = true then B.1 else B.2)))) ∧ h' = p_mk Ls J2 L R X) := by
          have tR : tbR J1 (plT c (I 125) so md g s) (kn (I 125) 0) s := fun s' a1 a2 => by rw [e138]; exact hT s' a1 a2
          cases md with
          | false =>
            obtain ⟨J2, f2, s2⟩ := pl_226 (d := d) (Ls := Ls) (I := J1) (L := L) (R := R) (X := X) (c := c) (q := q) (s := s) n2 w99 hs hd bB tR y2 (by rw [e1251]; exact y1) (by rw [e1251]; exact n1) hB (by rw [e1251]; exact hc) (by rw [e1251]; exact he)
            rw [e1251] at s2
            refine ⟨J2, f2, ?_⟩
            simp only [wtS, Bool.false_eq_true, if_false, Nat.mul_one]
            exact s2
          | true =>
            obtain ⟨J2, f2, s2⟩ := pl_227 (d := d) (Ls := Ls) (I := J1) (L := L) (R := R) (X := X) (c := c) (q := q) (s := s) n2 w99 hs hd bB tR y2 (by rw [e1251]; exact y1) (by rw [e1251]; exact n1) hB (by rw [e1251]; exact hc) (by rw [e1251]; exact he) (fun t ht => by rw [e1251]; exact (kn_13 hV (by omega)).1)
            rw [e1251] at s2
            refine ⟨J2, f2, ?_⟩
            simp only [wtS, if_true]
            exact s2
        obtain ⟨J2, f2, s2⟩ := run
        have fJ2 := frF_E fJ1 f2
        have e1252 : J2 125 = I 125 := fJ2.1 125 (by omega) (by omega) (by omega)
        have e1382 : J2 138 = J 138 := (f2.1 138 (by omega) (by omega)).trans e138
        have e332 : J2 123 33 = J 123 33 := (f2.2 33 (by omega) (by omega) (by omega) (by omega)).trans e33
        have j0 : J2 125 0 = nI (kn (I 125) 0) := by rw [e1252]; exact k1
        have j1 : J2 138 s = pfI ((celK c (I 125) so md g s q).map Prod.fst) := by rw [e1382]; exact h1
        have j33 : J2 123 33 = nI (fsN (kn (I 125) 0) s (celK c (I 125) so md g s q)) := by rw [e332]; exact h2
        have es := celK_s (c := c) (K := I 125) (so := so) (md := md) (g := g) (s := s) (q := q)
        rw [cd] at es
        dsimp only at es
        generalize hv3 : yv c (I 125) q (pc s) * wtS (kn (I 125) 52) (fun t => kn (I 125) (13 + t)) md s + (if md = true then B.1 else B.2) = v at *
        -- taken
        have yes : celK c (I 125) so md g s (q + 1) = some (v, q) → ∀ f, f = nI (fsN (kn (I 125) 0) s (some (v, q))) → P_run (d + 49) 229 (p_bk 229 6) 0 0 [.ref 123, .int (pnI g), .int (nI (bN so)), .int (nI (bN (!md))), .int (nI s), .int (nI (q + 1))] [] (p_mk Ls (p_u (p_u J2 138 s (nI v)) 123 33 f) L R X) Q := by
          intro e f ef
          rw [e] at ih
          refine ih _ ⟨fun a a1 a2 a3 => by rw [p_u_ne a1, p_u_ne a3]; exact fJ2.1 a a1 a2 a3, fun k b1 b2 b3 b4 b5 => by rw [p_u_at, if_neg b5, p_u_ne (by omega)]; exact fJ2.2 k b1 b2 b3 b4 b5⟩ (fun s' a1 a2 => by rw [p_u_ne (by omega), p_u_at, if_neg (by omega), e1382]; exact hT s' a1 a2) ?_ ?_
          · rw [p_u_ne (by omega), p_u_at, if_pos rfl]; rfl
          · rw [p_u_at, if_pos rfl]; exact ef
        have kee : celK c (I 125) so md g s (q + 1) = celK c (I 125) so md g s q → P_run (d + 49) 229 (p_bk 229 6) 0 0 [.ref 123, .int (pnI g), .int (nI (bN so)), .int (nI (bN (!md))), .int (nI s), .int (nI (q + 1))] [] (p_mk Ls J2 L R X) Q := by
          intro e
          rw [e] at ih
          exact ih J2 fJ2 (fun s' a1 a2 => by rw [e1382]; exact hT s' a1 a2) j1 j33
        have cl : ∀ b, celK c (I 125) so md g s q = some b → b.1 ≤ 627264 := fun b hb => by
          have lb := cel_b n2 w99 hs (by omega) bB q b (fun j hj => (yv_e (vld_env hV (by omega)) (pc_le _)).2) hb
          have h2 := wtS_le (md := md) n2 w99 s
          have h3 := pc_le s
          have h4 : 99 * pc s * wtS (kn (I 125) 52) (fun t => kn (I 125) (13 + t)) md s ≤ 792 * 792 := Nat.mul_le_mul (by omega) h2
          omega
        have take : celK c (I 125) so md g s (q + 1) = some (v, q) → (∃ z, J2 138 s = nI z ∧ v < z ∧ z ≤ 1000000) → P_run (d + 49) 229 (p_bk 229 6) 0 0 [.ref 123, .int (pnI g), .int (nI (bN so)), .int (nI (bN (!md))), .int (nI s), .int (nI q)] [] (p_mk Ls J L R X) Q := by
          rintro e ⟨z, z1, z2, z3⟩
          clear j1 hv3 hv bB
          by_cases sA : s = kn (I 125) 0
          · have nx := yes e (nI q) (by unfold fsN; rw [if_pos sA])
            have j0 : J2 125 0 = nI s := by rw [sA]; exact j0
            generalize pnI g = G at *
            cases md with
            | false =>
              replace s2 : P_m (d + 48) 226 [.ref 123, .int (nI q), .int (nI s)] (p_mk Ls J1 L R X) (fun w h' => w = some (.int (nI v)) ∧ h' = p_mk Ls J2 L R X) := s2
              rw [P_run_eq, bk_229_6, pb_229_6]; simp -implicitDefEqProofs (disch := first | omega | decide) only [P_m, ↓P_run_eq _ 229 _ (p_bk 229 7), bk_229_7, pb_229_7, ↓P_run_eq _ 229 _ (p_bk 229 9), bk_229_9, pb_229_9, ↓P_run_eq _ 229 _ (p_bk 229 10), bk_229_10, pb_229_10, ↓P_run_eq _ 229 _ (p_bk 229 12), bk_229_12, pb_229_12, ↓P_run_eq _ 229 _ (p_bk 229 13), bk_229_13, pb_229_13, pw_iload_5, pw_aload_n0, pw_aloadN_n0, pw_getR, pw_bipush, bl_53, pw_iald, pw_cge, pw_iload_4, pw_iload_n2, pw_iv4, pw_zne, pw_goto, pw_iload_n3, pw_zeq, pw_iv3, pw_istore, ps_6, pe_6, po_i6, po_r6, po_n6, po_u6, pw_iload_6, pw_clt, pw_iast, pw_iconst, il_0, pw_cne, pw_putI, pw_nop, pw_iinc_5, il_1, po_i5, po_r5, po_n5, po_u5, kd_123, rf_123_1, rf_123_2, rf_123_3, rf_123_4, rf_123_5, rf_123_7, rf_123_11, rf_123_12, rf_123_15, rf_123_16, rf_123_17, rf_123_26, rf_123_29, rf_123_30, rf_123_32, rf_123_34, rf_123_35, rf_123_45, kd_125, kd_138, n_0, n_1, n_53, nn_lt, nn_nlt, nn_le, nn_nle, nn_ne, nn_sub, nn_mul, nI_add, nn_neg, nm_eq, mn_eq, mm_eq, mn_lt, nm_lt, mn_le, nm_le, nn_sub0, nn_of, implies_true, nn_c, nn_in, nn_div, nat_rem, Nat.reduceMul, Nat.reduceSub, Nat.reduceDiv, Nat.reduceMod, pf_at, pf_ne, mk_s, mk_1, Classical.not_not, b2i_T, b2i_F, false_imp_iff, true_imp_iff, false_and, and_false, p_sw, Int.reduceAdd, Int.zero_add, Option.some.injEq, Value.int.injEq, Value.long.injEq, Value.ref.injEq, exists_eq_left', mk_I, mk_L, mk_wI, mk_wL, rf_s, rf_n, true_and, and_true, and_self, or_true, true_or, or_false, false_or, not_true_eq_false, not_false_eq_true, Option.toList_some, Option.toList_none, List.cons_append, List.nil_append, List.map_nil, List.map_cons, List.sum_nil, List.sum_cons, cat_i, cat_l, cat_r, cat_n, Nat.reduceLeDiff, Nat.reduceAdd, Nat.reduceEqDiff, Nat.zero_le, p_ent, p_u_ne, p_u_at, reduceIte, if_true, if_false, j53, j0, z1, bN_t, bN_f, Bool.not_false, Bool.not_true, P_ce s1, P_ce s2]
              exact P_ls nx one_l
            | true =>
              replace s2 : P_m (d + 48) 227 [.ref 123, .int (nI q), .int (nI s)] (p_mk Ls J1 L R X) (fun w h' => w = some (.int (nI v)) ∧ h' = p_mk Ls J2 L R X) := s2
              rw [P_run_eq, bk_229_6, pb_229_6]; simp -implicitDefEqProofs (disch := first | omega | decide) only [P_m, ↓P_run_eq _ 229 _ (p_bk 229 7), bk_229_7, pb_229_7, ↓P_run_eq _ 229 _ (p_bk 229 8), bk_229_8, pb_229_8, ↓P_run_eq _ 229 _ (p_bk 229 9), bk_229_9, pb_229_9, ↓P_run_eq _ 229 _ (p_bk 229 10), bk_229_10, pb_229_10, ↓P_run_eq _ 229 _ (p_bk 229 12), bk_229_12, pb_229_12, ↓P_run_eq _ 229 _ (p_bk 229 13), bk_229_13, pb_229_13, pw_iload_5, pw_aload_n0, pw_aloadN_n0, pw_getR, pw_bipush, bl_53, pw_iald, pw_cge, pw_iload_4, pw_iload_n2, pw_iv4, pw_zne, pw_goto, pw_iload_n3, pw_zeq, pw_iv3, pw_nop, pw_istore, ps_6, pe_6, po_i6, po_r6, po_n6, po_u6, pw_iload_6, pw_clt, pw_iast, pw_iconst, il_0, pw_cne, pw_putI, pw_iinc_5, il_1, po_i5, po_r5, po_n5, po_u5, kd_123, rf_123_1, rf_123_2, rf_123_3, rf_123_4, rf_123_5, rf_123_7, rf_123_11, rf_123_12, rf_123_15, rf_123_16, rf_123_17, rf_123_26, rf_123_29, rf_123_30, rf_123_32, rf_123_34, rf_123_35, rf_123_45, kd_125, kd_138, n_0, n_1, n_53, nn_lt, nn_nlt, nn_le, nn_nle, nn_ne, nn_sub, nn_mul, nI_add, nn_neg, nm_eq, mn_eq, mm_eq, mn_lt, nm_lt, mn_le, nm_le, nn_sub0, nn_of, implies_true, nn_c, nn_in, nn_div, nat_rem, Nat.reduceMul, Nat.reduceSub, Nat.reduceDiv, Nat.reduceMod, pf_at, pf_ne, mk_s, mk_1, Classical.not_not, b2i_T, b2i_F, false_imp_iff, true_imp_iff, false_and, and_false, p_sw, Int.reduceAdd, Int.zero_add, Option.some.injEq, Value.int.injEq, Value.long.injEq, Value.ref.injEq, exists_eq_left', mk_I, mk_L, mk_wI, mk_wL, rf_s, rf_n, true_and, and_true, and_self, or_true, true_or, or_false, false_or, not_true_eq_false, not_false_eq_true, Option.toList_some, Option.toList_none, List.cons_append, List.nil_append, List.map_nil, List.map_cons, List.sum_nil, List.sum_cons, cat_i, cat_l, cat_r, cat_n, Nat.reduceLeDiff, Nat.reduceAdd, Nat.reduceEqDiff, Nat.zero_le, p_ent, p_u_ne, p_u_at, reduceIte, if_true, if_false, j53, j0, z1, bN_t, bN_f, Bool.not_false, Bool.not_true, P_ce s1, P_ce s2]
              exact P_ls nx one_l
          · have nx := yes e (J2 123 33) (by rw [j33]; unfold fsN; rw [if_neg sA, if_neg sA])
            generalize pnI g = G at *
            cases md with
            | false =>
              replace s2 : P_m (d + 48) 226 [.ref 123, .int (nI q), .int (nI s)] (p_mk Ls J1 L R X) (fun w h' => w = some (.int (nI v)) ∧ h' = p_mk Ls J2 L R X) := s2
              rw [P_run_eq, bk_229_6, pb_229_6]; simp -implicitDefEqProofs (disch := first | omega | decide) only [P_m, ↓P_run_eq _ 229 _ (p_bk 229 7), bk_229_7, pb_229_7, ↓P_run_eq _ 229 _ (p_bk 229 9), bk_229_9, pb_229_9, ↓P_run_eq _ 229 _ (p_bk 229 10), bk_229_10, pb_229_10, ↓P_run_eq _ 229 _ (p_bk 229 11), bk_229_11, pb_229_11, ↓P_run_eq _ 229 _ (p_bk 229 12), bk_229_12, pb_229_12, ↓P_run_eq _ 229 _ (p_bk 229 13), bk_229_13, pb_229_13, pw_iload_5, pw_aload_n0, pw_aloadN_n0, pw_getR, pw_bipush, bl_53, pw_iald, pw_cge, pw_iload_4, pw_iload_n2, pw_iv4, pw_zne, pw_goto, pw_iload_n3, pw_zeq, pw_iv3, pw_istore, ps_6, pe_6, po_i6, po_r6, po_n6, po_u6, pw_iload_6, pw_clt, pw_iast, pw_iconst, il_0, pw_cne, pw_getI, pw_nop, pw_putI, pw_iinc_5, il_1, po_i5, po_r5, po_n5, po_u5, kd_123, rf_123_1, rf_123_2, rf_123_3, rf_123_4, rf_123_5, rf_123_7, rf_123_11, rf_123_12, rf_123_15, rf_123_16, rf_123_17, rf_123_26, rf_123_29, rf_123_30, rf_123_32, rf_123_34, rf_123_35, rf_123_45, kd_125, kd_138, n_0, n_1, n_53, nn_lt, nn_nlt, nn_le, nn_nle, nn_ne, nn_sub, nn_mul, nI_add, nn_neg, nm_eq, mn_eq, mm_eq, mn_lt, nm_lt, mn_le, nm_le, nn_sub0, nn_of, implies_true, nn_c, nn_in, nn_div, nat_rem, Nat.reduceMul, Nat.reduceSub, Nat.reduceDiv, Nat.reduceMod, pf_at, pf_ne, mk_s, mk_1, Classical.not_not, b2i_T, b2i_F, false_imp_iff, true_imp_iff, false_and, and_false, p_sw, Int.reduceAdd, Int.zero_add, Option.some.injEq, Value.int.injEq, Value.long.injEq, Value.ref.injEq, exists_eq_left', mk_I, mk_L, mk_wI, mk_wL, rf_s, rf_n, true_and, and_true, and_self, or_true, true_or, or_false, false_or, not_true_eq_false, not_false_eq_true, Option.toList_some, Option.toList_none, List.cons_append, List.nil_append, List.map_nil, List.map_cons, List.sum_nil, List.sum_cons, cat_i, cat_l, cat_r, cat_n, Nat.reduceLeDiff, Nat.reduceAdd, Nat.reduceEqDiff, Nat.zero_le, p_ent, p_u_ne, p_u_at, reduceIte, if_true, if_false, j53, j0, z1, sA, bN_t, bN_f, Bool.not_false, Bool.not_true, P_ce s1, P_ce s2]
              exact P_ls nx one_l
            | true =>
              replace s2 : P_m (d + 48) 227 [.ref 123, .int (nI q), .int (nI s)] (p_mk Ls J1 L R X) (fun w h' => w = some (.int (nI v)) ∧ h' = p_mk Ls J2 L R X) := s2
              rw [P_run_eq, bk_229_6, pb_229_6]; simp -implicitDefEqProofs (disch := first | omega | decide) only [P_m, ↓P_run_eq _ 229 _ (p_bk 229 7), bk_229_7, pb_229_7, ↓P_run_eq _ 229 _ (p_bk 229 8), bk_229_8, pb_229_8, ↓P_run_eq _ 229 _ (p_bk 229 9), bk_229_9, pb_229_9, ↓P_run_eq _ 229 _ (p_bk 229 10), bk_229_10, pb_229_10, ↓P_run_eq _ 229 _ (p_bk 229 11), bk_229_11, pb_229_11, ↓P_run_eq _ 229 _ (p_bk 229 12), bk_229_12, pb_229_12, ↓P_run_eq _ 229 _ (p_bk 229 13), bk_229_13, pb_229_13, pw_iload_5, pw_aload_n0, pw_aloadN_n0, pw_getR, pw_bipush, bl_53, pw_iald, pw_cge, pw_iload_4, pw_iload_n2, pw_iv4, pw_zne, pw_goto, pw_iload_n3, pw_zeq, pw_iv3, pw_nop, pw_istore, ps_6, pe_6, po_i6, po_r6, po_n6, po_u6, pw_iload_6, pw_clt, pw_iast, pw_iconst, il_0, pw_cne, pw_getI, pw_putI, pw_iinc_5, il_1, po_i5, po_r5, po_n5, po_u5, kd_123, rf_123_1, rf_123_2, rf_123_3, rf_123_4, rf_123_5, rf_123_7, rf_123_11, rf_123_12, rf_123_15, rf_123_16, rf_123_17, rf_123_26, rf_123_29, rf_123_30, rf_123_32, rf_123_34, rf_123_35, rf_123_45, kd_125, kd_138, n_0, n_1, n_53, nn_lt, nn_nlt, nn_le, nn_nle, nn_ne, nn_sub, nn_mul, nI_add, nn_neg, nm_eq, mn_eq, mm_eq, mn_lt, nm_lt, mn_le, nm_le, nn_sub0, nn_of, implies_true, nn_c, nn_in, nn_div, nat_rem, Nat.reduceMul, Nat.reduceSub, Nat.reduceDiv, Nat.reduceMod, pf_at, pf_ne, mk_s, mk_1, Classical.not_not, b2i_T, b2i_F, false_imp_iff, true_imp_iff, false_and, and_false, p_sw, Int.reduceAdd, Int.zero_add, Option.some.injEq, Value.int.injEq, Value.long.injEq, Value.ref.injEq, exists_eq_left', mk_I, mk_L, mk_wI, mk_wL, rf_s, rf_n, true_and, and_true, and_self, or_true, true_or, or_false, false_or, not_true_eq_false, not_false_eq_true, Option.toList_some, Option.toList_none, List.cons_append, List.nil_append, List.map_nil, List.map_cons, List.sum_nil, List.sum_cons, cat_i, cat_l, cat_r, cat_n, Nat.reduceLeDiff, Nat.reduceAdd, Nat.reduceEqDiff, Nat.zero_le, p_ent, p_u_ne, p_u_at, reduceIte, if_true, if_false, j53, j0, z1, sA, bN_t, bN_f, Bool.not_false, Bool.not_true, P_ce s1, P_ce s2]
              exact P_ls nx one_l
        cases hC : celK c (I 125) so md g s q with
        | none =>
          rw [hC] at es j1
          exact take es ⟨1000000, j1, by omega, by omega⟩
        | some b =>
          have cl := cl b hC
          by_cases lt : v < b.1
          · have es2 : celK c (I 125) so md g s (q + 1) = some (v, q) := by rw [es, hC]; exact if_pos lt
            rw [hC] at j1
            exact take es2 ⟨b.1, j1, lt, by omega⟩
          · have es2 : celK c (I 125) so md g s (q + 1) = celK c (I 125) so md g s q := by rw [es, hC]; exact if_neg lt
            have nx := kee es2
            rw [hC] at j1
            replace j1 : J2 138 s = nI b.1 := j1
            clear hv3 hv bB
            generalize pnI g = G at *
            cases md with
            | false =>
              replace s2 : P_m (d + 48) 226 [.ref 123, .int (nI q), .int (nI s)] (p_mk Ls J1 L R X) (fun w h' => w = some (.int (nI v)) ∧ h' = p_mk Ls J2 L R X) := s2
              rw [P_run_eq, bk_229_6, pb_229_6]; simp -implicitDefEqProofs (disch := first | omega | decide) only [P_m, ↓P_run_eq _ 229 _ (p_bk 229 7), bk_229_7, pb_229_7, ↓P_run_eq _ 229 _ (p_bk 229 9), bk_229_9, pb_229_9, ↓P_run_eq _ 229 _ (p_bk 229 13), bk_229_13, pb_229_13, pw_iload_5, pw_aload_n0, pw_aloadN_n0, pw_getR, pw_bipush, bl_53, pw_iald, pw_cge, pw_iload_4, pw_iload_n2, pw_iv4, pw_zne, pw_goto, pw_iload_n3, pw_zeq, pw_iv3, pw_istore, ps_6, pe_6, po_i6, po_r6, po_n6, po_u6, pw_iload_6, pw_clt, pw_iinc_5, il_1, po_i5, po_r5, po_n5, po_u5, kd_123, rf_123_1, rf_123_2, rf_123_3, rf_123_4, rf_123_5, rf_123_7, rf_123_11, rf_123_12, rf_123_15, rf_123_16, rf_123_17, rf_123_26, rf_123_29, rf_123_30, rf_123_32, rf_123_34, rf_123_35, rf_123_45, kd_125, kd_138, n_0, n_1, n_53, nn_lt, nn_nlt, nn_le, nn_nle, nn_ne, nn_sub, nn_mul, nI_add, nn_neg, nm_eq, mn_eq, mm_eq, mn_lt, nm_lt, mn_le, nm_le, nn_sub0, nn_of, implies_true, nn_c, nn_in, nn_div, nat_rem, Nat.reduceMul, Nat.reduceSub, Nat.reduceDiv, Nat.reduceMod, pf_at, pf_ne, mk_s, mk_1, Classical.not_not, b2i_T, b2i_F, false_imp_iff, true_imp_iff, false_and, and_false, p_sw, Int.reduceAdd, Int.zero_add, Option.some.injEq, Value.int.injEq, Value.long.injEq, Value.ref.injEq, exists_eq_left', mk_I, mk_L, mk_wI, mk_wL, rf_s, rf_n, true_and, and_true, and_self, or_true, true_or, or_false, false_or, not_true_eq_false, not_false_eq_true, Option.toList_some, Option.toList_none, List.cons_append, List.nil_append, List.map_nil, List.map_cons, List.sum_nil, List.sum_cons, cat_i, cat_l, cat_r, cat_n, Nat.reduceLeDiff, Nat.reduceAdd, Nat.reduceEqDiff, Nat.zero_le, p_ent, p_u_ne, p_u_at, reduceIte, if_true, if_false, j53, j0, j1, bN_t, bN_f, Bool.not_false, Bool.not_true, P_ce s1, P_ce s2]
              exact P_ls nx one_l
            | true =>
              replace s2 : P_m (d + 48) 227 [.ref 123, .int (nI q), .int (nI s)] (p_mk Ls J1 L R X) (fun w h' => w = some (.int (nI v)) ∧ h' = p_mk Ls J2 L R X) := s2
              rw [P_run_eq, bk_229_6, pb_229_6]; simp -implicitDefEqProofs (disch := first | omega | decide) only [P_m, ↓P_run_eq _ 229 _ (p_bk 229 7), bk_229_7, pb_229_7, ↓P_run_eq _ 229 _ (p_bk 229 8), bk_229_8, pb_229_8, ↓P_run_eq _ 229 _ (p_bk 229 9), bk_229_9, pb_229_9, ↓P_run_eq _ 229 _ (p_bk 229 13), bk_229_13, pb_229_13, pw_iload_5, pw_aload_n0, pw_aloadN_n0, pw_getR, pw_bipush, bl_53, pw_iald, pw_cge, pw_iload_4, pw_iload_n2, pw_iv4, pw_zne, pw_goto, pw_iload_n3, pw_zeq, pw_iv3, pw_nop, pw_istore, ps_6, pe_6, po_i6, po_r6, po_n6, po_u6, pw_iload_6, pw_clt, pw_iinc_5, il_1, po_i5, po_r5, po_n5, po_u5, kd_123, rf_123_1, rf_123_2, rf_123_3, rf_123_4, rf_123_5, rf_123_7, rf_123_11, rf_123_12, rf_123_15, rf_123_16, rf_123_17, rf_123_26, rf_123_29, rf_123_30, rf_123_32, rf_123_34, rf_123_35, rf_123_45, kd_125, kd_138, n_0, n_1, n_53, nn_lt, nn_nlt, nn_le, nn_nle, nn_ne, nn_sub, nn_mul, nI_add, nn_neg, nm_eq, mn_eq, mm_eq, mn_lt, nm_lt, mn_le, nm_le, nn_sub0, nn_of, implies_true, nn_c, nn_in, nn_div, nat_rem, Nat.reduceMul, Nat.reduceSub, Nat.reduceDiv, Nat.reduceMod, pf_at, pf_ne, mk_s, mk_1, Classical.not_not, b2i_T, b2i_F, false_imp_iff, true_imp_iff, false_and, and_false, p_sw, Int.reduceAdd, Int.zero_add, Option.some.injEq, Value.int.injEq, Value.long.injEq, Value.ref.injEq, exists_eq_left', mk_I, mk_L, mk_wI, mk_wL, rf_s, rf_n, true_and, and_true, and_self, or_true, true_or, or_false, false_or, not_true_eq_false, not_false_eq_true, Option.toList_some, Option.toList_none, List.cons_append, List.nil_append, List.map_nil, List.map_cons, List.sum_nil, List.sum_cons, cat_i, cat_l, cat_r, cat_n, Nat.reduceLeDiff, Nat.reduceAdd, Nat.reduceEqDiff, Nat.zero_le, p_ent, p_u_ne, p_u_at, reduceIte, if_true, if_false, j53, j0, j1, bN_t, bN_f, Bool.not_false, Bool.not_true, P_ce s1, P_ce s2]
              exact P_ls nx one_l
end PT
