/-! ORDER: the told questions, by their rank -/
def rk (S : Nat) : Nat → Nat
  | 0 => 0
  | j + 1 => rk S j + bt S j
def tqS (S i : Nat) : Nat := ((List.range 8).filter (fun q => bt S q == 1)).getD i 0
theorem tq_rk : ∀ S, S < 256 → ∀ q, q < 8 → bt S q = 1 → tqS S (rk S q) = q := by decide +kernel
theorem tq_in : ∀ S, S < 256 → ∀ i, i < pc S → tqS S i < 8 ∧ bt S (tqS S i) = 1 ∧ rk S (tqS S i) = i := by decide +kernel
theorem rk_pc : ∀ m, m ≤ 8 → ∀ S, S < 2 ^ m → rk S m = pc S := by decide +kernel
theorem rk_lt : ∀ S, S < 256 → ∀ q, q < 8 → bt S q = 1 → rk S q < pc S := by decide +kernel
theorem dfs_rx {S m : Nat} {yq : Nat → Nat → Option Nat} (hm : m ≤ 8) (hS : S < 2 ^ m) : ∀ f a a' u p b, a < 256 → a' < 256 → (∀ i, i < pc S → bt a' (tqS S i) = bt a i) → (∀ q, q < 8 → bt S q = 0 → bt a' q = 1) → dfs (tqS S) (fun i u => yq (tqS S i) u) (pc S) f a u p b = dfs id yq m f a' u p b := by
  have pm : 2 ^ m ≤ 2 ^ 8 := Nat.pow_le_pow_right (by omega) hm
  intro f
  induction f with
  | zero => intro a a' u p b _ _ _ _; rfl
  | succ f ih =>
    intro a a' u p b ha ha' h1 h2
    have step : ∀ j, j ≤ m → foB (fun i b => if bt a i = 1 then b else match yq (tqS S i) u with
        | none => b
        | some t => dfs (tqS S) (fun i u => yq (tqS S i) u) (pc S) f (a + 2 ^ i) (u + t) (p ++ [tqS S i]) b) (rk S j) b = foB (fun i b => if bt a' i = 1 then b else match yq i u with
        | none => b
        | some t => dfs id yq m f (a' + 2 ^ i) (u + t) (p ++ [id i]) b) j b := by
      intro j
      induction j with
      | zero => intro _; rfl
      | succ j ij =>
        intro hj
        have ij := ij (by omega)
        have j8 : j < 8 := by omega
        rcases bt_01 S j with e | e
        · have e2 := h2 j j8 e
          show foB _ (rk S j + bt S j) b = (if bt a' j = 1 then _ else _)
          rw [e, Nat.add_zero, if_pos e2]
          exact ij
        · have tr := tq_rk S (by omega) j j8 e
          have rl := rk_lt S (by omega) j j8 e
          have e1 := h1 (rk S j) rl
          rw [tr] at e1
          show foB _ (rk S j + bt S j) b = (if bt a' j = 1 then foB _ j b else _)
          rw [e]
          show (if bt a (rk S j) = 1 then foB _ (rk S j) b else _) = _
          rw [ij, ← e1, tr]
          rcases bt_01 a' j with e3 | e3
          · rw [if_neg (by omega), if_neg (by omega)]
            cases hy : yq j u with
            | none => rfl
            | some t =>
              have A := bt_ad a ha (rk S j) (by have := pc_le S; omega) (by omega)
              have B := bt_ad a' ha' j j8 e3
              refine ih (a + 2 ^ rk S j) (a' + 2 ^ j) (u + t) (p ++ [j]) _ A.1 B.1 (fun i hi => ?_) (fun q hq hb => ?_)
              · obtain ⟨t1, t2, t3⟩ := tq_in S (by omega) i hi
                rw [A.2.2.1 i (by have := pc_le S; omega), B.2.2.1 _ t1]
                by_cases ei : i = rk S j
                · rw [if_pos ei, if_pos (by rw [ei]; exact tr)]
                · rw [if_neg ei, if_neg (fun hh => ei (by rw [← t3, hh]))]; exact h1 i hi
              · rw [B.2.2.1 q hq, if_neg (fun hh => by rw [hh] at hb; omega)]; exact h2 q hq hb
          · rw [if_pos e3, if_pos e3]
    have := step m (Nat.le_refl m)
    rw [rk_pc m hm S hS] at this
    exact this
theorem m_2 : (-2 : Int32) = mI 2 := rfl
section OK
variable {d Ls : Nat} {I : Nat → Nat → Int32} {L : Nat → Nat → Int64} {R : Nat → Nat → Option Nat} {X : List pKd} {h : pHp} {c : Option (List tCl)} {K : Nat → Int32} {r : Option Nat}
def frOD (I J : Nat → Nat → Int32) : Prop := ∀ a, ¬ a = 48 → ¬ a = 50 → ¬ a = 51 → ¬ a = 61 → ¬ a = 65 → ¬ a = 66 → ¬ a = 68 → J a = I a
def orB (c : Option (List tCl)) (K : Nat → Int32) (S : Nat) : oB := dfs (tqS S) (yC c K (tqS S)) (pc S) (pc S) 0 0 [] none
theorem pl_45 {S : Nat} (hx : Cx Ls I R X c) (h9 : I 1 2 = nI 9999) (hS : S < 2 ^ kn (I 125) 53) (hP : pc S ≤ 7) : ∃ J L', frOD I J ∧ bcl J (orB c (I 125) S) (pc S) ∧ P_m (d + 15) 45 [.ref 48, .ref 71, .int (nI S)] (p_mk Ls I L R X) (fun v h' => v = some (.int (nI (bN (orB c (I 125) S).isSome))) ∧ h' = p_mk Ls J L' (layR R (fRef R 71 (I 125))) X) := by
  have hV := hx.2.2.1
  have m2 := (kn_53 hV).2
  have m1 := (kn_53 hV).1
  have pm : 2 ^ kn (I 125) 53 ≤ 2 ^ 8 := Nat.pow_le_pow_right (by omega) m2
  obtain ⟨⟨r1, r2, r3, r4, r5, r6, r7, r8⟩, -, ra, -⟩ := hutR_at hx.1
  have s2 := fc_n (d := d + 13) (L := L) hx
  have s34 := pl_34 (d := d + 14) (Ls := Ls) (I := I) (L := L) (R := R) (X := X) (r := fRef R 71 (I 125))
  have rr : ∀ r : Option Nat, p_cats [.ref 48, .ref 71, va_rf r] ≤ p_mx 34 := fun r => by cases r <;> exact Nat.le_of_ble_eq_true rfl
  have hR1 : layR R (fRef R 71 (I 125)) 48 1 = some 71 := layR_1
  have hR2 : layR R (fRef R 71 (I 125)) 48 2 = fRef R 71 (I 125) := layR_2
  have hcl : clw Ls I (layR R (fRef R 71 (I 125))) X (fRef R 71 (I 125)) c := clw_R hx.2.2.2.2 (fun a ha => layR_ne (by omega))
  have loop : ∀ q, q ≤ kn (I 125) 53 → ∀ J, (∀ a, ¬ a = 48 → ¬ a = 65 → J a = I a) → J 48 11 = nI (rk S q) → (∀ j, j < rk S q → J 65 j = nI (tqS S j)) → P_run (d + 15) 45 (p_bk 45 1) 0 0 [.ref 48, .ref 71, .int (nI S), .int (nI q)] [] (p_mk Ls J L (layR R (fRef R 71 (I 125))) X) (fun v h' => v = some (.int (nI (bN (orB c (I 125) S).isSome))) ∧ ∃ J' L', (frOD I J' ∧ bcl J' (orB c (I 125) S) (pc S)) ∧ h' = p_mk Ls J' L' (layR R (fRef R 71 (I 125))) X) := by
    refine down_ind ?_ ?_
    · intro J fJ e11 e65
      rw [rk_pc _ m2 S hS] at e11 e65
      have j2 : J 71 2 = nI (kn (I 125) 53) := by rw [fJ 71 (by omega) (by omega)]; exact r2.trans m1
      obtain ⟨L1, l1, l2, s279⟩ := pl_279 (d := d + 14) (Ls := Ls) (I := p_u J 48 3 (mI 1)) (L := L) (R := layR R (fRef R 71 (I 125))) (X := X)
      obtain ⟨J1, f1, f2, s281⟩ := pl_281 (d := d + 14) (Ls := Ls) (I := p_u J 48 3 (mI 1)) (L := L1) (R := layR R (fRef R 71 (I 125))) (X := X)
      have g1 : ∀ a, ¬ a = 48 → ¬ a = 65 → ¬ a = 68 → J1 a = I a := fun a a1 a2 a3 => by rw [f1 a a3, p_u_ne a1]; exact fJ a a1 a2
      have k11 : J1 48 11 = nI (pc S) := by rw [f1 48 (by omega), p_u_at, if_neg (by omega)]; exact e11
      have k3 : J1 48 3 = mI 1 := by rw [f1 48 (by omega), p_u_at, if_pos rfl]
      obtain ⟨J2, L2, ⟨w1, w2, w3, w4, w5, w6⟩, s46⟩ := pl_46 (d := d) (Ls := Ls) (R := layR R (fRef R 71 (I 125))) (X := X) (c := c) (K := I 125) (r := fRef R 71 (I 125)) (tq := tqS S) (k := pc S) (I0 := J1) hV (hutR_f hx.1 (fun b b1 b2 => g1 b (by omega) (by omega) (by omega))) (clw_fr hcl (fun a ha => g1 a (by omega) (by omega) (by omega))) (lawOf_c hx.2.2.2.1) hR1 hR2 hP (fun i hi => (tq_in S (by omega) i hi).1) (fun i hi => by rw [f1 65 (by omega), p_u_ne (by omega)]; exact e65 i hi) k11 (by rw [g1 1 (by omega) (by omega) (by omega)]; exact h9) (pc S) 0 0 0 [] none J1 L1 (by omega) (Nat.two_pow_pos _) (by decide) (by omega) rfl (fun j hj => absurd hj (by simp)) frC_rf (fun i u hi hu => Or.inl (f2 _ (by omega))) ⟨k3, fun t l hh => by cases hh⟩ (fun a v ha hv _ hn => by
        have pk : 2 ^ pc S ≤ 2 ^ 7 := Nat.pow_le_pow_right (by omega) hP
        exact absurd (by rw [l2 _ (by omega)]; exact Int64.zero_and) hn)
      replace s46 := P_mup s46 (show d + pc S + 6 ≤ d + 14 by omega)
      have bb : bcl J2 (orB c (I 125) S) (pc S) := w4
      have ff : frOD I J2 := fun a a1 a2 a3 a4 a5 a6 a7 => by rw [w1.1 a a1 a2 a3 a4 a6 a7]; exact g1 a a1 a5 a7
      generalize layR R (fRef R 71 (I 125)) = RR at *
      clear w2 w3 w4 w5 w6 l2
      cases hO : orB c (I 125) S with
      | none =>
        rw [hO] at bb
        have b3 : J2 48 3 = mI 1 := bb.1
        show P_run _ _ _ _ _ _ _ _ (fun v h' => v = some (.int (nI 0)) ∧ _)
        generalize pc S = P at *
        generalize kn (I 125) 53 = m at *
        rw [P_run_eq, bk_45_1, pb_45_1]; simp -implicitDefEqProofs (disch := first | omega | decide) only [P_m, ↓P_run_eq _ 45 _ (p_bk 45 3), bk_45_3, pb_45_3, ↓P_run_eq _ 45 _ (p_bk 45 4), bk_45_4, pb_45_4, ↓P_run_eq _ 45 _ (p_bk 45 5), bk_45_5, pb_45_5, pw_iload_n3, pw_aload_n0, pw_aloadN_n0, pw_getR, pw_getI, pw_cge, pw_iload_n2, pw_ishr, pw_iconst, il_1, pw_iand, pw_zeq, pw_iast, pw_dupi, pw_dupr, pw_iadd, pw_putI, pw_nop, il_m1, pw_lconst, ll_0, pw_is2, pw_bipush, bl_m2, il_0, pw_iv4, pw_ceq, pw_goto, pw_ret1, kd_48, rf_48_0, rf_48_6, rf_48_7, rf_48_8, rf_48_9, rf_48_10, rf_48_12, rf_48_13, rf_48_14, rf_48_15, rf_48_1, rf_48_2, kd_67, kd_68, kd_71, rf_71_1, rf_71_3, rf_71_4, rf_71_5, rf_71_6, rf_71_11, rf_71_12, rf_71_14, n_0, n_1, nn_lt, nn_nlt, nn_le, nn_nle, nn_ne, nn_sub, nn_mul, nI_add, nn_neg, nm_eq, mn_eq, mm_eq, mn_lt, nm_lt, mn_le, nm_le, nn_sub0, nn_of, implies_true, nn_c, nn_in, nn_div, nat_rem, Nat.reduceMul, Nat.reduceSub, Nat.reduceDiv, Nat.reduceMod, pf_at, pf_ne, mk_s, mk_1, Classical.not_not, b2i_T, b2i_F, false_imp_iff, true_imp_iff, false_and, and_false, p_sw, Int.reduceAdd, Int.zero_add, Option.some.injEq, Value.int.injEq, Value.long.injEq, Value.ref.injEq, exists_eq_left', mk_I, mk_L, mk_wI, mk_wL, rf_s, rf_n, true_and, and_true, and_self, or_true, true_or, or_false, false_or, not_true_eq_false, not_false_eq_true, Option.toList_some, Option.toList_none, List.cons_append, List.nil_append, List.map_nil, List.map_cons, List.sum_nil, List.sum_cons, cat_i, cat_l, cat_r, cat_n, Nat.reduceLeDiff, Nat.reduceAdd, Nat.reduceEqDiff, Nat.zero_le, p_ent, p_u_ne, p_u_at, reduceIte, if_true, if_false, hR1, va_rs, j2, b3, m_2, P_ce s279, P_ce s281, P_ce s46]
        exact ⟨J2, L2, ⟨ff, bb⟩, rfl⟩
      | some b =>
        rw [hO] at bb
        have b3 : J2 48 3 = nI b.1 := bb.1
        have bl := (bb.2 b.1 b.2 rfl).2.1
        show P_run _ _ _ _ _ _ _ _ (fun v h' => v = some (.int (nI 1)) ∧ _)
        generalize pc S = P at *
        generalize kn (I 125) 53 = m at *
        rw [P_run_eq, bk_45_1, pb_45_1]; simp -implicitDefEqProofs (disch := first | omega | decide) only [P_m, ↓P_run_eq _ 45 _ (p_bk 45 3), bk_45_3, pb_45_3, ↓P_run_eq _ 45 _ (p_bk 45 5), bk_45_5, pb_45_5, pw_iload_n3, pw_aload_n0, pw_aloadN_n0, pw_getR, pw_getI, pw_cge, pw_iload_n2, pw_ishr, pw_iconst, il_1, pw_iand, pw_zeq, pw_iast, pw_dupi, pw_dupr, pw_iadd, pw_putI, pw_nop, il_m1, pw_lconst, ll_0, pw_is2, pw_bipush, bl_m2, il_0, pw_iv4, pw_ceq, pw_goto, pw_ret1, kd_48, rf_48_0, rf_48_6, rf_48_7, rf_48_8, rf_48_9, rf_48_10, rf_48_12, rf_48_13, rf_48_14, rf_48_15, rf_48_1, rf_48_2, kd_67, kd_68, kd_71, rf_71_1, rf_71_3, rf_71_4, rf_71_5, rf_71_6, rf_71_11, rf_71_12, rf_71_14, n_0, n_1, nn_lt, nn_nlt, nn_le, nn_nle, nn_ne, nn_sub, nn_mul, nI_add, nn_neg, nm_eq, mn_eq, mm_eq, mn_lt, nm_lt, mn_le, nm_le, nn_sub0, nn_of, implies_true, nn_c, nn_in, nn_div, nat_rem, Nat.reduceMul, Nat.reduceSub, Nat.reduceDiv, Nat.reduceMod, pf_at, pf_ne, mk_s, mk_1, Classical.not_not, b2i_T, b2i_F, false_imp_iff, true_imp_iff, false_and, and_false, p_sw, Int.reduceAdd, Int.zero_add, Option.some.injEq, Value.int.injEq, Value.long.injEq, Value.ref.injEq, exists_eq_left', mk_I, mk_L, mk_wI, mk_wL, rf_s, rf_n, true_and, and_true, and_self, or_true, true_or, or_false, false_or, not_true_eq_false, not_false_eq_true, Option.toList_some, Option.toList_none, List.cons_append, List.nil_append, List.map_nil, List.map_cons, List.sum_nil, List.sum_cons, cat_i, cat_l, cat_r, cat_n, Nat.reduceLeDiff, Nat.reduceAdd, Nat.reduceEqDiff, Nat.zero_le, p_ent, p_u_ne, p_u_at, reduceIte, if_true, if_false, hR1, va_rs, j2, b3, m_2, P_ce s279, P_ce s281, P_ce s46]
        exact ⟨J2, L2, ⟨ff, bb⟩, rfl⟩
    · intro q hq nx J fJ e11 e65
      have q8 : q < 8 := by omega
      have j2 : J 71 2 = nI (kn (I 125) 53) := by rw [fJ 71 (by omega) (by omega)]; exact r2.trans m1
      have b5 := bit_n (s := S) (t := q) (by omega) q8
      have rs : rk S (q + 1) = rk S q + bt S q := rfl
      rw [rs] at nx
      rcases bt_01 S q with e | e
      · rw [e] at b5 nx
        replace nx := nx J fJ e11 e65
        generalize layR R (fRef R 71 (I 125)) = RR at *
        generalize orB c (I 125) S = Z at *
        generalize pc S = P at *
        generalize kn (I 125) 53 = m at *
        generalize rk S q = k at *
        rw [P_run_eq, bk_45_1, pb_45_1]; simp -implicitDefEqProofs (disch := first | omega | decide) only [P_m, ↓P_run_eq _ 45 _ (p_bk 45 2), bk_45_2, pb_45_2, pw_iload_n3, pw_aload_n0, pw_aloadN_n0, pw_getR, pw_getI, pw_cge, pw_iload_n2, pw_ishr, pw_iconst, il_1, pw_iand, pw_zeq, pw_iast, pw_dupi, pw_dupr, pw_iadd, pw_putI, pw_nop, pw_iinc_3, po_i3, po_r3, po_n3, po_u3, pw_goto, kd_48, rf_48_0, rf_48_6, rf_48_7, rf_48_8, rf_48_9, rf_48_10, rf_48_12, rf_48_13, rf_48_14, rf_48_15, rf_48_1, rf_48_2, kd_71, rf_71_1, rf_71_3, rf_71_4, rf_71_5, rf_71_6, rf_71_11, rf_71_12, rf_71_14, n_0, n_1, nn_lt, nn_nlt, nn_le, nn_nle, nn_ne, nn_sub, nn_mul, nI_add, nn_neg, nm_eq, mn_eq, mm_eq, mn_lt, nm_lt, mn_le, nm_le, nn_sub0, nn_of, implies_true, nn_c, nn_in, nn_div, nat_rem, Nat.reduceMul, Nat.reduceSub, Nat.reduceDiv, Nat.reduceMod, pf_at, pf_ne, mk_s, mk_1, Classical.not_not, b2i_T, b2i_F, false_imp_iff, true_imp_iff, false_and, and_false, p_sw, Int.reduceAdd, Int.zero_add, Option.some.injEq, Value.int.injEq, Value.long.injEq, Value.ref.injEq, exists_eq_left', mk_I, mk_L, mk_wI, mk_wL, rf_s, rf_n, true_and, and_true, and_self, or_true, true_or, or_false, false_or, not_true_eq_false, not_false_eq_true, Option.toList_some, Option.toList_none, List.cons_append, List.nil_append, List.map_nil, List.map_cons, List.sum_nil, List.sum_cons, cat_i, cat_l, cat_r, cat_n, Nat.reduceLeDiff, Nat.reduceAdd, Nat.reduceEqDiff, Nat.zero_le, p_ent, p_u_ne, p_u_at, reduceIte, if_true, if_false, hR1, va_rs, j2, b5]
        exact nx
      · rw [e] at b5 nx
        have rl := rk_lt S (by omega) q q8 e
        replace nx := nx (p_u (p_u J 65 (rk S q) (nI q)) 48 11 (nI (rk S q + 1))) (fun a a1 a2 => by rw [p_u_ne a1, p_u_ne a2]; exact fJ a a1 a2) (by rw [p_u_at, if_pos rfl]) (fun j hj => by
          rw [p_u_ne (by omega), p_u_at]
          by_cases ej : j = rk S q
          · rw [if_pos ej, ej, tq_rk S (by omega) q q8 e]
          · rw [if_neg ej]; exact e65 j (by omega))
        have e11' : p_u J 65 (rk S q) (nI q) 48 11 = nI (rk S q) := by rw [p_u_ne (by omega)]; exact e11
        generalize layR R (fRef R 71 (I 125)) = RR at *
        generalize orB c (I 125) S = Z at *
        generalize pc S = P at *
        generalize kn (I 125) 53 = m at *
        generalize rk S q = k at *
        rw [P_run_eq, bk_45_1, pb_45_1]; simp -implicitDefEqProofs (disch := first | omega | decide) only [P_m, ↓P_run_eq _ 45 _ (p_bk 45 2), bk_45_2, pb_45_2, pw_iload_n3, pw_aload_n0, pw_aloadN_n0, pw_getR, pw_getI, pw_cge, pw_iload_n2, pw_ishr, pw_iconst, il_1, pw_iand, pw_zeq, pw_iast, pw_dupi, pw_dupr, pw_iadd, pw_putI, pw_nop, pw_iinc_3, po_i3, po_r3, po_n3, po_u3, pw_goto, kd_48, rf_48_0, rf_48_6, rf_48_7, rf_48_8, rf_48_9, rf_48_10, rf_48_12, rf_48_13, rf_48_14, rf_48_15, rf_48_1, rf_48_2, kd_65, kd_71, rf_71_1, rf_71_3, rf_71_4, rf_71_5, rf_71_6, rf_71_11, rf_71_12, rf_71_14, n_0, n_1, nn_lt, nn_nlt, nn_le, nn_nle, nn_ne, nn_sub, nn_mul, nI_add, nn_neg, nm_eq, mn_eq, mm_eq, mn_lt, nm_lt, mn_le, nm_le, nn_sub0, nn_of, implies_true, nn_c, nn_in, nn_div, nat_rem, Nat.reduceMul, Nat.reduceSub, Nat.reduceDiv, Nat.reduceMod, pf_at, pf_ne, mk_s, mk_1, Classical.not_not, b2i_T, b2i_F, false_imp_iff, true_imp_iff, false_and, and_false, p_sw, Int.reduceAdd, Int.zero_add, Option.some.injEq, Value.int.injEq, Value.long.injEq, Value.ref.injEq, exists_eq_left', mk_I, mk_L, mk_wI, mk_wL, rf_s, rf_n, true_and, and_true, and_self, or_true, true_or, or_false, false_or, not_true_eq_false, not_false_eq_true, Option.toList_some, Option.toList_none, List.cons_append, List.nil_append, List.map_nil, List.map_cons, List.sum_nil, List.sum_cons, cat_i, cat_l, cat_r, cat_n, Nat.reduceLeDiff, Nat.reduceAdd, Nat.reduceEqDiff, Nat.zero_le, p_ent, p_u_ne, p_u_at, reduceIte, if_true, if_false, hR1, va_rs, j2, b5, e11, e11']
        exact nx
  have st := loop 0 (by omega) (p_u I 48 11 (nI 0)) (fun a a1 _ => p_u_ne a1) (by rw [p_u_at, if_pos rfl]; rfl) (fun j hj => absurd hj (by unfold rk; omega))
  have all : P_m (d + 15) 45 [.ref 48, .ref 71, .int (nI S)] (p_mk Ls I L R X) (fun v h' => v = some (.int (nI (bN (orB c (I 125) S).isSome))) ∧ ∃ J' L', (frOD I J' ∧ bcl J' (orB c (I 125) S) (pc S)) ∧ h' = p_mk Ls J' L' (layR R (fRef R 71 (I 125))) X) := by
    generalize layR R (fRef R 71 (I 125)) = RR at *
    generalize orB c (I 125) S = Z at *
    generalize pc S = P at *
    generalize fRef R 71 (I 125) = r at *
    simp -implicitDefEqProofs (disch := first | omega | decide) only [P_m, ↓P_run_eq _ 45 _ (p_bk 45 0), bk_45_0, pb_45_0, pw_aload_n0, pw_aloadN_n0, pw_aload_n1, pw_aloadN_n1, pw_iv1, pw_iv3, pw_iconst, il_0, pw_putI, pw_istore_n3, ps_3, pe_3, po_i3, po_r3, po_n3, po_u3, pw_nop, kd_48, rf_48_0, rf_48_6, rf_48_7, rf_48_8, rf_48_9, rf_48_10, rf_48_12, rf_48_13, rf_48_14, rf_48_15, rf_48_1, rf_48_2, kd_71, rf_71_1, rf_71_3, rf_71_4, rf_71_5, rf_71_6, rf_71_11, rf_71_12, rf_71_14, n_0, n_1, nn_lt, nn_nlt, nn_le, nn_nle, nn_ne, nn_sub, nn_mul, nI_add, nn_neg, nm_eq, mn_eq, mm_eq, mn_lt, nm_lt, mn_le, nm_le, nn_sub0, nn_of, implies_true, nn_c, nn_in, nn_div, nat_rem, Nat.reduceMul, Nat.reduceSub, Nat.reduceDiv, Nat.reduceMod, pf_at, pf_ne, mk_s, mk_1, Classical.not_not, b2i_T, b2i_F, false_imp_iff, true_imp_iff, false_and, and_false, p_sw, Int.reduceAdd, Int.zero_add, Option.some.injEq, Value.int.injEq, Value.long.injEq, Value.ref.injEq, exists_eq_left', mk_I, mk_L, mk_wI, mk_wL, rf_s, rf_n, true_and, and_true, and_self, or_true, true_or, or_false, false_or, not_true_eq_false, not_false_eq_true, Option.toList_some, Option.toList_none, List.cons_append, List.nil_append, List.map_nil, List.map_cons, List.sum_nil, List.sum_cons, cat_i, cat_l, cat_r, cat_n, Nat.reduceLeDiff, Nat.reduceAdd, Nat.reduceEqDiff, Nat.zero_le, p_ent, p_u_ne, p_u_at, reduceIte, if_true, if_false, va_rf_c, P_ce s2, P_ce s34 (rr _)]
    exact st
  obtain ⟨v, g', ⟨rfl, J', L', ⟨f2, f3⟩, rfl⟩, s⟩ := P_mex all
  exact ⟨J', L', f2, f3, s⟩
end OK
