theorem m1_le : mI 1 ≤ mI 1 := by decide
section OL
variable {d Ls : Nat} {I : Nat → Nat → Int32} {L : Nat → Nat → Int64} {R : Nat → Nat → Option Nat} {X : List pKd} {h : pHp} {c : Option (List tCl)}
theorem Inv_D {J : Nat → Nat → Int32} {r : Option Nat} (H : Inv I R X) (h : frOD I J) : Inv J (layR R r) X := by
  refine Inv_R (Inv_sc H (fun a ha => ?_) (fun k _ => by rw [h 32 (by omega) (by omega) (by omega) (by omega) (by omega) (by omega) (by omega)]) (fun k _ => by rw [h 123 (by omega) (by omega) (by omega) (by omega) (by omega) (by omega) (by omega)])) (fun a ha => layR_ne (by omega))
  unfold kcell at ha
  exact h a (by omega) (by omega) (by omega) (by omega) (by omega) (by omega) (by omega)
theorem Inv_O {J : Nat → Nat → Int32} (H : Inv I R X) (h : frO I J) : Inv J R X := by
  refine Inv_sc H (fun a ha => ?_) (fun k _ => by rw [h.1 32 (by omega) (by omega) (by omega) (by omega)]) (fun k hk => h.2 k (by omega) (by omega) (by omega) (by omega) (by omega))
  unfold kcell at ha
  exact h.1 a (by omega) (by omega) (by omega) (by omega)
theorem orB_r {c : Option (List tCl)} {K : Nat → Int32} {S m : Nat} (hm : m ≤ 8) (hS : S < 2 ^ m) : orB c K S = dfs id (yL c K) m (pc S) (255 - S) 0 [] none := by
  have pm : 2 ^ m ≤ 2 ^ 8 := Nat.pow_le_pow_right (by omega) hm
  refine dfs_rx (yq := yL c K) hm hS (pc S) 0 (255 - S) 0 [] none (by omega) (by omega) (fun i hi => ?_) (fun q hq hb => ?_)
  · obtain ⟨t1, t2, t3⟩ := tq_in S (by omega) i hi
    rw [bt_255 S (by omega) _ t1, t2]
    unfold bt
    rw [Nat.zero_div]
  · rw [bt_255 S (by omega) q hq, hb]
/-- the answer of order: years or a question of the row -/
def orA (b : oB) (x : Option Nat) : Int32 := match b, x with
  | none, _ => mI 1
  | some b, none => nI b.1
  | some b, some j => nI (b.2.getD j 0)
theorem c_106 {S : Nat} {x : Option Nat} (hx : Cx Ls I R X c) (h9 : I 1 2 = nI 9999) (hS : S < 2 ^ kn (I 125) 53) (hP : pc S ≤ 7) (hj : ∀ j, x = some j → j < pc S) : ∃ J L', frOD I J ∧ P_m (d + 16) 106 [.ref 32, .int (nI S), .int (pnI x)] (p_mk Ls I L R X) (fun v h' => v = some (.int (orA (orB c (I 125) S) x)) ∧ h' = p_mk Ls J L' (layR R (fRef R 71 (I 125))) X) := by
  have hV := hx.2.2.1
  have m2 := (kn_53 hV).2
  have m1 := (kn_53 hV).1
  have pm : 2 ^ kn (I 125) 53 ≤ 2 ^ 8 := Nat.pow_le_pow_right (by omega) m2
  obtain ⟨⟨r1, r2, r3, r4, r5, r6, r7, r8⟩, -, ra, -⟩ := hutR_at hx.1
  have j2 : I 71 2 = nI (kn (I 125) 53) := r2.trans m1
  obtain ⟨J, L', f1, b1, s45⟩ := pl_45 (d := d) (L := L) hx h9 hS hP
  refine ⟨J, L', f1, ?_⟩
  have s266 := sp_266n (d := d + 15) (h := p_mk Ls I L R X) (s := S) (by omega)
  have sr : nI S >>> (nI (kn (I 125) 53) &&& 31) = nI 0 := by
    rw [pk_shrN (by omega) _ (kn (I 125) 53) (sl_31 _ (by omega)), Nat.div_eq_of_lt hS]
  generalize layR R (fRef R 71 (I 125)) = RR at *
  cases hO : orB c (I 125) S with
  | none =>
    rw [hO] at s45
    replace s45 : P_m (d + 15) 45 [.ref 48, .ref 71, .int (nI S)] (p_mk Ls I L R X) (fun v h' => v = some (.int (nI 0)) ∧ h' = p_mk Ls J L' RR X) := s45
    generalize kn (I 125) 53 = m at *
    cases x with
    | none =>
      show P_m _ _ [.ref 32, .int (nI S), .int (mI 1)] _ (fun v h' => v = some (.int (mI 1)) ∧ _)
      generalize pc S = P at *
      simp -implicitDefEqProofs (disch := first | omega | decide) only [P_m, ↓P_run_eq _ 106 _ (p_bk 106 0), bk_106_0, pb_106_0, ↓P_run_eq _ 106 _ (p_bk 106 2), bk_106_2, pb_106_2, ↓P_run_eq _ 106 _ (p_bk 106 3), bk_106_3, pb_106_3, pw_iload_n1, pw_zlt, pw_aload_n0, pw_aloadN_n0, pw_getR, pw_getI, pw_ishr, pw_zne, pw_iload_n2, pw_iconst, il_m1, pw_cge, pw_nop, pw_is1, pw_istore_n3, ps_3, pe_3, po_i3, po_r3, po_n3, po_u3, pw_iload_n3, pw_bipush, bl_7, pw_cgt, pw_iv3, pw_ret0, kd_32, rf_32_0, rf_32_1, rf_32_2, rf_32_3, rf_32_4, rf_32_5, rf_32_6, rf_32_7, rf_32_8, rf_32_9, rf_32_11, rf_32_12, rf_32_13, kd_48, rf_48_0, rf_48_6, rf_48_7, rf_48_8, rf_48_9, rf_48_10, rf_48_12, rf_48_13, rf_48_14, rf_48_15, rf_48_1, rf_48_2, kd_71, rf_71_1, rf_71_3, rf_71_4, rf_71_5, rf_71_6, rf_71_11, rf_71_12, rf_71_14, n_0, n_1, n_7, nn_lt, nn_nlt, nn_le, nn_nle, nn_ne, nn_sub, nn_mul, nI_add, nn_neg, nm_eq, mn_eq, mm_eq, mn_lt, nm_lt, mn_le, nm_le, nn_sub0, nn_of, implies_true, nn_c, nn_in, nn_div, nat_rem, Nat.reduceMul, Nat.reduceSub, Nat.reduceDiv, Nat.reduceMod, pf_at, pf_ne, mk_s, mk_1, Classical.not_not, b2i_T, b2i_F, false_imp_iff, true_imp_iff, false_and, and_false, p_sw, Int.reduceAdd, Int.zero_add, Option.some.injEq, Value.int.injEq, Value.long.injEq, Value.ref.injEq, exists_eq_left', mk_I, mk_L, mk_wI, mk_wL, rf_s, rf_n, true_and, and_true, and_self, or_true, true_or, or_false, false_or, not_true_eq_false, not_false_eq_true, Option.toList_some, Option.toList_none, List.cons_append, List.nil_append, List.map_nil, List.map_cons, List.sum_nil, List.sum_cons, cat_i, cat_l, cat_r, cat_n, Nat.reduceLeDiff, Nat.reduceAdd, Nat.reduceEqDiff, Nat.zero_le, p_ent, p_u_ne, p_u_at, reduceIte, if_true, if_false, j2, sr, m1_le, P_ce s266, P_ce s45]
    | some j =>
      have hj := hj j rfl
      show P_m _ _ [.ref 32, .int (nI S), .int (nI j)] _ (fun v h' => v = some (.int (mI 1)) ∧ _)
      generalize pc S = P at *
      simp -implicitDefEqProofs (disch := first | omega | decide) only [P_m, ↓P_run_eq _ 106 _ (p_bk 106 0), bk_106_0, pb_106_0, ↓P_run_eq _ 106 _ (p_bk 106 2), bk_106_2, pb_106_2, ↓P_run_eq _ 106 _ (p_bk 106 3), bk_106_3, pb_106_3, pw_iload_n1, pw_zlt, pw_aload_n0, pw_aloadN_n0, pw_getR, pw_getI, pw_ishr, pw_zne, pw_iload_n2, pw_iconst, il_m1, pw_cge, pw_nop, pw_is1, pw_istore_n3, ps_3, pe_3, po_i3, po_r3, po_n3, po_u3, pw_iload_n3, pw_bipush, bl_7, pw_cgt, pw_iv3, pw_ret0, kd_32, rf_32_0, rf_32_1, rf_32_2, rf_32_3, rf_32_4, rf_32_5, rf_32_6, rf_32_7, rf_32_8, rf_32_9, rf_32_11, rf_32_12, rf_32_13, kd_48, rf_48_0, rf_48_6, rf_48_7, rf_48_8, rf_48_9, rf_48_10, rf_48_12, rf_48_13, rf_48_14, rf_48_15, rf_48_1, rf_48_2, kd_71, rf_71_1, rf_71_3, rf_71_4, rf_71_5, rf_71_6, rf_71_11, rf_71_12, rf_71_14, n_0, n_1, n_7, nn_lt, nn_nlt, nn_le, nn_nle, nn_ne, nn_sub, nn_mul, nI_add, nn_neg, nm_eq, mn_eq, mm_eq, mn_lt, nm_lt, mn_le, nm_le, nn_sub0, nn_of, implies_true, nn_c, nn_in, nn_div, nat_rem, Nat.reduceMul, Nat.reduceSub, Nat.reduceDiv, Nat.reduceMod, pf_at, pf_ne, mk_s, mk_1, Classical.not_not, b2i_T, b2i_F, false_imp_iff, true_imp_iff, false_and, and_false, p_sw, Int.reduceAdd, Int.zero_add, Option.some.injEq, Value.int.injEq, Value.long.injEq, Value.ref.injEq, exists_eq_left', mk_I, mk_L, mk_wI, mk_wL, rf_s, rf_n, true_and, and_true, and_self, or_true, true_or, or_false, false_or, not_true_eq_false, not_false_eq_true, Option.toList_some, Option.toList_none, List.cons_append, List.nil_append, List.map_nil, List.map_cons, List.sum_nil, List.sum_cons, cat_i, cat_l, cat_r, cat_n, Nat.reduceLeDiff, Nat.reduceAdd, Nat.reduceEqDiff, Nat.zero_le, p_ent, p_u_ne, p_u_at, reduceIte, if_true, if_false, j2, sr, P_ce s266, P_ce s45]
  | some b =>
    rw [hO] at s45 b1
    replace s45 : P_m (d + 15) 45 [.ref 48, .ref 71, .int (nI S)] (p_mk Ls I L R X) (fun v h' => v = some (.int (nI 1)) ∧ h' = p_mk Ls J L' RR X) := s45
    obtain ⟨b2, b3⟩ := b1
    obtain ⟨-, b4, b5⟩ := b3 b.1 b.2 rfl
    replace b2 : J 48 3 = nI b.1 := b2
    generalize kn (I 125) 53 = m at *
    cases x with
    | none =>
      show P_m _ _ [.ref 32, .int (nI S), .int (mI 1)] _ (fun v h' => v = some (.int (nI b.1)) ∧ _)
      generalize pc S = P at *
      simp -implicitDefEqProofs (disch := first | omega | decide) only [P_m, ↓P_run_eq _ 106 _ (p_bk 106 0), bk_106_0, pb_106_0, ↓P_run_eq _ 106 _ (p_bk 106 2), bk_106_2, pb_106_2, ↓P_run_eq _ 106 _ (p_bk 106 4), bk_106_4, pb_106_4, ↓P_run_eq _ 106 _ (p_bk 106 6), bk_106_6, pb_106_6, pw_iload_n1, pw_zlt, pw_aload_n0, pw_aloadN_n0, pw_getR, pw_getI, pw_ishr, pw_zne, pw_iload_n2, pw_iconst, il_m1, pw_cge, pw_nop, pw_is1, pw_istore_n3, ps_3, pe_3, po_i3, po_r3, po_n3, po_u3, pw_iload_n3, pw_bipush, bl_7, pw_cgt, pw_iv3, pw_cne, pw_goto, pw_ret0, kd_32, rf_32_0, rf_32_1, rf_32_2, rf_32_3, rf_32_4, rf_32_5, rf_32_6, rf_32_7, rf_32_8, rf_32_9, rf_32_11, rf_32_12, rf_32_13, kd_48, rf_48_0, rf_48_6, rf_48_7, rf_48_8, rf_48_9, rf_48_10, rf_48_12, rf_48_13, rf_48_14, rf_48_15, rf_48_1, rf_48_2, kd_71, rf_71_1, rf_71_3, rf_71_4, rf_71_5, rf_71_6, rf_71_11, rf_71_12, rf_71_14, n_0, n_1, n_7, nn_lt, nn_nlt, nn_le, nn_nle, nn_ne, nn_sub, nn_mul, nI_add, nn_neg, nm_eq, mn_eq, mm_eq, mn_lt, nm_lt, mn_le, nm_le, nn_sub0, nn_of, implies_true, nn_c, nn_in, nn_div, nat_rem, Nat.reduceMul, Nat.reduceSub, Nat.reduceDiv, Nat.reduceMod, pf_at, pf_ne, mk_s, mk_1, Classical.not_not, b2i_T, b2i_F, false_imp_iff, true_imp_iff, false_and, and_false, p_sw, Int.reduceAdd, Int.zero_add, Option.some.injEq, Value.int.injEq, Value.long.injEq, Value.ref.injEq, exists_eq_left', mk_I, mk_L, mk_wI, mk_wL, rf_s, rf_n, true_and, and_true, and_self, or_true, true_or, or_false, false_or, not_true_eq_false, not_false_eq_true, Option.toList_some, Option.toList_none, List.cons_append, List.nil_append, List.map_nil, List.map_cons, List.sum_nil, List.sum_cons, cat_i, cat_l, cat_r, cat_n, Nat.reduceLeDiff, Nat.reduceAdd, Nat.reduceEqDiff, Nat.zero_le, p_ent, p_u_ne, p_u_at, reduceIte, if_true, if_false, j2, sr, m1_le, b2, P_ce s266, P_ce s45]
    | some j =>
      have hj := hj j rfl
      have b6 := b5 j hj
      show P_m _ _ [.ref 32, .int (nI S), .int (nI j)] _ (fun v h' => v = some (.int (nI (b.2.getD j 0))) ∧ _)
      generalize b.2.getD j 0 = V at *
      generalize pc S = P at *
      simp -implicitDefEqProofs (disch := first | omega | decide) only [P_m, ↓P_run_eq _ 106 _ (p_bk 106 0), bk_106_0, pb_106_0, ↓P_run_eq _ 106 _ (p_bk 106 2), bk_106_2, pb_106_2, ↓P_run_eq _ 106 _ (p_bk 106 4), bk_106_4, pb_106_4, ↓P_run_eq _ 106 _ (p_bk 106 5), bk_106_5, pb_106_5, ↓P_run_eq _ 106 _ (p_bk 106 6), bk_106_6, pb_106_6, pw_iload_n1, pw_zlt, pw_aload_n0, pw_aloadN_n0, pw_getR, pw_getI, pw_ishr, pw_zne, pw_iload_n2, pw_iconst, il_m1, pw_cge, pw_nop, pw_is1, pw_istore_n3, ps_3, pe_3, po_i3, po_r3, po_n3, po_u3, pw_iload_n3, pw_bipush, bl_7, pw_cgt, pw_iv3, pw_cne, pw_goto, pw_iald, pw_ret0, kd_32, rf_32_0, rf_32_1, rf_32_2, rf_32_3, rf_32_4, rf_32_5, rf_32_6, rf_32_7, rf_32_8, rf_32_9, rf_32_11, rf_32_12, rf_32_13, kd_48, rf_48_0, rf_48_6, rf_48_7, rf_48_8, rf_48_9, rf_48_10, rf_48_12, rf_48_13, rf_48_14, rf_48_15, rf_48_1, rf_48_2, kd_61, kd_71, rf_71_1, rf_71_3, rf_71_4, rf_71_5, rf_71_6, rf_71_11, rf_71_12, rf_71_14, n_0, n_1, n_7, nn_lt, nn_nlt, nn_le, nn_nle, nn_ne, nn_sub, nn_mul, nI_add, nn_neg, nm_eq, mn_eq, mm_eq, mn_lt, nm_lt, mn_le, nm_le, nn_sub0, nn_of, implies_true, nn_c, nn_in, nn_div, nat_rem, Nat.reduceMul, Nat.reduceSub, Nat.reduceDiv, Nat.reduceMod, pf_at, pf_ne, mk_s, mk_1, Classical.not_not, b2i_T, b2i_F, false_imp_iff, true_imp_iff, false_and, and_false, p_sw, Int.reduceAdd, Int.zero_add, Option.some.injEq, Value.int.injEq, Value.long.injEq, Value.ref.injEq, exists_eq_left', mk_I, mk_L, mk_wI, mk_wL, rf_s, rf_n, true_and, and_true, and_self, or_true, true_or, or_false, false_or, not_true_eq_false, not_false_eq_true, Option.toList_some, Option.toList_none, List.cons_append, List.nil_append, List.map_nil, List.map_cons, List.sum_nil, List.sum_cons, cat_i, cat_l, cat_r, cat_n, Nat.reduceLeDiff, Nat.reduceAdd, Nat.reduceEqDiff, Nat.zero_le, p_ent, p_u_ne, p_u_at, reduceIte, if_true, if_false, j2, sr, b6, P_ce s266, P_ce s45]
theorem r_243 {S : Nat} {x : Option Nat} (hV : vld (I 125)) (hc : lawOf (I 125) c) (hS : S < 2 ^ kn (I 125) 53) (hP : pc S ≤ 7) (hj : ∀ j, x = some j → j < pc S) : ∃ J, frO I J ∧ P_m (d + 60) 243 [.ref 123, .int (nI S), .int (pnI x)] (p_mk Ls I L R X) (fun v h' => v = some (.int (orA (orB c (I 125) S) x)) ∧ h' = p_mk Ls J L R X) := by
  have m2 := (kn_53 hV).2
  have m1 := (kn_53 hV).1
  have g2 : I 125 2 = nI (kn (I 125) 2) ∧ kn (I 125) 2 ≤ 9999 := kn_e hV (by omega) (by omega) (by omega)
  have pm : 2 ^ kn (I 125) 53 ≤ 2 ^ 8 := Nat.pow_le_pow_right (by omega) m2
  have e125 : p_u I 123 36 (nI 1000000) 125 = I 125 := p_u_ne (by omega)
  obtain ⟨J, f1, f2, f3, s⟩ := pl_241 (Ls := Ls) (L := L) (R := R) (X := X) (c := c) (K0 := I 125) m2 m1 (show pc S ≤ 8 by omega) (pc S) S 0 [] none (I 125) (p_u I 123 36 (nI 1000000)) rfl hS (by simp) (by omega) ⟨e125, hV, hc⟩ (stK_0 hV hc) (fun j hj => absurd hj (by simp)) ⟨by rw [p_u_at, if_pos rfl]; rfl, fun t l hh => by cases hh⟩
  rw [← orB_r m2 hS] at f3
  replace s := P_mup s (show pc S + 50 ≤ d + 59 by omega)
  replace s : P_m (d + 59) 241 [.ref 123, .int (nI S), .int (nI 0), .int (nI (kn (I 125) 2))] (p_mk Ls (p_u I 123 36 (nI 1000000)) L R X) (fun w h' => w = none ∧ h' = p_mk Ls J L R X) := s
  have e2 : p_u I 123 36 (nI 1000000) 125 2 = nI (kn (I 125) 2) := by rw [e125]; exact g2.1
  refine ⟨J, ⟨fun a a1 a2 a3 a4 => by rw [f1.1 a a1 a2 a3 a4, p_u_ne a1], fun k k1 k2 k3 k4 k5 => by rw [f1.2 k k1 k2 k3 k4 k5, p_u_at, if_neg k5]⟩, ?_⟩
  have s242 : P_m (d + 59) 242 [.ref 123, .int (nI S)] (p_mk Ls I L R X) (fun v h' => v = some (.int (nI 1)) ∧ h' = p_mk Ls I L R X) := by
    rcases pl_242 (d := d + 58) (Ls := Ls) (I := I) (L := L) (R := R) (X := X) (x := nI S) m2 m1 with ⟨S', h1, h2, h3⟩ | ⟨h1, h3⟩
    · have : S' = S := by
        have h2 := congrArg Int32.toInt h2
        rw [nI_toInt (by omega), nI_toInt (by omega)] at h2
        omega
      subst this
      rw [decide_eq_true hP, bN_t] at h3
      exact h3
    · refine absurd ⟨?_, ?_⟩ h1
      · rw [Int32.le_iff_toInt_le, nI_toInt (by omega), nI_toInt (by omega)]; omega
      · rw [Int32.le_iff_toInt_le, nI_toInt (by omega), nI_toInt (by omega)]; omega
  have s132 := sp_132n (d := d + 59) (h := p_mk Ls I L R X) (s := S) (by omega)
  have s125 := sp_125 (d := d + 59) (h := p_mk Ls I L R X) (pnI x) (mI 1) (nI (pc S) - nI 1)
  have hin : mI 1 ≤ pnI x ∧ pnI x ≤ nI (pc S) - nI 1 := by
    have pl := pc_le S
    cases x with
    | none =>
      have : ∀ p, p ≤ 8 → mI 1 ≤ mI 1 ∧ mI 1 ≤ nI p - nI 1 := by decide
      exact this _ pl
    | some j =>
      have hj := hj j rfl
      have : ∀ p, p ≤ 8 → ∀ j, j < p → mI 1 ≤ nI j ∧ nI j ≤ nI p - nI 1 := by decide
      exact this _ pl j hj
  rw [show b2i (mI 1 ≤ pnI x ∧ pnI x ≤ nI (pc S) - nI 1) = nI 1 from b2i_t hin] at s125
  clear hin
  generalize hU : nI (pc S) - nI 1 = U at s125
  cases hO : orB c (I 125) S with
  | none =>
    rw [hO] at f3
    have j36 : J 123 36 = nI 1000000 := f3.1
    show P_m _ _ _ _ (fun v h' => v = some (.int (mI 1)) ∧ _)
    clear f3 f1 f2 hj
    generalize kn (I 125) 2 = A at *
    generalize pc S = P at *
    generalize pnI x = PX at *
    simp -implicitDefEqProofs (disch := first | omega | decide) only [P_m, ↓P_run_eq _ 243 _ (p_bk 243 0), bk_243_0, pb_243_0, ↓P_run_eq _ 243 _ (p_bk 243 2), bk_243_2, pb_243_2, pw_aload_n0, pw_aloadN_n0, pw_iload_n1, pw_iv2, pw_zeq, pw_iload_n2, pw_iconst, il_m1, pw_is1, il_1, pw_isub, pw_is3, pw_zne, pw_nop, pw_ldc, cn_6, pw_putI, il_0, pw_getR, il_2, pw_iald, pw_iv4, pw_getI, pw_cne, pw_ret0, kd_123, rf_123_1, rf_123_2, rf_123_3, rf_123_4, rf_123_5, rf_123_7, rf_123_11, rf_123_12, rf_123_15, rf_123_16, rf_123_17, rf_123_26, rf_123_29, rf_123_30, rf_123_32, rf_123_34, rf_123_35, rf_123_45, kd_125, n_0, n_1, n_2, nn_lt, nn_nlt, nn_le, nn_nle, nn_ne, nn_sub, nn_mul, nI_add, nn_neg, nm_eq, mn_eq, mm_eq, mn_lt, nm_lt, mn_le, nm_le, nn_sub0, nn_of, implies_true, nn_c, nn_in, nn_div, nat_rem, Nat.reduceMul, Nat.reduceSub, Nat.reduceDiv, Nat.reduceMod, pf_at, pf_ne, mk_s, mk_1, Classical.not_not, b2i_T, b2i_F, false_imp_iff, true_imp_iff, false_and, and_false, p_sw, Int.reduceAdd, Int.zero_add, Option.some.injEq, Value.int.injEq, Value.long.injEq, Value.ref.injEq, exists_eq_left', mk_I, mk_L, mk_wI, mk_wL, rf_s, rf_n, true_and, and_true, and_self, or_true, true_or, or_false, false_or, not_true_eq_false, not_false_eq_true, Option.toList_some, Option.toList_none, List.cons_append, List.nil_append, List.map_nil, List.map_cons, List.sum_nil, List.sum_cons, cat_i, cat_l, cat_r, cat_n, Nat.reduceLeDiff, Nat.reduceAdd, Nat.reduceEqDiff, Nat.zero_le, p_ent, p_u_ne, p_u_at, reduceIte, if_true, if_false, n_1000000, hU, j36, e2, P_ce s242, P_ce s132, P_ce s125, P_ce s]
  | some b =>
    rw [hO] at f3
    have j36 : J 123 36 = nI b.1 := f3.1
    obtain ⟨-, b4, b5⟩ := f3.2 b.1 b.2 rfl
    cases x with
    | none =>
      show P_m _ _ [.ref 123, .int (nI S), .int (mI 1)] _ (fun v h' => v = some (.int (nI b.1)) ∧ _)
      replace s125 : P_m (d + 59) 125 [.int (mI 1), .int (mI 1), .int U] (p_mk Ls I L R X) (fun v h' => v = some (.int (nI 1)) ∧ h' = p_mk Ls I L R X) := s125
      clear f3 f1 f2 hj b5
      generalize kn (I 125) 2 = A at *
      generalize pc S = P at *
      generalize b.1 = B at *
      simp -implicitDefEqProofs (disch := first | omega | decide) only [P_m, ↓P_run_eq _ 243 _ (p_bk 243 0), bk_243_0, pb_243_0, ↓P_run_eq _ 243 _ (p_bk 243 2), bk_243_2, pb_243_2, ↓P_run_eq _ 243 _ (p_bk 243 3), bk_243_3, pb_243_3, ↓P_run_eq _ 243 _ (p_bk 243 5), bk_243_5, pb_243_5, pw_aload_n0, pw_aloadN_n0, pw_iload_n1, pw_iv2, pw_zeq, pw_iload_n2, pw_iconst, il_m1, pw_is1, il_1, pw_isub, pw_is3, pw_zne, pw_nop, pw_ldc, cn_6, pw_putI, il_0, pw_getR, il_2, pw_iald, pw_iv4, pw_getI, pw_cne, pw_ret0, pw_goto, kd_123, rf_123_1, rf_123_2, rf_123_3, rf_123_4, rf_123_5, rf_123_7, rf_123_11, rf_123_12, rf_123_15, rf_123_16, rf_123_17, rf_123_26, rf_123_29, rf_123_30, rf_123_32, rf_123_34, rf_123_35, rf_123_45, kd_125, n_0, n_1, n_2, nn_lt, nn_nlt, nn_le, nn_nle, nn_ne, nn_sub, nn_mul, nI_add, nn_neg, nm_eq, mn_eq, mm_eq, mn_lt, nm_lt, mn_le, nm_le, nn_sub0, nn_of, implies_true, nn_c, nn_in, nn_div, nat_rem, Nat.reduceMul, Nat.reduceSub, Nat.reduceDiv, Nat.reduceMod, pf_at, pf_ne, mk_s, mk_1, Classical.not_not, b2i_T, b2i_F, false_imp_iff, true_imp_iff, false_and, and_false, p_sw, Int.reduceAdd, Int.zero_add, Option.some.injEq, Value.int.injEq, Value.long.injEq, Value.ref.injEq, exists_eq_left', mk_I, mk_L, mk_wI, mk_wL, rf_s, rf_n, true_and, and_true, and_self, or_true, true_or, or_false, false_or, not_true_eq_false, not_false_eq_true, Option.toList_some, Option.toList_none, List.cons_append, List.nil_append, List.map_nil, List.map_cons, List.sum_nil, List.sum_cons, cat_i, cat_l, cat_r, cat_n, Nat.reduceLeDiff, Nat.reduceAdd, Nat.reduceEqDiff, Nat.zero_le, p_ent, p_u_ne, p_u_at, reduceIte, if_true, if_false, n_1000000, hU, j36, e2, P_ce s242, P_ce s132, P_ce s125, P_ce s]
    | some j =>
      have hj := hj j rfl
      have b6 := b5 j hj
      show P_m _ _ [.ref 123, .int (nI S), .int (nI j)] _ (fun v h' => v = some (.int (nI (b.2.getD j 0))) ∧ _)
      replace s125 : P_m (d + 59) 125 [.int (nI j), .int (mI 1), .int U] (p_mk Ls I L R X) (fun v h' => v = some (.int (nI 1)) ∧ h' = p_mk Ls I L R X) := s125
      clear f3 f1 f2 b5
      generalize b.2.getD j 0 = V at *
      generalize kn (I 125) 2 = A at *
      generalize pc S = P at *
      generalize b.1 = B at *
      simp -implicitDefEqProofs (disch := first | omega | decide) only [P_m, ↓P_run_eq _ 243 _ (p_bk 243 0), bk_243_0, pb_243_0, ↓P_run_eq _ 243 _ (p_bk 243 2), bk_243_2, pb_243_2, ↓P_run_eq _ 243 _ (p_bk 243 3), bk_243_3, pb_243_3, ↓P_run_eq _ 243 _ (p_bk 243 4), bk_243_4, pb_243_4, ↓P_run_eq _ 243 _ (p_bk 243 5), bk_243_5, pb_243_5, pw_aload_n0, pw_aloadN_n0, pw_iload_n1, pw_iv2, pw_zeq, pw_iload_n2, pw_iconst, il_m1, pw_is1, il_1, pw_isub, pw_is3, pw_zne, pw_nop, pw_ldc, cn_6, pw_putI, il_0, pw_getR, il_2, pw_iald, pw_iv4, pw_getI, pw_cne, pw_ret0, pw_goto, kd_123, rf_123_1, rf_123_2, rf_123_3, rf_123_4, rf_123_5, rf_123_7, rf_123_11, rf_123_12, rf_123_15, rf_123_16, rf_123_17, rf_123_26, rf_123_29, rf_123_30, rf_123_32, rf_123_34, rf_123_35, rf_123_45, kd_125, kd_140, n_0, n_1, n_2, nn_lt, nn_nlt, nn_le, nn_nle, nn_ne, nn_sub, nn_mul, nI_add, nn_neg, nm_eq, mn_eq, mm_eq, mn_lt, nm_lt, mn_le, nm_le, nn_sub0, nn_of, implies_true, nn_c, nn_in, nn_div, nat_rem, Nat.reduceMul, Nat.reduceSub, Nat.reduceDiv, Nat.reduceMod, pf_at, pf_ne, mk_s, mk_1, Classical.not_not, b2i_T, b2i_F, false_imp_iff, true_imp_iff, false_and, and_false, p_sw, Int.reduceAdd, Int.zero_add, Option.some.injEq, Value.int.injEq, Value.long.injEq, Value.ref.injEq, exists_eq_left', mk_I, mk_L, mk_wI, mk_wL, rf_s, rf_n, true_and, and_true, and_self, or_true, true_or, or_false, false_or, not_true_eq_false, not_false_eq_true, Option.toList_some, Option.toList_none, List.cons_append, List.nil_append, List.map_nil, List.map_cons, List.sum_nil, List.sum_cons, cat_i, cat_l, cat_r, cat_n, Nat.reduceLeDiff, Nat.reduceAdd, Nat.reduceEqDiff, Nat.zero_le, p_ent, p_u_ne, p_u_at, reduceIte, if_true, if_false, n_1000000, hU, j36, e2, b6, P_ce s242, P_ce s132, P_ce s125, P_ce s]
theorem q_order (x y : Int32) (H : Inv I R X) : Same (d + 60) 106 243 [.int x, .int y] Ls (p_mk Ls I L R X) := by
  obtain ⟨c, hx⟩ := Inv_cx (Ls := Ls) H
  have hV := hx.2.2.1
  have h9 : I 1 2 = nI 9999 := H.1.2.1.2.2
  have m2 := (kn_53 hV).2
  have m1 := (kn_53 hV).1
  have pm : 2 ^ kn (I 125) 53 ≤ 2 ^ 8 := Nat.pow_le_pow_right (by omega) m2
  obtain ⟨⟨r1, r2, r3, r4, r5, r6, r7, r8⟩, -, ra, -⟩ := hutR_at hx.1
  have j2 : I 71 2 = nI (kn (I 125) 53) := r2.trans m1
  unfold Same
  rcases pl_242 (d := d + 58) (Ls := Ls) (I := I) (L := L) (R := R) (X := X) (x := x) m2 m1 with ⟨S, hS, rfl, s242⟩ | ⟨hn, s242⟩
  · have pl := pc_le S
    have sr : nI S >>> (nI (kn (I 125) 53) &&& 31) = nI 0 := by
      rw [pk_shrN (by omega) _ (kn (I 125) 53) (sl_31 _ (by omega)), Nat.div_eq_of_lt hS]
    have s266 := sp_266n (d := d + 59) (h := p_mk Ls I L R X) (s := S) (by omega)
    have s132 := sp_132n (d := d + 59) (h := p_mk Ls I L R X) (s := S) (by omega)
    by_cases hP : pc S ≤ 7
    · rw [decide_eq_true hP, bN_t] at s242
      by_cases hy : ∃ z : Option Nat, y = pnI z ∧ ∀ j, z = some j → j < pc S
      · obtain ⟨z, rfl, hz⟩ := hy
        obtain ⟨J, L', f1, s1⟩ := c_106 (d := d + 44) (L := L) hx h9 hS hP hz
        refine p_run_Q s1 ?_
        rintro _ _ ⟨rfl, rfl⟩
        refine ⟨_, rfl, ?_⟩
        have H1 := Inv_D (r := fRef R 71 (I 125)) H f1
        have e125 : J 125 = I 125 := f1 125 (by omega) (by omega) (by omega) (by omega) (by omega) (by omega) (by omega)
        obtain ⟨J2, f2, s2⟩ := r_243 (d := d) (Ls := Ls) (I := J) (L := L') (R := layR R (fRef R 71 (I 125))) (X := X) (c := c) (S := S) (x := z) (by rw [e125]; exact hV) (by rw [e125]; exact hx.2.2.2.1) (by rw [e125]; exact hS) hP hz
        rw [e125] at s2
        refine p_run_Q s2 ?_
        rintro _ _ ⟨rfl, rfl⟩
        exact ⟨rfl, _, _, _, _, rfl, Inv_O H1 f2⟩
      · have s125 := sp_125 (d := d + 59) (h := p_mk Ls I L R X) y (mI 1) (nI (pc S) - nI 1)
        have hy2 : y < mI 1 ∨ ∃ j, y = nI j ∧ pc S ≤ j ∧ j < 2147483648 := by
          by_cases c1 : y < mI 1
          · exact Or.inl c1
          · by_cases c2 : y < nI 0
            · refine absurd ⟨none, ?_, fun j hj => by cases hj⟩ hy
              show y = mI 1
              rw [Int32.lt_iff_toInt_lt] at c1 c2
              refine Int32.toInt_inj.mp ?_
              rw [show (mI 1).toInt = -1 from by decide] at *
              rw [show (nI 0).toInt = 0 from by decide] at c2
              omega
            · obtain ⟨j, j1, rfl⟩ := nI_of c2
              refine Or.inr ⟨j, rfl, Nat.not_lt.mp (fun h => hy ⟨some j, rfl, fun i hi => by cases hi; exact h⟩), by omega⟩
        have nin : ¬ (mI 1 ≤ y ∧ y ≤ nI (pc S) - nI 1) := by
          rintro ⟨a1, a2⟩
          rcases hy2 with c1 | ⟨j, rfl, c1, c2⟩
          · exact absurd c1 (Int32.not_lt.mpr a1)
          · rcases Nat.eq_zero_or_pos (pc S) with z | z
            · rw [z, show nI 0 - nI 1 = mI 1 from by decide, Int32.le_iff_toInt_le, nI_toInt (by omega), show (mI 1).toInt = -1 from by decide] at a2
              omega
            · rw [nn_sub z, Int32.le_iff_toInt_le, nI_toInt (by omega), nI_toInt (by omega)] at a2
              omega
        rw [show b2i (mI 1 ≤ y ∧ y ≤ nI (pc S) - nI 1) = nI 0 from b2i_f nin] at s125
        clear nin hy
        generalize hU : nI (pc S) - nI 1 = U at s125
        generalize kn (I 125) 53 = m at *
        rcases hy2 with c1 | ⟨j, rfl, c1, c2⟩
        · have le1 : ¬ mI 1 ≤ y := Int32.not_le.mpr c1
          generalize pc S = P at *
          simp -implicitDefEqProofs (disch := first | omega | decide) only [P_m, ↓P_run_eq _ 106 _ (p_bk 106 0), bk_106_0, pb_106_0, ↓P_run_eq _ 106 _ (p_bk 106 1), bk_106_1, pb_106_1, ↓P_run_eq _ 243 _ (p_bk 243 0), bk_243_0, pb_243_0, ↓P_run_eq _ 243 _ (p_bk 243 1), bk_243_1, pb_243_1, pw_iload_n1, pw_zlt, pw_aload_n0, pw_aloadN_n0, pw_getR, pw_getI, pw_ishr, pw_zne, pw_iload_n2, pw_iconst, il_m1, pw_cge, pw_nop, pw_ret0, pw_iv2, pw_zeq, pw_is1, il_1, pw_isub, pw_is3, kd_32, rf_32_0, rf_32_1, rf_32_2, rf_32_3, rf_32_4, rf_32_5, rf_32_6, rf_32_7, rf_32_8, rf_32_9, rf_32_11, rf_32_12, rf_32_13, kd_71, rf_71_1, rf_71_3, rf_71_4, rf_71_5, rf_71_6, rf_71_11, rf_71_12, rf_71_14, kd_123, rf_123_1, rf_123_2, rf_123_3, rf_123_4, rf_123_5, rf_123_7, rf_123_11, rf_123_12, rf_123_15, rf_123_16, rf_123_17, rf_123_26, rf_123_29, rf_123_30, rf_123_32, rf_123_34, rf_123_35, rf_123_45, n_0, n_1, nn_lt, nn_nlt, nn_le, nn_nle, nn_ne, nn_sub, nn_mul, nI_add, nn_neg, nm_eq, mn_eq, mm_eq, mn_lt, nm_lt, mn_le, nm_le, nn_sub0, nn_of, implies_true, nn_c, nn_in, nn_div, nat_rem, Nat.reduceMul, Nat.reduceSub, Nat.reduceDiv, Nat.reduceMod, pf_at, pf_ne, mk_s, mk_1, Classical.not_not, b2i_T, b2i_F, false_imp_iff, true_imp_iff, false_and, and_false, p_sw, Int.reduceAdd, Int.zero_add, Option.some.injEq, Value.int.injEq, Value.long.injEq, Value.ref.injEq, exists_eq_left', mk_I, mk_L, mk_wI, mk_wL, rf_s, rf_n, true_and, and_true, and_self, or_true, true_or, or_false, false_or, not_true_eq_false, not_false_eq_true, Option.toList_some, Option.toList_none, List.cons_append, List.nil_append, List.map_nil, List.map_cons, List.sum_nil, List.sum_cons, cat_i, cat_l, cat_r, cat_n, Nat.reduceLeDiff, Nat.reduceAdd, Nat.reduceEqDiff, Nat.zero_le, p_ent, p_u_ne, p_u_at, reduceIte, if_true, if_false, j2, sr, c1, le1, hU, P_ce s242, P_ce s132, P_ce s125]
          exact ⟨_, _, _, _, rfl, H⟩
        · generalize pc S = P at *
          simp -implicitDefEqProofs (disch := first | omega | decide) only [P_m, ↓P_run_eq _ 106 _ (p_bk 106 0), bk_106_0, pb_106_0, ↓P_run_eq _ 106 _ (p_bk 106 2), bk_106_2, pb_106_2, ↓P_run_eq _ 106 _ (p_bk 106 3), bk_106_3, pb_106_3, ↓P_run_eq _ 243 _ (p_bk 243 0), bk_243_0, pb_243_0, ↓P_run_eq _ 243 _ (p_bk 243 1), bk_243_1, pb_243_1, pw_iload_n1, pw_zlt, pw_aload_n0, pw_aloadN_n0, pw_getR, pw_getI, pw_ishr, pw_zne, pw_iload_n2, pw_iconst, il_m1, pw_cge, pw_nop, pw_is1, pw_istore_n3, ps_3, pe_3, po_i3, po_r3, po_n3, po_u3, pw_iload_n3, pw_bipush, bl_7, pw_cgt, pw_iv3, pw_ret0, pw_iv2, pw_zeq, il_1, pw_isub, pw_is3, kd_32, rf_32_0, rf_32_1, rf_32_2, rf_32_3, rf_32_4, rf_32_5, rf_32_6, rf_32_7, rf_32_8, rf_32_9, rf_32_11, rf_32_12, rf_32_13, kd_71, rf_71_1, rf_71_3, rf_71_4, rf_71_5, rf_71_6, rf_71_11, rf_71_12, rf_71_14, kd_123, rf_123_1, rf_123_2, rf_123_3, rf_123_4, rf_123_5, rf_123_7, rf_123_11, rf_123_12, rf_123_15, rf_123_16, rf_123_17, rf_123_26, rf_123_29, rf_123_30, rf_123_32, rf_123_34, rf_123_35, rf_123_45, n_0, n_1, n_7, nn_lt, nn_nlt, nn_le, nn_nle, nn_ne, nn_sub, nn_mul, nI_add, nn_neg, nm_eq, mn_eq, mm_eq, mn_lt, nm_lt, mn_le, nm_le, nn_sub0, nn_of, implies_true, nn_c, nn_in, nn_div, nat_rem, Nat.reduceMul, Nat.reduceSub, Nat.reduceDiv, Nat.reduceMod, pf_at, pf_ne, mk_s, mk_1, Classical.not_not, b2i_T, b2i_F, false_imp_iff, true_imp_iff, false_and, and_false, p_sw, Int.reduceAdd, Int.zero_add, Option.some.injEq, Value.int.injEq, Value.long.injEq, Value.ref.injEq, exists_eq_left', mk_I, mk_L, mk_wI, mk_wL, rf_s, rf_n, true_and, and_true, and_self, or_true, true_or, or_false, false_or, not_true_eq_false, not_false_eq_true, Option.toList_some, Option.toList_none, List.cons_append, List.nil_append, List.map_nil, List.map_cons, List.sum_nil, List.sum_cons, cat_i, cat_l, cat_r, cat_n, Nat.reduceLeDiff, Nat.reduceAdd, Nat.reduceEqDiff, Nat.zero_le, p_ent, p_u_ne, p_u_at, reduceIte, if_true, if_false, j2, sr, hU, P_ce s266, P_ce s242, P_ce s132, P_ce s125]
          exact ⟨_, _, _, _, rfl, H⟩
    · rw [decide_eq_false hP, bN_f] at s242
      generalize kn (I 125) 53 = m at *
      by_cases c1 : y < mI 1
      · have le1 : ¬ mI 1 ≤ y := Int32.not_le.mpr c1
        generalize pc S = P at *
        simp -implicitDefEqProofs (disch := first | omega | decide) only [P_m, ↓P_run_eq _ 106 _ (p_bk 106 0), bk_106_0, pb_106_0, ↓P_run_eq _ 106 _ (p_bk 106 1), bk_106_1, pb_106_1, ↓P_run_eq _ 243 _ (p_bk 243 0), bk_243_0, pb_243_0, ↓P_run_eq _ 243 _ (p_bk 243 1), bk_243_1, pb_243_1, pw_iload_n1, pw_zlt, pw_aload_n0, pw_aloadN_n0, pw_getR, pw_getI, pw_ishr, pw_zne, pw_iload_n2, pw_iconst, il_m1, pw_cge, pw_nop, pw_ret0, pw_iv2, pw_zeq, pw_is1, il_1, pw_isub, pw_is3, kd_32, rf_32_0, rf_32_1, rf_32_2, rf_32_3, rf_32_4, rf_32_5, rf_32_6, rf_32_7, rf_32_8, rf_32_9, rf_32_11, rf_32_12, rf_32_13, kd_71, rf_71_1, rf_71_3, rf_71_4, rf_71_5, rf_71_6, rf_71_11, rf_71_12, rf_71_14, kd_123, rf_123_1, rf_123_2, rf_123_3, rf_123_4, rf_123_5, rf_123_7, rf_123_11, rf_123_12, rf_123_15, rf_123_16, rf_123_17, rf_123_26, rf_123_29, rf_123_30, rf_123_32, rf_123_34, rf_123_35, rf_123_45, n_0, n_1, nn_lt, nn_nlt, nn_le, nn_nle, nn_ne, nn_sub, nn_mul, nI_add, nn_neg, nm_eq, mn_eq, mm_eq, mn_lt, nm_lt, mn_le, nm_le, nn_sub0, nn_of, implies_true, nn_c, nn_in, nn_div, nat_rem, Nat.reduceMul, Nat.reduceSub, Nat.reduceDiv, Nat.reduceMod, pf_at, pf_ne, mk_s, mk_1, Classical.not_not, b2i_T, b2i_F, false_imp_iff, true_imp_iff, false_and, and_false, p_sw, Int.reduceAdd, Int.zero_add, Option.some.injEq, Value.int.injEq, Value.long.injEq, Value.ref.injEq, exists_eq_left', mk_I, mk_L, mk_wI, mk_wL, rf_s, rf_n, true_and, and_true, and_self, or_true, true_or, or_false, false_or, not_true_eq_false, not_false_eq_true, Option.toList_some, Option.toList_none, List.cons_append, List.nil_append, List.map_nil, List.map_cons, List.sum_nil, List.sum_cons, cat_i, cat_l, cat_r, cat_n, Nat.reduceLeDiff, Nat.reduceAdd, Nat.reduceEqDiff, Nat.zero_le, p_ent, p_u_ne, p_u_at, reduceIte, if_true, if_false, j2, sr, c1, le1, P_ce s242]
        exact ⟨_, _, _, _, rfl, H⟩
      · have le1 : mI 1 ≤ y := Int32.not_lt.mp c1
        generalize pc S = P at *
        simp -implicitDefEqProofs (disch := first | omega | decide) only [P_m, ↓P_run_eq _ 106 _ (p_bk 106 0), bk_106_0, pb_106_0, ↓P_run_eq _ 106 _ (p_bk 106 2), bk_106_2, pb_106_2, ↓P_run_eq _ 106 _ (p_bk 106 3), bk_106_3, pb_106_3, ↓P_run_eq _ 243 _ (p_bk 243 0), bk_243_0, pb_243_0, ↓P_run_eq _ 243 _ (p_bk 243 1), bk_243_1, pb_243_1, pw_iload_n1, pw_zlt, pw_aload_n0, pw_aloadN_n0, pw_getR, pw_getI, pw_ishr, pw_zne, pw_iload_n2, pw_iconst, il_m1, pw_cge, pw_nop, pw_is1, pw_istore_n3, ps_3, pe_3, po_i3, po_r3, po_n3, po_u3, pw_iload_n3, pw_bipush, bl_7, pw_cgt, pw_iv3, pw_ret0, pw_iv2, pw_zeq, il_1, pw_isub, pw_is3, kd_32, rf_32_0, rf_32_1, rf_32_2, rf_32_3, rf_32_4, rf_32_5, rf_32_6, rf_32_7, rf_32_8, rf_32_9, rf_32_11, rf_32_12, rf_32_13, kd_71, rf_71_1, rf_71_3, rf_71_4, rf_71_5, rf_71_6, rf_71_11, rf_71_12, rf_71_14, kd_123, rf_123_1, rf_123_2, rf_123_3, rf_123_4, rf_123_5, rf_123_7, rf_123_11, rf_123_12, rf_123_15, rf_123_16, rf_123_17, rf_123_26, rf_123_29, rf_123_30, rf_123_32, rf_123_34, rf_123_35, rf_123_45, n_0, n_1, n_7, nn_lt, nn_nlt, nn_le, nn_nle, nn_ne, nn_sub, nn_mul, nI_add, nn_neg, nm_eq, mn_eq, mm_eq, mn_lt, nm_lt, mn_le, nm_le, nn_sub0, nn_of, implies_true, nn_c, nn_in, nn_div, nat_rem, Nat.reduceMul, Nat.reduceSub, Nat.reduceDiv, Nat.reduceMod, pf_at, pf_ne, mk_s, mk_1, Classical.not_not, b2i_T, b2i_F, false_imp_iff, true_imp_iff, false_and, and_false, p_sw, Int.reduceAdd, Int.zero_add, Option.some.injEq, Value.int.injEq, Value.long.injEq, Value.ref.injEq, exists_eq_left', mk_I, mk_L, mk_wI, mk_wL, rf_s, rf_n, true_and, and_true, and_self, or_true, true_or, or_false, false_or, not_true_eq_false, not_false_eq_true, Option.toList_some, Option.toList_none, List.cons_append, List.nil_append, List.map_nil, List.map_cons, List.sum_nil, List.sum_cons, cat_i, cat_l, cat_r, cat_n, Nat.reduceLeDiff, Nat.reduceAdd, Nat.reduceEqDiff, Nat.zero_le, p_ent, p_u_ne, p_u_at, reduceIte, if_true, if_false, j2, sr, c1, le1, P_ce s266, P_ce s242]
        exact ⟨_, _, _, _, rfl, H⟩
  · by_cases c0 : x < nI 0
    · simp -implicitDefEqProofs (disch := first | omega | decide) only [P_m, ↓P_run_eq _ 106 _ (p_bk 106 0), bk_106_0, pb_106_0, ↓P_run_eq _ 106 _ (p_bk 106 1), bk_106_1, pb_106_1, ↓P_run_eq _ 243 _ (p_bk 243 0), bk_243_0, pb_243_0, ↓P_run_eq _ 243 _ (p_bk 243 1), bk_243_1, pb_243_1, pw_iload_n1, pw_zlt, pw_aload_n0, pw_aloadN_n0, pw_getR, pw_getI, pw_ishr, pw_zne, pw_iload_n2, pw_iconst, il_m1, pw_cge, pw_nop, pw_ret0, pw_iv2, pw_zeq, pw_is1, il_1, pw_isub, pw_is3, kd_32, rf_32_0, rf_32_1, rf_32_2, rf_32_3, rf_32_4, rf_32_5, rf_32_6, rf_32_7, rf_32_8, rf_32_9, rf_32_11, rf_32_12, rf_32_13, kd_71, rf_71_1, rf_71_3, rf_71_4, rf_71_5, rf_71_6, rf_71_11, rf_71_12, rf_71_14, kd_123, rf_123_1, rf_123_2, rf_123_3, rf_123_4, rf_123_5, rf_123_7, rf_123_11, rf_123_12, rf_123_15, rf_123_16, rf_123_17, rf_123_26, rf_123_29, rf_123_30, rf_123_32, rf_123_34, rf_123_35, rf_123_45, n_0, n_1, nn_lt, nn_nlt, nn_le, nn_nle, nn_ne, nn_sub, nn_mul, nI_add, nn_neg, nm_eq, mn_eq, mm_eq, mn_lt, nm_lt, mn_le, nm_le, nn_sub0, nn_of, implies_true, nn_c, nn_in, nn_div, nat_rem, Nat.reduceMul, Nat.reduceSub, Nat.reduceDiv, Nat.reduceMod, pf_at, pf_ne, mk_s, mk_1, Classical.not_not, b2i_T, b2i_F, false_imp_iff, true_imp_iff, false_and, and_false, p_sw, Int.reduceAdd, Int.zero_add, Option.some.injEq, Value.int.injEq, Value.long.injEq, Value.ref.injEq, exists_eq_left', mk_I, mk_L, mk_wI, mk_wL, rf_s, rf_n, true_and, and_true, and_self, or_true, true_or, or_false, false_or, not_true_eq_false, not_false_eq_true, Option.toList_some, Option.toList_none, List.cons_append, List.nil_append, List.map_nil, List.map_cons, List.sum_nil, List.sum_cons, cat_i, cat_l, cat_r, cat_n, Nat.reduceLeDiff, Nat.reduceAdd, Nat.reduceEqDiff, Nat.zero_le, p_ent, p_u_ne, p_u_at, reduceIte, if_true, if_false, j2, c0, P_ce s242]
      exact ⟨_, _, _, _, rfl, H⟩
    · obtain ⟨k, k1, rfl⟩ := nI_of c0
      have kl : 2 ^ kn (I 125) 53 ≤ k := by
        refine Nat.not_lt.mp (fun h => hn ⟨Int32.not_lt.mp c0, ?_⟩)
        rw [Int32.le_iff_toInt_le, nI_toInt (by omega), nI_toInt (by omega)]
        omega
      have p0 : 0 < 2 ^ kn (I 125) 53 := Nat.two_pow_pos _
      have dv : 0 < k / 2 ^ kn (I 125) 53 := Nat.div_pos kl p0
      have dl : k / 2 ^ kn (I 125) 53 ≤ k := Nat.div_le_self _ _
      have sr : nI k >>> (nI (kn (I 125) 53) &&& 31) = nI (k / 2 ^ kn (I 125) 53) := by
        rw [pk_shrN (by omega) _ (kn (I 125) 53) (sl_31 _ (by omega))]
      generalize k / 2 ^ kn (I 125) 53 = k' at *
      generalize kn (I 125) 53 = m at *
      simp -implicitDefEqProofs (disch := first | omega | decide) only [P_m, ↓P_run_eq _ 106 _ (p_bk 106 0), bk_106_0, pb_106_0, ↓P_run_eq _ 106 _ (p_bk 106 1), bk_106_1, pb_106_1, ↓P_run_eq _ 243 _ (p_bk 243 0), bk_243_0, pb_243_0, ↓P_run_eq _ 243 _ (p_bk 243 1), bk_243_1, pb_243_1, pw_iload_n1, pw_zlt, pw_aload_n0, pw_aloadN_n0, pw_getR, pw_getI, pw_ishr, pw_zne, pw_iload_n2, pw_iconst, il_m1, pw_cge, pw_nop, pw_ret0, pw_iv2, pw_zeq, pw_is1, il_1, pw_isub, pw_is3, kd_32, rf_32_0, rf_32_1, rf_32_2, rf_32_3, rf_32_4, rf_32_5, rf_32_6, rf_32_7, rf_32_8, rf_32_9, rf_32_11, rf_32_12, rf_32_13, kd_71, rf_71_1, rf_71_3, rf_71_4, rf_71_5, rf_71_6, rf_71_11, rf_71_12, rf_71_14, kd_123, rf_123_1, rf_123_2, rf_123_3, rf_123_4, rf_123_5, rf_123_7, rf_123_11, rf_123_12, rf_123_15, rf_123_16, rf_123_17, rf_123_26, rf_123_29, rf_123_30, rf_123_32, rf_123_34, rf_123_35, rf_123_45, n_0, n_1, nn_lt, nn_nlt, nn_le, nn_nle, nn_ne, nn_sub, nn_mul, nI_add, nn_neg, nm_eq, mn_eq, mm_eq, mn_lt, nm_lt, mn_le, nm_le, nn_sub0, nn_of, implies_true, nn_c, nn_in, nn_div, nat_rem, Nat.reduceMul, Nat.reduceSub, Nat.reduceDiv, Nat.reduceMod, pf_at, pf_ne, mk_s, mk_1, Classical.not_not, b2i_T, b2i_F, false_imp_iff, true_imp_iff, false_and, and_false, p_sw, Int.reduceAdd, Int.zero_add, Option.some.injEq, Value.int.injEq, Value.long.injEq, Value.ref.injEq, exists_eq_left', mk_I, mk_L, mk_wI, mk_wL, rf_s, rf_n, true_and, and_true, and_self, or_true, true_or, or_false, false_or, not_true_eq_false, not_false_eq_true, Option.toList_some, Option.toList_none, List.cons_append, List.nil_append, List.map_nil, List.map_cons, List.sum_nil, List.sum_cons, cat_i, cat_l, cat_r, cat_n, Nat.reduceLeDiff, Nat.reduceAdd, Nat.reduceEqDiff, Nat.zero_le, p_ent, p_u_ne, p_u_at, reduceIte, if_true, if_false, j2, sr, P_ce s242]
      exact ⟨_, _, _, _, rfl, H⟩
end OL
