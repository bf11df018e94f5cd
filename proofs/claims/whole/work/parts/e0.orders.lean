section GC
variable {D Ls k : Nat} {I : Nat → Nat → Int32} {L : Nat → Nat → Int64} {R : Nat → Nat → Option Nat} {X : List pKd} {c : Option (List tCl)} {K M : Nat → Int32}
theorem lc_lt (x y : Int64) : (lg_cmp x y < nI 0) = (x < y) := propext (lg_cmp_lt x y)
def smI (v : Int) : Int32 := if v < -1 ∨ 1000000 < v then nI 1000000 else zI v
theorem sp_255 {d : Nat} {v : Int} {h : pHp} (hv : inB v) : P_m d 255 [.long (lI v)] h (fun w h' => w = some (.int (smI v)) ∧ h' = h) := by
  unfold inB at hv
  have c1 : (lI v < (-1 : Int64)) = (v < -1) := by
    rw [show (-1 : Int64) = lI (-1) from rfl]
    exact propext (lI_lt (by omega) (by omega) (by omega) (by omega))
  have c2 : (lI v ≤ (1000000 : Int64)) = (v ≤ 1000000) := by
    rw [show (1000000 : Int64) = lI 1000000 from rfl]
    exact propext (lI_le (by omega) (by omega) (by omega) (by omega))
  have n6 : (1000000 : Int32) = nI 1000000 := rfl
  unfold smI
  by_cases h1 : v < -1
  · rw [if_pos (Or.inl h1)]
    simp -implicitDefEqProofs (disch := first | omega | decide) only [P_m, ↓P_run_eq _ 255 _ (p_bk 255 0), bk_255_0, pb_255_0, ↓P_run_eq _ 255 _ (p_bk 255 1), bk_255_1, pb_255_1, ↓P_run_eq _ 255 _ (p_bk 255 2), bk_255_2, pb_255_2, ↓P_run_eq _ 255 _ (p_bk 255 3), bk_255_3, pb_255_3, pw_lload_n0, pw_ldc2, cl_5, pw_lcmp, pw_zlt, cl_6, pw_zle, pw_nop, pw_ldc, cn_6, pw_goto, pw_l2i, pw_ret0, n_0, n_1, nn_lt, nn_nlt, nn_le, nn_nle, nn_ne, nn_sub, nn_mul, nI_add, nn_neg, nm_eq, mn_eq, mm_eq, mn_lt, nm_lt, mn_le, nm_le, nn_sub0, nn_of, implies_true, nn_c, nn_in, nn_div, nat_rem, Nat.reduceMul, Nat.reduceSub, Nat.reduceDiv, Nat.reduceMod, pf_at, pf_ne, mk_s, mk_1, Classical.not_not, b2i_T, b2i_F, false_imp_iff, true_imp_iff, false_and, and_false, p_sw, Int.reduceAdd, Int.zero_add, Option.some.injEq, Value.int.injEq, Value.long.injEq, Value.ref.injEq, exists_eq_left', mk_I, mk_L, mk_wI, mk_wL, rf_s, rf_n, true_and, and_true, and_self, or_true, true_or, or_false, false_or, not_true_eq_false, not_false_eq_true, Option.toList_some, Option.toList_none, List.cons_append, List.nil_append, List.map_nil, List.map_cons, List.sum_nil, List.sum_cons, cat_i, cat_l, cat_r, cat_n, Nat.reduceLeDiff, Nat.reduceAdd, Nat.reduceEqDiff, Nat.zero_le, p_ent, p_u_ne, p_u_at, reduceIte, if_true, if_false, lc_lt, lc_le, c1, c2, h1, n6]
  · by_cases h2 : 1000000 < v
    · rw [if_pos (Or.inr h2)]
      have h3 : ¬ v ≤ 1000000 := by omega
      simp -implicitDefEqProofs (disch := first | omega | decide) only [P_m, ↓P_run_eq _ 255 _ (p_bk 255 0), bk_255_0, pb_255_0, ↓P_run_eq _ 255 _ (p_bk 255 1), bk_255_1, pb_255_1, ↓P_run_eq _ 255 _ (p_bk 255 2), bk_255_2, pb_255_2, ↓P_run_eq _ 255 _ (p_bk 255 3), bk_255_3, pb_255_3, pw_lload_n0, pw_ldc2, cl_5, pw_lcmp, pw_zlt, cl_6, pw_zle, pw_nop, pw_ldc, cn_6, pw_goto, pw_l2i, pw_ret0, n_0, n_1, nn_lt, nn_nlt, nn_le, nn_nle, nn_ne, nn_sub, nn_mul, nI_add, nn_neg, nm_eq, mn_eq, mm_eq, mn_lt, nm_lt, mn_le, nm_le, nn_sub0, nn_of, implies_true, nn_c, nn_in, nn_div, nat_rem, Nat.reduceMul, Nat.reduceSub, Nat.reduceDiv, Nat.reduceMod, pf_at, pf_ne, mk_s, mk_1, Classical.not_not, b2i_T, b2i_F, false_imp_iff, true_imp_iff, false_and, and_false, p_sw, Int.reduceAdd, Int.zero_add, Option.some.injEq, Value.int.injEq, Value.long.injEq, Value.ref.injEq, exists_eq_left', mk_I, mk_L, mk_wI, mk_wL, rf_s, rf_n, true_and, and_true, and_self, or_true, true_or, or_false, false_or, not_true_eq_false, not_false_eq_true, Option.toList_some, Option.toList_none, List.cons_append, List.nil_append, List.map_nil, List.map_cons, List.sum_nil, List.sum_cons, cat_i, cat_l, cat_r, cat_n, Nat.reduceLeDiff, Nat.reduceAdd, Nat.reduceEqDiff, Nat.zero_le, p_ent, p_u_ne, p_u_at, reduceIte, if_true, if_false, lc_lt, lc_le, c1, c2, h1, h3, n6]
    · rw [if_neg (by omega)]
      have h3 : v ≤ 1000000 := by omega
      simp -implicitDefEqProofs (disch := first | omega | decide) only [P_m, ↓P_run_eq _ 255 _ (p_bk 255 0), bk_255_0, pb_255_0, ↓P_run_eq _ 255 _ (p_bk 255 1), bk_255_1, pb_255_1, ↓P_run_eq _ 255 _ (p_bk 255 2), bk_255_2, pb_255_2, ↓P_run_eq _ 255 _ (p_bk 255 3), bk_255_3, pb_255_3, pw_lload_n0, pw_ldc2, cl_5, pw_lcmp, pw_zlt, cl_6, pw_zle, pw_nop, pw_ldc, cn_6, pw_goto, pw_l2i, pw_ret0, n_0, n_1, nn_lt, nn_nlt, nn_le, nn_nle, nn_ne, nn_sub, nn_mul, nI_add, nn_neg, nm_eq, mn_eq, mm_eq, mn_lt, nm_lt, mn_le, nm_le, nn_sub0, nn_of, implies_true, nn_c, nn_in, nn_div, nat_rem, Nat.reduceMul, Nat.reduceSub, Nat.reduceDiv, Nat.reduceMod, pf_at, pf_ne, mk_s, mk_1, Classical.not_not, b2i_T, b2i_F, false_imp_iff, true_imp_iff, false_and, and_false, p_sw, Int.reduceAdd, Int.zero_add, Option.some.injEq, Value.int.injEq, Value.long.injEq, Value.ref.injEq, exists_eq_left', mk_I, mk_L, mk_wI, mk_wL, rf_s, rf_n, true_and, and_true, and_self, or_true, true_or, or_false, false_or, not_true_eq_false, not_false_eq_true, Option.toList_some, Option.toList_none, List.cons_append, List.nil_append, List.map_nil, List.map_cons, List.sum_nil, List.sum_cons, cat_i, cat_l, cat_r, cat_n, Nat.reduceLeDiff, Nat.reduceAdd, Nat.reduceEqDiff, Nat.zero_le, p_ent, p_u_ne, p_u_at, reduceIte, if_true, if_false, lc_lt, lc_le, c1, c2, h1, h3, lI_32]
/-- too small or too large: refused either way -/
theorem sm_act {kd : Nat} {v : Int} (hV : vld K) (hv : inB v) (k2 : ¬ kd = 2) : smI v = zI v ∨ ((actW c K kd (smI v)).1 < 0 ∧ (actW c K kd (zI v)).1 < 0) := by
  by_cases hx : v < -1 ∨ 1000000 < v
  · right
    unfold inB at hv
    have es : smI v = zI 1000000 := by unfold smI; rw [if_pos hx]; rfl
    obtain ⟨m1, m2⟩ := kn_53 hV
    obtain ⟨t1, t2⟩ := kn_52 hV
    have all : ∀ x : Int, (x < -1 ∨ 1000000 ≤ x) → -1000000000 ≤ x → x ≤ 1000000000 → (actW c K kd (zI x)).1 < 0 := by
      intro x hx x1 x2
      have ex : (zI x).toInt = x := zI_toInt (by omega) (by omega)
      have i53 : (K 53).toInt = kn K 53 := by rw [m1, nI_toInt (by omega)]
      have i52 : (K 52).toInt = kn K 52 := by rw [t1, nI_toInt (by omega)]
      unfold actW
      split
      · rw [if_neg]
        · decide
        · unfold isQ
          simp only [Bool.and_eq_true, decide_eq_true_eq, Int32.lt_iff_toInt_lt, Int32.le_iff_toInt_le, Int32.reduceToInt, ex, i53]
          omega
      split
      · rw [if_neg]
        · decide
        · simp only [Int32.le_iff_toInt_le, Int32.reduceToInt, ex]
          omega
      · rw [if_neg]
        · decide
        · unfold isT
          simp only [Bool.or_eq_true, Bool.and_eq_true, decide_eq_true_eq, Int32.lt_iff_toInt_lt, Int32.le_iff_toInt_le, ← Int32.toInt_inj, Int32.reduceToInt, ex, i52]
          omega
    rw [es]
    exact ⟨all 1000000 (by omega) (by omega) (by omega), all v (by omega) (by omega) (by omega)⟩
  · left
    unfold smI; rw [if_neg hx]
def frPo (I J : Nat → Nat → Int32) : Prop := (∀ a, ¬ a = 123 → ¬ a = 125 → ¬ a = 135 → ¬ a = 136 → J a = I a) ∧ ∀ q, ¬ (22 ≤ q ∧ q ≤ 25) → ¬ q = 28 → ¬ q = 31 → J 123 q = I 123 q
theorem frPo_M {J : Nat → Nat → Int32} (h : frM I J) : frPo I J := ⟨h.1, fun q q1 _ q3 => h.2 q q1 q3⟩
theorem pl_256 {kd : Nat} {v : Int} (hk : kd ≤ 3) (h : Cm I K c) (hp : rfS I K k M) (e40 : I 123 40 = nI (19 + kd)) (hv : inB v) (eL : ¬ kd = 2 → L 123 43 = lI v) (hD : 51 ≤ D) : ∃ J, frPo I J ∧ rfS J (nxK c K kd (smI v)) (nxN c K kd (smI v) k) (nxM c K kd (smI v) k M) ∧ J 123 28 = (if kd = 0 ∧ ¬ (actW c K kd (smI v)).1 < 0 then (actW c K kd (smI v)).1 else I 123 28) ∧ P_m D 256 [.ref 123] (p_mk Ls I L R X) (fun w h' => w = some (.int (actW c K kd (smI v)).1) ∧ h' = p_mk Ls J L R X) := by
  obtain ⟨D', rfl⟩ : ∃ D', D = D' + 3 := ⟨D - 3, by omega⟩
  have : kd = 0 ∨ kd = 1 ∨ kd = 2 ∨ kd = 3 := by omega
  rcases this with rfl | rfl | rfl | rfl
  · have eL := eL (by omega)
    have s5 := sp_255 (d := D' + 2) (h := p_mk Ls I L R X) hv
    obtain ⟨J, f, r, s⟩ := kept_0 (Ls := Ls) (L := L) (R := R) (X := X) (D := D' + 2) (smI v) h hp (by omega)
    have rr : ∀ x, rfS (p_u J 123 28 x) (nxK c K 0 (smI v)) (nxN c K 0 (smI v) k) (nxM c K 0 (smI v) k M) := fun x => by
      obtain ⟨r1, r2, r3, r4⟩ := r
      exact ⟨by rw [p_u_ne (by omega)]; exact r1, by rw [p_u_at, if_neg (by omega)]; exact r2, r3, fun i hi => by rw [p_u_ne (by omega)]; exact r4 i hi⟩
    have ff : ∀ x, frPo I (p_u J 123 28 x) := fun x => ⟨fun a a1 a2 a3 a4 => by rw [p_u_ne a1]; exact f.1 a a1 a2 a3 a4, fun q q1 q2 q3 => by rw [p_u_at, if_neg q2]; exact f.2 q q1 q3⟩
    have e28 : J 123 28 = I 123 28 := f.2 28 (by omega) (by omega)
    rw [Nat.add_zero] at e40
    by_cases hn : (actW c K 0 (smI v)).1 < 0
    · refine ⟨_, ff (I 123 28), rr _, by rw [if_neg (fun h => h.2 hn), p_u_at, if_pos rfl], ?_⟩
      have hn' : ¬ nI 0 ≤ (actW c K 0 (smI v)).1 := fun h => absurd hn (Int32.not_lt.mpr h)
      clear rr ff r f
      generalize (actW c K 0 (smI v)).1 = w at *
      generalize smI v = sv at *
      simp -implicitDefEqProofs (disch := first | omega | decide) only [P_m, ↓P_run_eq _ 256 _ (p_bk 256 0), bk_256_0, pb_256_0, ↓P_run_eq _ 256 _ (p_bk 256 4), bk_256_4, pb_256_4, ↓P_run_eq _ 256 _ (p_bk 256 6), bk_256_6, pb_256_6, pw_aload_n0, pw_aloadN_n0, pw_getI, pw_sw, pw_getL, pw_is1, pw_iv2, pw_istore_n1, ps_1, pe_1, po_i1, po_r1, po_n1, po_u1, pw_iload_n1, pw_zge, pw_goto, pw_putI, pw_ret0, kd_123, rf_123_1, rf_123_2, rf_123_3, rf_123_4, rf_123_5, rf_123_7, rf_123_11, rf_123_12, rf_123_15, rf_123_16, rf_123_17, rf_123_26, rf_123_29, rf_123_30, rf_123_32, rf_123_34, rf_123_35, rf_123_45, n_0, n_1, nn_lt, nn_nlt, nn_le, nn_nle, nn_ne, nn_sub, nn_mul, nI_add, nn_neg, nm_eq, mn_eq, mm_eq, mn_lt, nm_lt, mn_le, nm_le, nn_sub0, nn_of, implies_true, nn_c, nn_in, nn_div, nat_rem, Nat.reduceMul, Nat.reduceSub, Nat.reduceDiv, Nat.reduceMod, pf_at, pf_ne, mk_s, mk_1, Classical.not_not, b2i_T, b2i_F, false_imp_iff, true_imp_iff, false_and, and_false, p_sw, Int.reduceAdd, Int.zero_add, Option.some.injEq, Value.int.injEq, Value.long.injEq, Value.ref.injEq, exists_eq_left', mk_I, mk_L, mk_wI, mk_wL, rf_s, rf_n, true_and, and_true, and_self, or_true, true_or, or_false, false_or, not_true_eq_false, not_false_eq_true, Option.toList_some, Option.toList_none, List.cons_append, List.nil_append, List.map_nil, List.map_cons, List.sum_nil, List.sum_cons, cat_i, cat_l, cat_r, cat_n, Nat.reduceLeDiff, Nat.reduceAdd, Nat.reduceEqDiff, Nat.zero_le, p_ent, p_u_ne, p_u_at, reduceIte, if_true, if_false, e40, eL, P_ce s5, P_ce s, hn', e28, nI_toInt, Int.reduceEq, Int.reduceLT, Int.cast_ofNat_Int]
    · refine ⟨_, ff (actW c K 0 (smI v)).1, rr _, by rw [if_pos ⟨rfl, hn⟩, p_u_at, if_pos rfl], ?_⟩
      have hn' : nI 0 ≤ (actW c K 0 (smI v)).1 := Int32.not_lt.mp hn
      clear rr ff r f
      generalize (actW c K 0 (smI v)).1 = w at *
      generalize smI v = sv at *
      simp -implicitDefEqProofs (disch := first | omega | decide) only [P_m, ↓P_run_eq _ 256 _ (p_bk 256 0), bk_256_0, pb_256_0, ↓P_run_eq _ 256 _ (p_bk 256 4), bk_256_4, pb_256_4, ↓P_run_eq _ 256 _ (p_bk 256 5), bk_256_5, pb_256_5, ↓P_run_eq _ 256 _ (p_bk 256 6), bk_256_6, pb_256_6, pw_aload_n0, pw_aloadN_n0, pw_getI, pw_sw, pw_getL, pw_is1, pw_iv2, pw_istore_n1, ps_1, pe_1, po_i1, po_r1, po_n1, po_u1, pw_iload_n1, pw_zge, pw_goto, pw_nop, pw_putI, pw_ret0, kd_123, rf_123_1, rf_123_2, rf_123_3, rf_123_4, rf_123_5, rf_123_7, rf_123_11, rf_123_12, rf_123_15, rf_123_16, rf_123_17, rf_123_26, rf_123_29, rf_123_30, rf_123_32, rf_123_34, rf_123_35, rf_123_45, n_0, n_1, nn_lt, nn_nlt, nn_le, nn_nle, nn_ne, nn_sub, nn_mul, nI_add, nn_neg, nm_eq, mn_eq, mm_eq, mn_lt, nm_lt, mn_le, nm_le, nn_sub0, nn_of, implies_true, nn_c, nn_in, nn_div, nat_rem, Nat.reduceMul, Nat.reduceSub, Nat.reduceDiv, Nat.reduceMod, pf_at, pf_ne, mk_s, mk_1, Classical.not_not, b2i_T, b2i_F, false_imp_iff, true_imp_iff, false_and, and_false, p_sw, Int.reduceAdd, Int.zero_add, Option.some.injEq, Value.int.injEq, Value.long.injEq, Value.ref.injEq, exists_eq_left', mk_I, mk_L, mk_wI, mk_wL, rf_s, rf_n, true_and, and_true, and_self, or_true, true_or, or_false, false_or, not_true_eq_false, not_false_eq_true, Option.toList_some, Option.toList_none, List.cons_append, List.nil_append, List.map_nil, List.map_cons, List.sum_nil, List.sum_cons, cat_i, cat_l, cat_r, cat_n, Nat.reduceLeDiff, Nat.reduceAdd, Nat.reduceEqDiff, Nat.zero_le, p_ent, p_u_ne, p_u_at, reduceIte, if_true, if_false, e40, eL, P_ce s5, P_ce s, hn', e28, nI_toInt, Int.reduceEq, Int.reduceLT, Int.cast_ofNat_Int]
  · have eL := eL (by omega)
    have s5 := sp_255 (d := D' + 2) (h := p_mk Ls I L R X) hv
    obtain ⟨J, f, r, s⟩ := kept_1 (Ls := Ls) (L := L) (R := R) (X := X) (d := D') (smI v) h hp
    refine ⟨J, frPo_M f, r, by rw [if_neg (fun h => absurd h.1 (by omega))]; exact f.2 28 (by omega) (by omega), ?_⟩
    simp only [Nat.reduceAdd] at e40
    clear r f
    generalize (actW c K 1 (smI v)).1 = w at *
    generalize smI v = sv at *
    simp -implicitDefEqProofs (disch := first | omega | decide) only [P_m, ↓P_run_eq _ 256 _ (p_bk 256 0), bk_256_0, pb_256_0, ↓P_run_eq _ 256 _ (p_bk 256 1), bk_256_1, pb_256_1, pw_aload_n0, pw_aloadN_n0, pw_getI, pw_sw, pw_getL, pw_is1, pw_iv2, pw_ret0, kd_123, rf_123_1, rf_123_2, rf_123_3, rf_123_4, rf_123_5, rf_123_7, rf_123_11, rf_123_12, rf_123_15, rf_123_16, rf_123_17, rf_123_26, rf_123_29, rf_123_30, rf_123_32, rf_123_34, rf_123_35, rf_123_45, n_0, n_1, nn_lt, nn_nlt, nn_le, nn_nle, nn_ne, nn_sub, nn_mul, nI_add, nn_neg, nm_eq, mn_eq, mm_eq, mn_lt, nm_lt, mn_le, nm_le, nn_sub0, nn_of, implies_true, nn_c, nn_in, nn_div, nat_rem, Nat.reduceMul, Nat.reduceSub, Nat.reduceDiv, Nat.reduceMod, pf_at, pf_ne, mk_s, mk_1, Classical.not_not, b2i_T, b2i_F, false_imp_iff, true_imp_iff, false_and, and_false, p_sw, Int.reduceAdd, Int.zero_add, Option.some.injEq, Value.int.injEq, Value.long.injEq, Value.ref.injEq, exists_eq_left', mk_I, mk_L, mk_wI, mk_wL, rf_s, rf_n, true_and, and_true, and_self, or_true, true_or, or_false, false_or, not_true_eq_false, not_false_eq_true, Option.toList_some, Option.toList_none, List.cons_append, List.nil_append, List.map_nil, List.map_cons, List.sum_nil, List.sum_cons, cat_i, cat_l, cat_r, cat_n, Nat.reduceLeDiff, Nat.reduceAdd, Nat.reduceEqDiff, Nat.zero_le, p_ent, p_u_ne, p_u_at, reduceIte, if_true, if_false, e40, eL, P_ce s5, P_ce s, nI_toInt, Int.reduceEq, Int.reduceLT, Int.cast_ofNat_Int]
  · obtain ⟨J, f, r, s⟩ := kept_2 (Ls := Ls) (L := L) (R := R) (X := X) (d := D') (smI v) h hp
    refine ⟨J, frPo_M f, r, by rw [if_neg (fun h => absurd h.1 (by omega))]; exact f.2 28 (by omega) (by omega), ?_⟩
    simp only [Nat.reduceAdd] at e40
    clear r f
    generalize (actW c K 2 (smI v)).1 = w at *
    simp -implicitDefEqProofs (disch := first | omega | decide) only [P_m, ↓P_run_eq _ 256 _ (p_bk 256 0), bk_256_0, pb_256_0, ↓P_run_eq _ 256 _ (p_bk 256 2), bk_256_2, pb_256_2, pw_aload_n0, pw_aloadN_n0, pw_getI, pw_sw, pw_iv1, pw_ret0, kd_123, rf_123_1, rf_123_2, rf_123_3, rf_123_4, rf_123_5, rf_123_7, rf_123_11, rf_123_12, rf_123_15, rf_123_16, rf_123_17, rf_123_26, rf_123_29, rf_123_30, rf_123_32, rf_123_34, rf_123_35, rf_123_45, n_0, n_1, nn_lt, nn_nlt, nn_le, nn_nle, nn_ne, nn_sub, nn_mul, nI_add, nn_neg, nm_eq, mn_eq, mm_eq, mn_lt, nm_lt, mn_le, nm_le, nn_sub0, nn_of, implies_true, nn_c, nn_in, nn_div, nat_rem, Nat.reduceMul, Nat.reduceSub, Nat.reduceDiv, Nat.reduceMod, pf_at, pf_ne, mk_s, mk_1, Classical.not_not, b2i_T, b2i_F, false_imp_iff, true_imp_iff, false_and, and_false, p_sw, Int.reduceAdd, Int.zero_add, Option.some.injEq, Value.int.injEq, Value.long.injEq, Value.ref.injEq, exists_eq_left', mk_I, mk_L, mk_wI, mk_wL, rf_s, rf_n, true_and, and_true, and_self, or_true, true_or, or_false, false_or, not_true_eq_false, not_false_eq_true, Option.toList_some, Option.toList_none, List.cons_append, List.nil_append, List.map_nil, List.map_cons, List.sum_nil, List.sum_cons, cat_i, cat_l, cat_r, cat_n, Nat.reduceLeDiff, Nat.reduceAdd, Nat.reduceEqDiff, Nat.zero_le, p_ent, p_u_ne, p_u_at, reduceIte, if_true, if_false, e40, P_ce s, nI_toInt, Int.reduceEq, Int.reduceLT, Int.cast_ofNat_Int]
  · have eL := eL (by omega)
    have s5 := sp_255 (d := D' + 2) (h := p_mk Ls I L R X) hv
    obtain ⟨J, f, r, s⟩ := kept_3 (Ls := Ls) (L := L) (R := R) (X := X) (d := D') (smI v) h hp
    refine ⟨J, frPo_M f, r, by rw [if_neg (fun h => absurd h.1 (by omega))]; exact f.2 28 (by omega) (by omega), ?_⟩
    simp only [Nat.reduceAdd] at e40
    clear r f
    generalize (actW c K 3 (smI v)).1 = w at *
    generalize smI v = sv at *
    simp -implicitDefEqProofs (disch := first | omega | decide) only [P_m, ↓P_run_eq _ 256 _ (p_bk 256 0), bk_256_0, pb_256_0, ↓P_run_eq _ 256 _ (p_bk 256 3), bk_256_3, pb_256_3, pw_aload_n0, pw_aloadN_n0, pw_getI, pw_sw, pw_getL, pw_is1, pw_iv2, pw_ret0, kd_123, rf_123_1, rf_123_2, rf_123_3, rf_123_4, rf_123_5, rf_123_7, rf_123_11, rf_123_12, rf_123_15, rf_123_16, rf_123_17, rf_123_26, rf_123_29, rf_123_30, rf_123_32, rf_123_34, rf_123_35, rf_123_45, n_0, n_1, nn_lt, nn_nlt, nn_le, nn_nle, nn_ne, nn_sub, nn_mul, nI_add, nn_neg, nm_eq, mn_eq, mm_eq, mn_lt, nm_lt, mn_le, nm_le, nn_sub0, nn_of, implies_true, nn_c, nn_in, nn_div, nat_rem, Nat.reduceMul, Nat.reduceSub, Nat.reduceDiv, Nat.reduceMod, pf_at, pf_ne, mk_s, mk_1, Classical.not_not, b2i_T, b2i_F, false_imp_iff, true_imp_iff, false_and, and_false, p_sw, Int.reduceAdd, Int.zero_add, Option.some.injEq, Value.int.injEq, Value.long.injEq, Value.ref.injEq, exists_eq_left', mk_I, mk_L, mk_wI, mk_wL, rf_s, rf_n, true_and, and_true, and_self, or_true, true_or, or_false, false_or, not_true_eq_false, not_false_eq_true, Option.toList_some, Option.toList_none, List.cons_append, List.nil_append, List.map_nil, List.map_cons, List.sum_nil, List.sum_cons, cat_i, cat_l, cat_r, cat_n, Nat.reduceLeDiff, Nat.reduceAdd, Nat.reduceEqDiff, Nat.zero_le, p_ent, p_u_ne, p_u_at, reduceIte, if_true, if_false, e40, eL, P_ce s5, P_ce s, nI_toInt, Int.reduceEq, Int.reduceLT, Int.cast_ofNat_Int]
end GC
