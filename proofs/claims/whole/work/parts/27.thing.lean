/-! THING, QUESTION, VISITOR, TERMS, FORCE -/
section TH
variable {d Ls : Nat} {I : Nat → Nat → Int32} {L : Nat → Nat → Int64} {R : Nat → Nat → Option Nat} {X : List pKd}
theorem sp_11 : P_m d 11 [.ref 71] (p_mk Ls I L R X) (fun v h' => v = some (.int ((1 <<< (I 71 0 &&& 31)) - 1)) ∧ h' = p_mk Ls I L R X) := by
  unfold P_m
  refine P_go ?_; simp only [bk_11_0, pb_11_0, pw_iconst, il_1, pw_aload_n0, pw_aloadN_n0, pw_getI, pw_ishl, pw_isub, pw_ret0, kd_71, rf_71_1, rf_71_3, rf_71_4, rf_71_5, rf_71_6, rf_71_11, rf_71_12, rf_71_14, Classical.not_not, mk_I, mk_L, mk_wI, mk_wL, rf_s, rf_n, true_and, and_true, and_self, or_true, true_or, or_false, false_or, not_true_eq_false, not_false_eq_true, Option.toList_some, Option.toList_none, List.cons_append, List.nil_append, List.map_nil, List.map_cons, List.sum_nil, List.sum_cons, cat_i, cat_l, cat_r, cat_n, Nat.reduceLeDiff, Nat.reduceAdd, Nat.reduceEqDiff, Nat.zero_le, p_ent, Int32.reduceToNatClampNeg, Int32.reduceLT, Int32.reduceLE, vin_l, p_u_ne, p_u_at, reduceIte, if_true, if_false, Int32.reduceToInt, Int.zero_le_ofNat, Int.cast_ofNat_Int, Int.reduceLT, Int.reduceLE, not_false_eq_true]
theorem sp_141 : P_m d 141 [.ref 123] (p_mk Ls I L R X) (fun v h' => v = some (.int ((1 <<< (I 125 52 &&& 31)) - 1)) ∧ h' = p_mk Ls I L R X) := by
  unfold P_m
  refine P_go ?_; simp only [bk_141_0, pb_141_0, pw_iconst, il_1, pw_aload_n0, pw_aloadN_n0, pw_getR, pw_bipush, bl_52, pw_iald, pw_ishl, pw_isub, pw_ret0, kd_123, rf_123_1, rf_123_2, rf_123_3, rf_123_4, rf_123_5, rf_123_7, rf_123_11, rf_123_12, rf_123_15, rf_123_16, rf_123_17, rf_123_26, rf_123_29, rf_123_30, rf_123_32, rf_123_34, rf_123_35, rf_123_45, kd_125, Classical.not_not, mk_I, mk_L, mk_wI, mk_wL, rf_s, rf_n, true_and, and_true, and_self, or_true, true_or, or_false, false_or, not_true_eq_false, not_false_eq_true, Option.toList_some, Option.toList_none, List.cons_append, List.nil_append, List.map_nil, List.map_cons, List.sum_nil, List.sum_cons, cat_i, cat_l, cat_r, cat_n, Nat.reduceLeDiff, Nat.reduceAdd, Nat.reduceEqDiff, Nat.zero_le, p_ent, Int32.reduceToNatClampNeg, Int32.reduceLT, Int32.reduceLE, vin_l, p_u_ne, p_u_at, reduceIte, if_true, if_false, Int32.reduceToInt, Int.zero_le_ofNat, Int.cast_ofNat_Int, Int.reduceLT, Int.reduceLE, not_false_eq_true]
theorem sp_5 (w : Int32) {n : Nat} (hn : n < 8) (e : I 71 0 = nI n) : P_m (d + 1) 5 [.ref 71, .int w] (p_mk Ls I L R X) (fun v h' => v = some (.int (nI n)) ∧ h' = p_mk Ls (p_u (p_u (p_u I 72 n w) 71 0 (nI (n + 1))) 71 8 ((1 <<< (nI (n + 1) &&& 31)) - 1)) L R X) := by
  unfold P_m
  refine P_go ?_; simp only [bk_5_0, pb_5_0, pw_aload_n0, pw_aloadN_n0, pw_getR, pw_getI, pw_iload_n1, pw_iast, pw_dupi, pw_dupr, pw_iconst, il_1, pw_iadd, pw_putI, pw_iv1, pw_isub, pw_ret0, kd_71, rf_71_1, rf_71_3, rf_71_4, rf_71_5, rf_71_6, rf_71_11, rf_71_12, rf_71_14, kd_72, Classical.not_not, mk_I, mk_L, mk_wI, mk_wL, rf_s, rf_n, true_and, and_true, and_self, or_true, true_or, or_false, false_or, not_true_eq_false, not_false_eq_true, Option.toList_some, Option.toList_none, List.cons_append, List.nil_append, List.map_nil, List.map_cons, List.sum_nil, List.sum_cons, cat_i, cat_l, cat_r, cat_n, Nat.reduceLeDiff, Nat.reduceAdd, Nat.reduceEqDiff, Nat.zero_le, p_ent, Int32.reduceToNatClampNeg, Int32.reduceLT, Int32.reduceLE, vin_l, p_u_ne, p_u_at, reduceIte, if_true, if_false, Int32.reduceToInt, Int.zero_le_ofNat, Int.cast_ofNat_Int, Int.reduceLT, Int.reduceLE, not_false_eq_true, e, nI_1]
  rw [nI_c (by omega)]
  refine ⟨vin_k hn (by omega), P_c sp_11 ?_⟩
  rintro _ _ ⟨rfl, rfl⟩
  simp only [pw_aload_n0, pw_aloadN_n0, pw_getR, pw_getI, pw_iload_n1, pw_iast, pw_dupi, pw_dupr, pw_iconst, il_1, pw_iadd, pw_putI, pw_iv1, pw_isub, pw_ret0, kd_71, rf_71_1, rf_71_3, rf_71_4, rf_71_5, rf_71_6, rf_71_11, rf_71_12, rf_71_14, kd_72, Classical.not_not, mk_I, mk_L, mk_wI, mk_wL, rf_s, rf_n, true_and, and_true, and_self, or_true, true_or, or_false, false_or, not_true_eq_false, not_false_eq_true, Option.toList_some, Option.toList_none, List.cons_append, List.nil_append, List.map_nil, List.map_cons, List.sum_nil, List.sum_cons, cat_i, cat_l, cat_r, cat_n, Nat.reduceLeDiff, Nat.reduceAdd, Nat.reduceEqDiff, Nat.zero_le, p_ent, Int32.reduceToNatClampNeg, Int32.reduceLT, Int32.reduceLE, vin_l, p_u_ne, p_u_at, reduceIte, if_true, if_false, Int32.reduceToInt, Int.zero_le_ofNat, Int.cast_ofNat_Int, Int.reduceLT, Int.reduceLE, not_false_eq_true, nI_pred]
theorem sh_lt : ∀ n : Nat, n ≤ 8 → ((1 : Int32) <<< (nI n &&& 31)) - 1 = nI (2 ^ n - 1) := by decide
theorem inv_thing {w : Int32} {n : Nat} (hn : n < 8) (en : I 125 52 = nI n) (hw : bn w 99) (H : Inv I R X) :
    Inv (p_u (p_u (p_u (p_u (p_u (p_u (p_u (p_u (p_u (p_u I 80 2 0) 72 n w) 71 0 (nI (n + 1))) 71 8 ((1 <<< (nI (n + 1) &&& 31)) - 1)) 32 14 0) 125 (13 + n) w) 125 52 (nI (n + 1))) 125 0 ((1 <<< (nI (n + 1) &&& 31)) - 1)) 123 31 0) 123 0 0) R X := by
  obtain ⟨h1, h2, h3, h4, h5, h6, h7, h8⟩ := H
  rw [sh_lt (n + 1) (by omega)]
  generalize hJ : p_u (p_u (p_u (p_u (p_u (p_u (p_u (p_u (p_u (p_u I 80 2 0) 72 n w) 71 0 (nI (n + 1))) 71 8 (nI (2 ^ (n + 1) - 1))) 32 14 0) 125 (13 + n) w) 125 52 (nI (n + 1))) 125 0 (nI (2 ^ (n + 1) - 1))) 123 31 0) 123 0 0 = J
  have fr : ∀ a, a ≠ 80 → a ≠ 72 → a ≠ 71 → a ≠ 32 → a ≠ 125 → a ≠ 123 → J a = I a := by
    intro a b1 b2 b3 b4 b5 b6
    rw [← hJ]
    repeat rw [p_u_ne (by omega)]
  have K52 : J 125 52 = nI (n + 1) := by rw [← hJ]; rfl
  have K0 : J 125 0 = nI (2 ^ (n + 1) - 1) := by rw [← hJ]; rfl
  have Kn : J 125 (13 + n) = w := by
    rw [← hJ, p_u_ne (by omega), p_u_ne (by omega), p_u_at, if_neg (by omega), p_u_at, if_neg (by omega), p_u_at, if_pos rfl]
  have Kx : ∀ k, k ≠ 0 → k ≠ 52 → k ≠ 13 + n → J 125 k = I 125 k := by
    intro k b1 b2 b3
    rw [← hJ, p_u_ne (by omega), p_u_ne (by omega), p_u_at, if_neg b1, p_u_at, if_neg b2, p_u_at, if_neg b3]
    rfl
  have A0 : J 71 0 = nI (n + 1) := by rw [← hJ]; rfl
  have A8 : J 71 8 = nI (2 ^ (n + 1) - 1) := by rw [← hJ]; rfl
  have Ax : ∀ k, k ≠ 0 → k ≠ 8 → J 71 k = I 71 k := by
    intro k b1 b2
    rw [← hJ, p_u_ne (by omega), p_u_ne (by omega), p_u_ne (by omega), p_u_ne (by omega), p_u_ne (by omega), p_u_ne (by omega), p_u_at, if_neg b2, p_u_at, if_neg b1]
    rfl
  have W : ∀ k, J 72 k = if k = n then w else I 72 k := by
    intro k
    rw [← hJ]
    repeat rw [p_u_ne (by omega)]
    rw [p_u_at]
    rfl
  have p2 : 2 ^ n ≤ 2 ^ (n + 1) := Nat.pow_le_pow_right (by omega) (by omega)
  have p0 : 0 < 2 ^ (n + 1) := Nat.two_pow_pos _
  obtain ⟨g1, g2, g3, g4, g5, g6, g7, g8, g9, g10, g11⟩ := h7.1
  obtain ⟨v1, v2, v3⟩ := h8
  refine ⟨invK_fr (fun a ha => fr a (by omega) (by omega) (by omega) (by omega) (by omega) (by omega)) h1, ?_, invT_fr (by rw [fr 33] <;> omega) (fr 34 (by omega) (by omega) (by omega) (by omega) (by omega) (by omega)) (fr 130 (by omega) (by omega) (by omega) (by omega) (by omega) (by omega)) (by rw [← hJ]; rfl) h3, ?_, ?_, invD_fr (by rw [← hJ]; rfl) (by rw [← hJ]; rfl) (fr 93 (by omega) (by omega) (by omega) (by omega) (by omega) (by omega)) (fr 98 (by omega) (by omega) (by omega) (by omega) (by omega) (by omega)) (fr 100 (by omega) (by omega) (by omega) (by omega) (by omega) (by omega)) (fr 141 (by omega) (by omega) (by omega) (by omega) (by omega) (by omega)) h6, ?_, ?_⟩
  · refine ⟨fun k hk => ?_, by rw [← hJ]; rfl, ?_, ?_, ?_⟩
    · rw [fr 122 (by omega) (by omega) (by omega) (by omega) (by omega) (by omega), fr 124 (by omega) (by omega) (by omega) (by omega) (by omega) (by omega)]
      exact h2.1 k hk
    · rw [← hJ]; exact h2.2.2.1
    · rw [← hJ]; exact h2.2.2.2.1
    · rw [← hJ]; exact h2.2.2.2.2
  · obtain ⟨m, k, u1, u2, u3, u4, -⟩ := h4
    exact invU_0 ⟨m, by omega, by rw [← hJ]; exact u1⟩ (by rw [← hJ]; rfl) (by rw [← hJ]; rfl)
  · exact invI_fr (fun b b1 b2 => fr b (by omega) (by omega) (by omega) (by omega) (by omega) (by omega)) (fr 126 (by omega) (by omega) (by omega) (by omega) (by omega) (by omega)) (fr 127 (by omega) (by omega) (by omega) (by omega) (by omega) (by omega)) (fun b b1 => fr b (by omega) (by omega) (by omega) (by omega) (by omega) (by omega)) rfl rfl (fun _ _ => rfl) h5
  · refine ⟨⟨by rw [A0, K52], ?_, ?_, by rw [A8, K0], ?_, ?_, ?_, ?_, ?_, ?_, ?_⟩, fun i hi => ?_, fun i hi => ?_⟩
    · rw [Ax 2 (by omega) (by omega), Kx 53 (by omega) (by omega) (by omega)]; exact g2
    · rw [Ax 7 (by omega) (by omega), Kx 4 (by omega) (by omega) (by omega)]; exact g3
    · rw [Ax 9 (by omega) (by omega), Kx 1 (by omega) (by omega) (by omega)]; exact g5
    · rw [Ax 10 (by omega) (by omega), Kx 54 (by omega) (by omega) (by omega)]; exact g6
    · rw [Ax 13 (by omega) (by omega), Kx 55 (by omega) (by omega) (by omega)]; exact g7
    · rw [Ax 15 (by omega) (by omega), Kx 56 (by omega) (by omega) (by omega)]; exact g8
    · rw [fr 78 (by omega) (by omega) (by omega) (by omega) (by omega) (by omega), Kx 3 (by omega) (by omega) (by omega)]; exact g9
    · rw [fr 78 (by omega) (by omega) (by omega) (by omega) (by omega) (by omega), Kx 51 (by omega) (by omega) (by omega)]; exact g10
    · rw [fr 78 (by omega) (by omega) (by omega) (by omega) (by omega) (by omega), Kx 2 (by omega) (by omega) (by omega)]; exact g11
    · obtain ⟨a1, a2, a3, a4, a5, a6⟩ := h7.2.1 i hi
      refine ⟨?_, ?_, ?_, ?_, ?_, fun h6 => ?_⟩
      · rw [W i]
        by_cases hin : i = n
        · rw [if_pos hin, hin, Kn]
        · rw [if_neg hin, Kx (13 + i) (by omega) (by omega) (by omega)]; exact a1
      · rw [fr 73 (by omega) (by omega) (by omega) (by omega) (by omega) (by omega), Kx (21 + i) (by omega) (by omega) (by omega)]; exact a2
      · rw [fr 74 (by omega) (by omega) (by omega) (by omega) (by omega) (by omega), Kx (29 + i) (by omega) (by omega) (by omega)]; exact a3
      · rw [fr 75 (by omega) (by omega) (by omega) (by omega) (by omega) (by omega), Kx (37 + i) (by omega) (by omega) (by omega)]; exact a4
      · rw [fr 76 (by omega) (by omega) (by omega) (by omega) (by omega) (by omega), Kx (5 + i) (by omega) (by omega) (by omega)]; exact a5
      · rw [fr 77 (by omega) (by omega) (by omega) (by omega) (by omega) (by omega), Kx (45 + i) (by omega) (by omega) (by omega)]; exact a6 h6
    · rw [Kx 55 (by omega) (by omega) (by omega)] at hi
      obtain ⟨t, t1, t2, t3⟩ := h7.2.2 i hi
      exact ⟨t, t1, t2, lawRel_same t3 (fun a ha => fr a (by omega) (by omega) (by omega) (by omega) (by omega) (by omega)) (fun _ _ => rfl) (fun k k1 k2 => Kx k (by omega) (by omega) (by omega))⟩
  · refine ⟨⟨by rw [K52]; exact ⟨n + 1, by omega, rfl⟩, ?_, ?_, ?_, ?_, ?_, ?_, ?_⟩, fun i hi => ?_, ?_, ?_, ?_⟩
    · rw [Kx 53 (by omega) (by omega) (by omega)]; exact v1.2.1
    · rw [Kx 54 (by omega) (by omega) (by omega)]; exact v1.2.2.1
    · rw [Kx 55 (by omega) (by omega) (by omega)]; exact v1.2.2.2.1
    · rw [Kx 1 (by omega) (by omega) (by omega)]; exact v1.2.2.2.2.1
    · rw [Kx 2 (by omega) (by omega) (by omega)]; exact v1.2.2.2.2.2.1
    · rw [Kx 3 (by omega) (by omega) (by omega)]; exact v1.2.2.2.2.2.2.1
    · rw [Kx 51 (by omega) (by omega) (by omega)]; exact v1.2.2.2.2.2.2.2
    · obtain ⟨a1, a2, a3, a4, a5, a6⟩ := v2 i hi
      refine ⟨?_, ?_, ?_, ?_, ?_, fun h6 => ?_⟩
      · by_cases hin : i = n
        · rw [hin, Kn]; exact hw
        · rw [Kx (13 + i) (by omega) (by omega) (by omega)]; exact a1
      · rw [Kx (21 + i) (by omega) (by omega) (by omega)]; exact a2
      · rw [Kx (29 + i) (by omega) (by omega) (by omega)]; exact a3
      · rw [Kx (37 + i) (by omega) (by omega) (by omega)]; exact a4
      · rw [Kx (5 + i) (by omega) (by omega) (by omega)]; exact a5
      · rw [Kx (45 + i) (by omega) (by omega) (by omega)]; exact a6 h6
    · rw [Kx 4 (by omega) (by omega) (by omega), K52, nI_c (by omega)]
      rcases v3.1 with e | ⟨t, ht, e⟩
      · exact Or.inl e
      · rw [en, nI_c (by omega)] at ht
        exact Or.inr ⟨t, by omega, e⟩
    · rw [K0, K52, nI_c (by omega)]
      exact ⟨2 ^ (n + 1) - 1, by omega, rfl⟩
    · rw [Kx 56 (by omega) (by omega) (by omega), Kx 55 (by omega) (by omega) (by omega)]
      exact v3.2.2
theorem q_thing (w : Int32) (H : Inv I R X) : Same (d + 2) 81 144 [.int w] Ls (p_mk Ls I L R X) := by
  have H0 := H
  obtain ⟨h1, h2, h3, h4, h5, h6, h7, h8⟩ := H0
  obtain ⟨n, hn, en⟩ := h8.1.1
  have en2 : I 71 0 = nI n := h7.1.1.trans en
  have bad : ¬ (1 ≤ w ∧ w ≤ 99) → Same (d + 2) 81 144 [.int w] Ls (p_mk Ls I L R X) := by
    intro c
    have leaf : P_run (d + 2) 81 (p_bk 81 1) 0 0 [.ref 32, .int w] [] (p_mk Ls I L R X) (fun v h1 => ∃ r : Int32, v = some (.int r) ∧ P_m (d + 2) 144 (.ref 123 :: [.int w]) h1 (fun v2 h2 => v2 = some (.int r) ∧ InvH Ls h2)) := by
      unfold P_m
      refine P_go ?_; simp only [bk_81_1, pb_81_1, pw_aload_n0, pw_aloadN_n0, pw_iconst, il_m1, pw_iv2, pw_ret0, kd_32, rf_32_0, rf_32_1, rf_32_2, rf_32_3, rf_32_4, rf_32_5, rf_32_6, rf_32_7, rf_32_8, rf_32_9, rf_32_11, rf_32_12, rf_32_13, kd_71, rf_71_1, rf_71_3, rf_71_4, rf_71_5, rf_71_6, rf_71_11, rf_71_12, rf_71_14, Classical.not_not, mk_I, mk_L, mk_wI, mk_wL, rf_s, rf_n, true_and, and_true, and_self, or_true, true_or, or_false, false_or, not_true_eq_false, not_false_eq_true, Option.toList_some, Option.toList_none, List.cons_append, List.nil_append, List.map_nil, List.map_cons, List.sum_nil, List.sum_cons, cat_i, cat_l, cat_r, cat_n, Nat.reduceLeDiff, Nat.reduceAdd, Nat.reduceEqDiff, Nat.zero_le, p_ent, Int32.reduceToNatClampNeg, Int32.reduceLT, Int32.reduceLE, vin_l, p_u_ne, p_u_at, reduceIte, if_true, if_false, Int32.reduceToInt, Int.zero_le_ofNat, Int.cast_ofNat_Int, Int.reduceLT, Int.reduceLE, not_false_eq_true]
      refine P_c rc_1 ?_
      rintro _ _ ⟨rfl, rfl⟩
      simp only [pw_aload_n0, pw_aloadN_n0, pw_iconst, il_m1, pw_iv2, pw_ret0, kd_32, rf_32_0, rf_32_1, rf_32_2, rf_32_3, rf_32_4, rf_32_5, rf_32_6, rf_32_7, rf_32_8, rf_32_9, rf_32_11, rf_32_12, rf_32_13, Classical.not_not, mk_I, mk_L, mk_wI, mk_wL, rf_s, rf_n, true_and, and_true, and_self, or_true, true_or, or_false, false_or, not_true_eq_false, not_false_eq_true, Option.toList_some, Option.toList_none, List.cons_append, List.nil_append, List.map_nil, List.map_cons, List.sum_nil, List.sum_cons, cat_i, cat_l, cat_r, cat_n, Nat.reduceLeDiff, Nat.reduceAdd, Nat.reduceEqDiff, Nat.zero_le, p_ent, Int32.reduceToNatClampNeg, Int32.reduceLT, Int32.reduceLE, vin_l, p_u_ne, p_u_at, reduceIte, if_true, if_false, Int32.reduceToInt, Int.zero_le_ofNat, Int.cast_ofNat_Int, Int.reduceLT, Int.reduceLE, not_false_eq_true]
      refine ⟨_, rfl, ?_⟩
      refine P_go ?_; simp only [bk_144_0, pb_144_0, pw_iload_n1, pw_iconst, il_1, pw_bipush, bl_99, pw_is3, pw_zne, pw_aload_n0, pw_aloadN_n0, il_m1, pw_iv2, pw_ret0, kd_123, rf_123_1, rf_123_2, rf_123_3, rf_123_4, rf_123_5, rf_123_7, rf_123_11, rf_123_12, rf_123_15, rf_123_16, rf_123_17, rf_123_26, rf_123_29, rf_123_30, rf_123_32, rf_123_34, rf_123_35, rf_123_45, Classical.not_not, mk_I, mk_L, mk_wI, mk_wL, rf_s, rf_n, true_and, and_true, and_self, or_true, true_or, or_false, false_or, not_true_eq_false, not_false_eq_true, Option.toList_some, Option.toList_none, List.cons_append, List.nil_append, List.map_nil, List.map_cons, List.sum_nil, List.sum_cons, cat_i, cat_l, cat_r, cat_n, Nat.reduceLeDiff, Nat.reduceAdd, Nat.reduceEqDiff, Nat.zero_le, p_ent, Int32.reduceToNatClampNeg, Int32.reduceLT, Int32.reduceLE, vin_l, p_u_ne, p_u_at, reduceIte, if_true, if_false, Int32.reduceToInt, Int.zero_le_ofNat, Int.cast_ofNat_Int, Int.reduceLT, Int.reduceLE, not_false_eq_true]
      refine P_c (sp_125 _ _ _) ?_
      rintro _ _ ⟨rfl, rfl⟩
      simp only [pw_iload_n1, pw_iconst, il_1, pw_bipush, bl_99, pw_is3, pw_zne, pw_aload_n0, pw_aloadN_n0, il_m1, pw_iv2, pw_ret0, kd_123, rf_123_1, rf_123_2, rf_123_3, rf_123_4, rf_123_5, rf_123_7, rf_123_11, rf_123_12, rf_123_15, rf_123_16, rf_123_17, rf_123_26, rf_123_29, rf_123_30, rf_123_32, rf_123_34, rf_123_35, rf_123_45, Classical.not_not, mk_I, mk_L, mk_wI, mk_wL, rf_s, rf_n, true_and, and_true, and_self, or_true, true_or, or_false, false_or, not_true_eq_false, not_false_eq_true, Option.toList_some, Option.toList_none, List.cons_append, List.nil_append, List.map_nil, List.map_cons, List.sum_nil, List.sum_cons, cat_i, cat_l, cat_r, cat_n, Nat.reduceLeDiff, Nat.reduceAdd, Nat.reduceEqDiff, Nat.zero_le, p_ent, Int32.reduceToNatClampNeg, Int32.reduceLT, Int32.reduceLE, vin_l, p_u_ne, p_u_at, reduceIte, if_true, if_false, Int32.reduceToInt, Int.zero_le_ofNat, Int.cast_ofNat_Int, Int.reduceLT, Int.reduceLE, not_false_eq_true, b2i_0]
      refine ⟨fun c3 => absurd c3 c, fun _ => ?_⟩
      refine P_c rm_1 ?_
      rintro _ _ ⟨rfl, rfl⟩
      simp only [pw_iload_n1, pw_iconst, il_1, pw_bipush, bl_99, pw_is3, pw_zne, pw_aload_n0, pw_aloadN_n0, il_m1, pw_iv2, pw_ret0, kd_123, rf_123_1, rf_123_2, rf_123_3, rf_123_4, rf_123_5, rf_123_7, rf_123_11, rf_123_12, rf_123_15, rf_123_16, rf_123_17, rf_123_26, rf_123_29, rf_123_30, rf_123_32, rf_123_34, rf_123_35, rf_123_45, Classical.not_not, mk_I, mk_L, mk_wI, mk_wL, rf_s, rf_n, true_and, and_true, and_self, or_true, true_or, or_false, false_or, not_true_eq_false, not_false_eq_true, Option.toList_some, Option.toList_none, List.cons_append, List.nil_append, List.map_nil, List.map_cons, List.sum_nil, List.sum_cons, cat_i, cat_l, cat_r, cat_n, Nat.reduceLeDiff, Nat.reduceAdd, Nat.reduceEqDiff, Nat.zero_le, p_ent, Int32.reduceToNatClampNeg, Int32.reduceLT, Int32.reduceLE, vin_l, p_u_ne, p_u_at, reduceIte, if_true, if_false, Int32.reduceToInt, Int.zero_le_ofNat, Int.cast_ofNat_Int, Int.reduceLT, Int.reduceLE, not_false_eq_true]
      exact ⟨_, _, _, _, rfl, inv_no (-1) 1 (by decide) H⟩
    unfold Same
    show P_run _ _ _ _ _ _ _ _ _
    refine P_go ?_; simp only [bk_81_0, pb_81_0, pw_iload_n1, pw_iconst, il_1, pw_clt, pw_bipush, bl_99, pw_cle, pw_nop, kd_32, rf_32_0, rf_32_1, rf_32_2, rf_32_3, rf_32_4, rf_32_5, rf_32_6, rf_32_7, rf_32_8, rf_32_9, rf_32_11, rf_32_12, rf_32_13, kd_71, rf_71_1, rf_71_3, rf_71_4, rf_71_5, rf_71_6, rf_71_11, rf_71_12, rf_71_14, Classical.not_not, mk_I, mk_L, mk_wI, mk_wL, rf_s, rf_n, true_and, and_true, and_self, or_true, true_or, or_false, false_or, not_true_eq_false, not_false_eq_true, Option.toList_some, Option.toList_none, List.cons_append, List.nil_append, List.map_nil, List.map_cons, List.sum_nil, List.sum_cons, cat_i, cat_l, cat_r, cat_n, Nat.reduceLeDiff, Nat.reduceAdd, Nat.reduceEqDiff, Nat.zero_le, p_ent, Int32.reduceToNatClampNeg, Int32.reduceLT, Int32.reduceLE, vin_l, p_u_ne, p_u_at, reduceIte, if_true, if_false, Int32.reduceToInt, Int.zero_le_ofNat, Int.cast_ofNat_Int, Int.reduceLT, Int.reduceLE, not_false_eq_true]
    exact ⟨fun _ => leaf, fun c1 => ⟨fun c2 => absurd ⟨Int32.not_lt.mp c1, c2⟩ c, fun _ => leaf⟩⟩
  by_cases c : 1 ≤ w ∧ w ≤ 99
  · unfold Same P_m
    refine P_go ?_; simp only [bk_81_0, pb_81_0, pw_iload_n1, pw_iconst, il_1, pw_clt, pw_bipush, bl_99, pw_cle, pw_nop, kd_32, rf_32_0, rf_32_1, rf_32_2, rf_32_3, rf_32_4, rf_32_5, rf_32_6, rf_32_7, rf_32_8, rf_32_9, rf_32_11, rf_32_12, rf_32_13, kd_71, rf_71_1, rf_71_3, rf_71_4, rf_71_5, rf_71_6, rf_71_11, rf_71_12, rf_71_14, Classical.not_not, mk_I, mk_L, mk_wI, mk_wL, rf_s, rf_n, true_and, and_true, and_self, or_true, true_or, or_false, false_or, not_true_eq_false, not_false_eq_true, Option.toList_some, Option.toList_none, List.cons_append, List.nil_append, List.map_nil, List.map_cons, List.sum_nil, List.sum_cons, cat_i, cat_l, cat_r, cat_n, Nat.reduceLeDiff, Nat.reduceAdd, Nat.reduceEqDiff, Nat.zero_le, p_ent, Int32.reduceToNatClampNeg, Int32.reduceLT, Int32.reduceLE, vin_l, p_u_ne, p_u_at, reduceIte, if_true, if_false, Int32.reduceToInt, Int.zero_le_ofNat, Int.cast_ofNat_Int, Int.reduceLT, Int.reduceLE, not_false_eq_true]
    refine ⟨fun c1 => absurd c.1 (Int32.not_le.mpr c1), fun _ => ⟨fun _ => ?_, fun c1 => absurd c.2 c1⟩⟩
    refine P_go ?_; simp only [bk_81_2, pb_81_2, pw_aload_n0, pw_aloadN_n0, pw_getR, pw_getI, pw_bipush, bl_8, pw_clt, bl_m5, pw_iv2, pw_ret0, kd_32, rf_32_0, rf_32_1, rf_32_2, rf_32_3, rf_32_4, rf_32_5, rf_32_6, rf_32_7, rf_32_8, rf_32_9, rf_32_11, rf_32_12, rf_32_13, kd_71, rf_71_1, rf_71_3, rf_71_4, rf_71_5, rf_71_6, rf_71_11, rf_71_12, rf_71_14, Classical.not_not, mk_I, mk_L, mk_wI, mk_wL, rf_s, rf_n, true_and, and_true, and_self, or_true, true_or, or_false, false_or, not_true_eq_false, not_false_eq_true, Option.toList_some, Option.toList_none, List.cons_append, List.nil_append, List.map_nil, List.map_cons, List.sum_nil, List.sum_cons, cat_i, cat_l, cat_r, cat_n, Nat.reduceLeDiff, Nat.reduceAdd, Nat.reduceEqDiff, Nat.zero_le, p_ent, Int32.reduceToNatClampNeg, Int32.reduceLT, Int32.reduceLE, vin_l, p_u_ne, p_u_at, reduceIte, if_true, if_false, Int32.reduceToInt, Int.zero_le_ofNat, Int.cast_ofNat_Int, Int.reduceLT, Int.reduceLE, not_false_eq_true, en2]
    refine ⟨fun c2 => ?_, fun c2 => ?_⟩
    · have hn8 : n < 8 := (nI_ltI (a := n) (b := 8) (by omega) (by omega)).mp c2
      refine P_go ?_; simp only [bk_81_3, pb_81_3, pw_aload_n0, pw_aloadN_n0, pw_getR, pw_iv1, pw_iload_n1, pw_iv2, pw_ret0, kd_32, rf_32_0, rf_32_1, rf_32_2, rf_32_3, rf_32_4, rf_32_5, rf_32_6, rf_32_7, rf_32_8, rf_32_9, rf_32_11, rf_32_12, rf_32_13, kd_71, rf_71_1, rf_71_3, rf_71_4, rf_71_5, rf_71_6, rf_71_11, rf_71_12, rf_71_14, kd_80, rf_80_0, Classical.not_not, mk_I, mk_L, mk_wI, mk_wL, rf_s, rf_n, true_and, and_true, and_self, or_true, true_or, or_false, false_or, not_true_eq_false, not_false_eq_true, Option.toList_some, Option.toList_none, List.cons_append, List.nil_append, List.map_nil, List.map_cons, List.sum_nil, List.sum_cons, cat_i, cat_l, cat_r, cat_n, Nat.reduceLeDiff, Nat.reduceAdd, Nat.reduceEqDiff, Nat.zero_le, p_ent, Int32.reduceToNatClampNeg, Int32.reduceLT, Int32.reduceLE, vin_l, p_u_ne, p_u_at, reduceIte, if_true, if_false, Int32.reduceToInt, Int.zero_le_ofNat, Int.cast_ofNat_Int, Int.reduceLT, Int.reduceLE, not_false_eq_true]
      refine P_c sp_53 ?_
      rintro _ _ ⟨rfl, rfl⟩
      simp only [pw_aload_n0, pw_aloadN_n0, pw_getR, pw_iv1, pw_iload_n1, pw_iv2, pw_ret0, kd_32, rf_32_0, rf_32_1, rf_32_2, rf_32_3, rf_32_4, rf_32_5, rf_32_6, rf_32_7, rf_32_8, rf_32_9, rf_32_11, rf_32_12, rf_32_13, kd_71, rf_71_1, rf_71_3, rf_71_4, rf_71_5, rf_71_6, rf_71_11, rf_71_12, rf_71_14, kd_80, rf_80_0, Classical.not_not, mk_I, mk_L, mk_wI, mk_wL, rf_s, rf_n, true_and, and_true, and_self, or_true, true_or, or_false, false_or, not_true_eq_false, not_false_eq_true, Option.toList_some, Option.toList_none, List.cons_append, List.nil_append, List.map_nil, List.map_cons, List.sum_nil, List.sum_cons, cat_i, cat_l, cat_r, cat_n, Nat.reduceLeDiff, Nat.reduceAdd, Nat.reduceEqDiff, Nat.zero_le, p_ent, Int32.reduceToNatClampNeg, Int32.reduceLT, Int32.reduceLE, vin_l, p_u_ne, p_u_at, reduceIte, if_true, if_false, Int32.reduceToInt, Int.zero_le_ofNat, Int.cast_ofNat_Int, Int.reduceLT, Int.reduceLE, not_false_eq_true]
      refine P_c (sp_5 w hn8 (by exact en2)) ?_
      rintro _ _ ⟨rfl, rfl⟩
      simp only [pw_aload_n0, pw_aloadN_n0, pw_getR, pw_iv1, pw_iload_n1, pw_iv2, pw_ret0, kd_32, rf_32_0, rf_32_1, rf_32_2, rf_32_3, rf_32_4, rf_32_5, rf_32_6, rf_32_7, rf_32_8, rf_32_9, rf_32_11, rf_32_12, rf_32_13, kd_71, rf_71_1, rf_71_3, rf_71_4, rf_71_5, rf_71_6, rf_71_11, rf_71_12, rf_71_14, kd_80, rf_80_0, Classical.not_not, mk_I, mk_L, mk_wI, mk_wL, rf_s, rf_n, true_and, and_true, and_self, or_true, true_or, or_false, false_or, not_true_eq_false, not_false_eq_true, Option.toList_some, Option.toList_none, List.cons_append, List.nil_append, List.map_nil, List.map_cons, List.sum_nil, List.sum_cons, cat_i, cat_l, cat_r, cat_n, Nat.reduceLeDiff, Nat.reduceAdd, Nat.reduceEqDiff, Nat.zero_le, p_ent, Int32.reduceToNatClampNeg, Int32.reduceLT, Int32.reduceLE, vin_l, p_u_ne, p_u_at, reduceIte, if_true, if_false, Int32.reduceToInt, Int.zero_le_ofNat, Int.cast_ofNat_Int, Int.reduceLT, Int.reduceLE, not_false_eq_true]
      refine P_c (sp_117 _) ?_
      rintro _ _ ⟨rfl, rfl⟩
      simp only [pw_aload_n0, pw_aloadN_n0, pw_getR, pw_iv1, pw_iload_n1, pw_iv2, pw_ret0, kd_32, rf_32_0, rf_32_1, rf_32_2, rf_32_3, rf_32_4, rf_32_5, rf_32_6, rf_32_7, rf_32_8, rf_32_9, rf_32_11, rf_32_12, rf_32_13, kd_71, rf_71_1, rf_71_3, rf_71_4, rf_71_5, rf_71_6, rf_71_11, rf_71_12, rf_71_14, kd_80, rf_80_0, Classical.not_not, mk_I, mk_L, mk_wI, mk_wL, rf_s, rf_n, true_and, and_true, and_self, or_true, true_or, or_false, false_or, not_true_eq_false, not_false_eq_true, Option.toList_some, Option.toList_none, List.cons_append, List.nil_append, List.map_nil, List.map_cons, List.sum_nil, List.sum_cons, cat_i, cat_l, cat_r, cat_n, Nat.reduceLeDiff, Nat.reduceAdd, Nat.reduceEqDiff, Nat.zero_le, p_ent, Int32.reduceToNatClampNeg, Int32.reduceLT, Int32.reduceLE, vin_l, p_u_ne, p_u_at, reduceIte, if_true, if_false, Int32.reduceToInt, Int.zero_le_ofNat, Int.cast_ofNat_Int, Int.reduceLT, Int.reduceLE, not_false_eq_true]
      refine ⟨_, rfl, ?_⟩
      refine P_go ?_; simp only [bk_144_0, pb_144_0, pw_iload_n1, pw_iconst, il_1, pw_bipush, bl_99, pw_is3, pw_zne, pw_aload_n0, pw_aloadN_n0, il_m1, pw_iv2, pw_ret0, kd_123, rf_123_1, rf_123_2, rf_123_3, rf_123_4, rf_123_5, rf_123_7, rf_123_11, rf_123_12, rf_123_15, rf_123_16, rf_123_17, rf_123_26, rf_123_29, rf_123_30, rf_123_32, rf_123_34, rf_123_35, rf_123_45, Classical.not_not, mk_I, mk_L, mk_wI, mk_wL, rf_s, rf_n, true_and, and_true, and_self, or_true, true_or, or_false, false_or, not_true_eq_false, not_false_eq_true, Option.toList_some, Option.toList_none, List.cons_append, List.nil_append, List.map_nil, List.map_cons, List.sum_nil, List.sum_cons, cat_i, cat_l, cat_r, cat_n, Nat.reduceLeDiff, Nat.reduceAdd, Nat.reduceEqDiff, Nat.zero_le, p_ent, Int32.reduceToNatClampNeg, Int32.reduceLT, Int32.reduceLE, vin_l, p_u_ne, p_u_at, reduceIte, if_true, if_false, Int32.reduceToInt, Int.zero_le_ofNat, Int.cast_ofNat_Int, Int.reduceLT, Int.reduceLE, not_false_eq_true]
      refine P_c (sp_125 _ _ _) ?_
      rintro _ _ ⟨rfl, rfl⟩
      simp only [pw_iload_n1, pw_iconst, il_1, pw_bipush, bl_99, pw_is3, pw_zne, pw_aload_n0, pw_aloadN_n0, il_m1, pw_iv2, pw_ret0, kd_123, rf_123_1, rf_123_2, rf_123_3, rf_123_4, rf_123_5, rf_123_7, rf_123_11, rf_123_12, rf_123_15, rf_123_16, rf_123_17, rf_123_26, rf_123_29, rf_123_30, rf_123_32, rf_123_34, rf_123_35, rf_123_45, Classical.not_not, mk_I, mk_L, mk_wI, mk_wL, rf_s, rf_n, true_and, and_true, and_self, or_true, true_or, or_false, false_or, not_true_eq_false, not_false_eq_true, Option.toList_some, Option.toList_none, List.cons_append, List.nil_append, List.map_nil, List.map_cons, List.sum_nil, List.sum_cons, cat_i, cat_l, cat_r, cat_n, Nat.reduceLeDiff, Nat.reduceAdd, Nat.reduceEqDiff, Nat.zero_le, p_ent, Int32.reduceToNatClampNeg, Int32.reduceLT, Int32.reduceLE, vin_l, p_u_ne, p_u_at, reduceIte, if_true, if_false, Int32.reduceToInt, Int.zero_le_ofNat, Int.cast_ofNat_Int, Int.reduceLT, Int.reduceLE, not_false_eq_true, b2i_0]
      refine ⟨fun _ => ?_, fun c3 => absurd c c3⟩
      refine P_go ?_; simp only [bk_144_1, pb_144_1, pw_aload_n0, pw_aloadN_n0, pw_getR, pw_bipush, bl_52, pw_iald, pw_istore_n2, ps_2, pe_2, po_i2, po_r2, po_n2, po_u2, pw_iload_n2, bl_8, pw_cne, bl_m5, pw_iv2, pw_ret0, kd_123, rf_123_1, rf_123_2, rf_123_3, rf_123_4, rf_123_5, rf_123_7, rf_123_11, rf_123_12, rf_123_15, rf_123_16, rf_123_17, rf_123_26, rf_123_29, rf_123_30, rf_123_32, rf_123_34, rf_123_35, rf_123_45, kd_125, Classical.not_not, mk_I, mk_L, mk_wI, mk_wL, rf_s, rf_n, true_and, and_true, and_self, or_true, true_or, or_false, false_or, not_true_eq_false, not_false_eq_true, Option.toList_some, Option.toList_none, List.cons_append, List.nil_append, List.map_nil, List.map_cons, List.sum_nil, List.sum_cons, cat_i, cat_l, cat_r, cat_n, Nat.reduceLeDiff, Nat.reduceAdd, Nat.reduceEqDiff, Nat.zero_le, p_ent, Int32.reduceToNatClampNeg, Int32.reduceLT, Int32.reduceLE, vin_l, p_u_ne, p_u_at, reduceIte, if_true, if_false, Int32.reduceToInt, Int.zero_le_ofNat, Int.cast_ofNat_Int, Int.reduceLT, Int.reduceLE, not_false_eq_true, en]
      refine ⟨fun _ => ?_, fun c4 => absurd ((nI_eq (a := n) (b := 8) (by omega) (by omega)).mp c4) (by omega)⟩
      have e13 : ((13 : Int32) + nI n).toNatClampNeg = 13 + n := by rw [la_13, nI_c (by omega)]
      have v13 : vp_in ((13 : Int32) + nI n) 5664 := by rw [la_13]; exact vin_k (by omega) (by omega)
      have n13 : ¬ 52 = 13 + n := by omega
      refine P_go ?_; simp only [bk_144_2, pb_144_2, pw_aload_n0, pw_aloadN_n0, pw_getR, pw_bipush, bl_13, pw_iload_n2, pw_iadd, pw_iload_n1, pw_iast, bl_52, pw_dup2r, pw_iald, pw_iconst, il_1, il_0, pw_iv1, pw_iv2, pw_ret0, kd_123, rf_123_1, rf_123_2, rf_123_3, rf_123_4, rf_123_5, rf_123_7, rf_123_11, rf_123_12, rf_123_15, rf_123_16, rf_123_17, rf_123_26, rf_123_29, rf_123_30, rf_123_32, rf_123_34, rf_123_35, rf_123_45, kd_125, Classical.not_not, mk_I, mk_L, mk_wI, mk_wL, rf_s, rf_n, true_and, and_true, and_self, or_true, true_or, or_false, false_or, not_true_eq_false, not_false_eq_true, Option.toList_some, Option.toList_none, List.cons_append, List.nil_append, List.map_nil, List.map_cons, List.sum_nil, List.sum_cons, cat_i, cat_l, cat_r, cat_n, Nat.reduceLeDiff, Nat.reduceAdd, Nat.reduceEqDiff, Nat.zero_le, p_ent, Int32.reduceToNatClampNeg, Int32.reduceLT, Int32.reduceLE, vin_l, p_u_ne, p_u_at, reduceIte, if_true, if_false, Int32.reduceToInt, Int.zero_le_ofNat, Int.cast_ofNat_Int, Int.reduceLT, Int.reduceLE, not_false_eq_true, en, nI_1, e13, v13, n13]
      refine P_c sp_141 ?_
      rintro _ _ ⟨rfl, rfl⟩
      simp only [pw_aload_n0, pw_aloadN_n0, pw_getR, pw_bipush, bl_13, pw_iload_n2, pw_iadd, pw_iload_n1, pw_iast, bl_52, pw_dup2r, pw_iald, pw_iconst, il_1, il_0, pw_iv1, pw_iv2, pw_ret0, kd_123, rf_123_1, rf_123_2, rf_123_3, rf_123_4, rf_123_5, rf_123_7, rf_123_11, rf_123_12, rf_123_15, rf_123_16, rf_123_17, rf_123_26, rf_123_29, rf_123_30, rf_123_32, rf_123_34, rf_123_35, rf_123_45, kd_125, Classical.not_not, mk_I, mk_L, mk_wI, mk_wL, rf_s, rf_n, true_and, and_true, and_self, or_true, true_or, or_false, false_or, not_true_eq_false, not_false_eq_true, Option.toList_some, Option.toList_none, List.cons_append, List.nil_append, List.map_nil, List.map_cons, List.sum_nil, List.sum_cons, cat_i, cat_l, cat_r, cat_n, Nat.reduceLeDiff, Nat.reduceAdd, Nat.reduceEqDiff, Nat.zero_le, p_ent, Int32.reduceToNatClampNeg, Int32.reduceLT, Int32.reduceLE, vin_l, p_u_ne, p_u_at, reduceIte, if_true, if_false, Int32.reduceToInt, Int.zero_le_ofNat, Int.cast_ofNat_Int, Int.reduceLT, Int.reduceLE, not_false_eq_true]
      refine P_c (sp_130 _) ?_
      rintro _ _ ⟨rfl, rfl⟩
      simp only [pw_aload_n0, pw_aloadN_n0, pw_getR, pw_bipush, bl_13, pw_iload_n2, pw_iadd, pw_iload_n1, pw_iast, bl_52, pw_dup2r, pw_iald, pw_iconst, il_1, il_0, pw_iv1, pw_iv2, pw_ret0, kd_123, rf_123_1, rf_123_2, rf_123_3, rf_123_4, rf_123_5, rf_123_7, rf_123_11, rf_123_12, rf_123_15, rf_123_16, rf_123_17, rf_123_26, rf_123_29, rf_123_30, rf_123_32, rf_123_34, rf_123_35, rf_123_45, Classical.not_not, mk_I, mk_L, mk_wI, mk_wL, rf_s, rf_n, true_and, and_true, and_self, or_true, true_or, or_false, false_or, not_true_eq_false, not_false_eq_true, Option.toList_some, Option.toList_none, List.cons_append, List.nil_append, List.map_nil, List.map_cons, List.sum_nil, List.sum_cons, cat_i, cat_l, cat_r, cat_n, Nat.reduceLeDiff, Nat.reduceAdd, Nat.reduceEqDiff, Nat.zero_le, p_ent, Int32.reduceToNatClampNeg, Int32.reduceLT, Int32.reduceLE, vin_l, p_u_ne, p_u_at, reduceIte, if_true, if_false, Int32.reduceToInt, Int.zero_le_ofNat, Int.cast_ofNat_Int, Int.reduceLT, Int.reduceLE, not_false_eq_true]
      refine ⟨_, _, _, _, rfl, inv_thing hn8 en ?_ H⟩
      obtain ⟨k, hk, e⟩ := nI_of2 (x := w) (M := 99) (n := 99) rfl (fun c9 => absurd c.1 (Int32.not_le.mpr (Int32.lt_trans c9 (by decide)))) c.2
      exact ⟨k, hk, e⟩
    · have hn8 : n = 8 := by
        have := mt (nI_ltI (a := n) (b := 8) (by omega) (by omega)).mpr c2
        omega
      subst hn8
      refine P_c rc_5 ?_
      rintro _ _ ⟨rfl, rfl⟩
      simp only [pw_aload_n0, pw_aloadN_n0, pw_getR, pw_getI, pw_bipush, bl_8, pw_clt, bl_m5, pw_iv2, pw_ret0, kd_32, rf_32_0, rf_32_1, rf_32_2, rf_32_3, rf_32_4, rf_32_5, rf_32_6, rf_32_7, rf_32_8, rf_32_9, rf_32_11, rf_32_12, rf_32_13, Classical.not_not, mk_I, mk_L, mk_wI, mk_wL, rf_s, rf_n, true_and, and_true, and_self, or_true, true_or, or_false, false_or, not_true_eq_false, not_false_eq_true, Option.toList_some, Option.toList_none, List.cons_append, List.nil_append, List.map_nil, List.map_cons, List.sum_nil, List.sum_cons, cat_i, cat_l, cat_r, cat_n, Nat.reduceLeDiff, Nat.reduceAdd, Nat.reduceEqDiff, Nat.zero_le, p_ent, Int32.reduceToNatClampNeg, Int32.reduceLT, Int32.reduceLE, vin_l, p_u_ne, p_u_at, reduceIte, if_true, if_false, Int32.reduceToInt, Int.zero_le_ofNat, Int.cast_ofNat_Int, Int.reduceLT, Int.reduceLE, not_false_eq_true]
      refine ⟨_, rfl, ?_⟩
      refine P_go ?_; simp only [bk_144_0, pb_144_0, pw_iload_n1, pw_iconst, il_1, pw_bipush, bl_99, pw_is3, pw_zne, pw_aload_n0, pw_aloadN_n0, il_m1, pw_iv2, pw_ret0, kd_123, rf_123_1, rf_123_2, rf_123_3, rf_123_4, rf_123_5, rf_123_7, rf_123_11, rf_123_12, rf_123_15, rf_123_16, rf_123_17, rf_123_26, rf_123_29, rf_123_30, rf_123_32, rf_123_34, rf_123_35, rf_123_45, Classical.not_not, mk_I, mk_L, mk_wI, mk_wL, rf_s, rf_n, true_and, and_true, and_self, or_true, true_or, or_false, false_or, not_true_eq_false, not_false_eq_true, Option.toList_some, Option.toList_none, List.cons_append, List.nil_append, List.map_nil, List.map_cons, List.sum_nil, List.sum_cons, cat_i, cat_l, cat_r, cat_n, Nat.reduceLeDiff, Nat.reduceAdd, Nat.reduceEqDiff, Nat.zero_le, p_ent, Int32.reduceToNatClampNeg, Int32.reduceLT, Int32.reduceLE, vin_l, p_u_ne, p_u_at, reduceIte, if_true, if_false, Int32.reduceToInt, Int.zero_le_ofNat, Int.cast_ofNat_Int, Int.reduceLT, Int.reduceLE, not_false_eq_true]
      refine P_c (sp_125 _ _ _) ?_
      rintro _ _ ⟨rfl, rfl⟩
      simp only [pw_iload_n1, pw_iconst, il_1, pw_bipush, bl_99, pw_is3, pw_zne, pw_aload_n0, pw_aloadN_n0, il_m1, pw_iv2, pw_ret0, kd_123, rf_123_1, rf_123_2, rf_123_3, rf_123_4, rf_123_5, rf_123_7, rf_123_11, rf_123_12, rf_123_15, rf_123_16, rf_123_17, rf_123_26, rf_123_29, rf_123_30, rf_123_32, rf_123_34, rf_123_35, rf_123_45, Classical.not_not, mk_I, mk_L, mk_wI, mk_wL, rf_s, rf_n, true_and, and_true, and_self, or_true, true_or, or_false, false_or, not_true_eq_false, not_false_eq_true, Option.toList_some, Option.toList_none, List.cons_append, List.nil_append, List.map_nil, List.map_cons, List.sum_nil, List.sum_cons, cat_i, cat_l, cat_r, cat_n, Nat.reduceLeDiff, Nat.reduceAdd, Nat.reduceEqDiff, Nat.zero_le, p_ent, Int32.reduceToNatClampNeg, Int32.reduceLT, Int32.reduceLE, vin_l, p_u_ne, p_u_at, reduceIte, if_true, if_false, Int32.reduceToInt, Int.zero_le_ofNat, Int.cast_ofNat_Int, Int.reduceLT, Int.reduceLE, not_false_eq_true, b2i_0]
      refine ⟨fun _ => ?_, fun c3 => absurd c c3⟩
      refine P_go ?_; simp only [bk_144_1, pb_144_1, pw_aload_n0, pw_aloadN_n0, pw_getR, pw_bipush, bl_52, pw_iald, pw_istore_n2, ps_2, pe_2, po_i2, po_r2, po_n2, po_u2, pw_iload_n2, bl_8, pw_cne, bl_m5, pw_iv2, pw_ret0, kd_123, rf_123_1, rf_123_2, rf_123_3, rf_123_4, rf_123_5, rf_123_7, rf_123_11, rf_123_12, rf_123_15, rf_123_16, rf_123_17, rf_123_26, rf_123_29, rf_123_30, rf_123_32, rf_123_34, rf_123_35, rf_123_45, kd_125, Classical.not_not, mk_I, mk_L, mk_wI, mk_wL, rf_s, rf_n, true_and, and_true, and_self, or_true, true_or, or_false, false_or, not_true_eq_false, not_false_eq_true, Option.toList_some, Option.toList_none, List.cons_append, List.nil_append, List.map_nil, List.map_cons, List.sum_nil, List.sum_cons, cat_i, cat_l, cat_r, cat_n, Nat.reduceLeDiff, Nat.reduceAdd, Nat.reduceEqDiff, Nat.zero_le, p_ent, Int32.reduceToNatClampNeg, Int32.reduceLT, Int32.reduceLE, vin_l, p_u_ne, p_u_at, reduceIte, if_true, if_false, Int32.reduceToInt, Int.zero_le_ofNat, Int.cast_ofNat_Int, Int.reduceLT, Int.reduceLE, not_false_eq_true, en]
      refine ⟨fun c4 => absurd rfl c4, fun _ => ?_⟩
      refine P_c rm_5 ?_
      rintro _ _ ⟨rfl, rfl⟩
      simp only [pw_aload_n0, pw_aloadN_n0, pw_getR, pw_bipush, bl_52, pw_iald, pw_istore_n2, ps_2, pe_2, po_i2, po_r2, po_n2, po_u2, pw_iload_n2, bl_8, pw_cne, bl_m5, pw_iv2, pw_ret0, kd_123, rf_123_1, rf_123_2, rf_123_3, rf_123_4, rf_123_5, rf_123_7, rf_123_11, rf_123_12, rf_123_15, rf_123_16, rf_123_17, rf_123_26, rf_123_29, rf_123_30, rf_123_32, rf_123_34, rf_123_35, rf_123_45, Classical.not_not, mk_I, mk_L, mk_wI, mk_wL, rf_s, rf_n, true_and, and_true, and_self, or_true, true_or, or_false, false_or, not_true_eq_false, not_false_eq_true, Option.toList_some, Option.toList_none, List.cons_append, List.nil_append, List.map_nil, List.map_cons, List.sum_nil, List.sum_cons, cat_i, cat_l, cat_r, cat_n, Nat.reduceLeDiff, Nat.reduceAdd, Nat.reduceEqDiff, Nat.zero_le, p_ent, Int32.reduceToNatClampNeg, Int32.reduceLT, Int32.reduceLE, vin_l, p_u_ne, p_u_at, reduceIte, if_true, if_false, Int32.reduceToInt, Int.zero_le_ofNat, Int.cast_ofNat_Int, Int.reduceLT, Int.reduceLE, not_false_eq_true]
      exact ⟨_, _, _, _, rfl, inv_no (-5) 5 (by decide) H⟩
  · exact bad c
end TH
