/-! SETS OF THINGS as bits, answers -/
def an (a t : Nat) : Nat := a / 2 ^ (2 * t) % 4
theorem sl_31 : ∀ n, n < 32 → ((nI n &&& 31).toBitVec.smod 32).toNat = n := by decide
theorem ans_n {a t : Nat} (ha : a ≤ 65535) (ht : t < 8) : (nI a >>> (nI (2 * t) &&& 31)) &&& nI 3 = nI (an a t) := by
  rw [pk_shrN (by omega) _ (2 * t) (sl_31 _ (by omega))]
  have : a / 2 ^ (2 * t) ≤ a := Nat.div_le_self _ _
  rw [pk_andN (by omega) 2 (by decide)]
  rfl
theorem an_lt (a t : Nat) : an a t < 4 := Nat.mod_lt _ (by omega)
theorem nn_and (a b : Nat) : nI a &&& nI b = nI (a &&& b) := by
  refine Int32.toBitVec_inj.mp ?_
  rw [Int32.toBitVec_and]
  show BitVec.ofNat 32 a &&& BitVec.ofNat 32 b = BitVec.ofNat 32 (a &&& b)
  exact (BitVec.ofNat_and ..).symm
theorem or_n : ∀ t, t < 8 → ∀ s, s < 2 ^ t → nI s ||| nI (2 ^ t) = nI (s + 2 ^ t) := by decide +kernel
theorem or_0 (s : Nat) : nI s ||| nI 0 = nI s := by
  rw [← n_0, Int32.or_zero]
/-- the set of those below n of which p holds -/
def bs (p : Nat → Bool) : Nat → Nat
  | 0 => 0
  | n + 1 => bs p n + (if p n = true then 2 ^ n else 0)
theorem bs_lt (p : Nat → Bool) : ∀ n, bs p n < 2 ^ n
  | 0 => by simp [bs]
  | n + 1 => by
    have := bs_lt p n
    have e : 2 ^ (n + 1) = 2 ^ n + 2 ^ n := by rw [Nat.pow_succ]; omega
    unfold bs
    split <;> omega
theorem bs_256 {p : Nat → Bool} {n : Nat} (hn : n ≤ 8) : bs p n < 256 := by
  have h1 := bs_lt p n
  have h2 : 2 ^ n ≤ 2 ^ 8 := Nat.pow_le_pow_right (by omega) hn
  omega
theorem bt_add : ∀ n, n < 8 → ∀ s, s < 2 ^ n → ∀ t, t < 8 → bt (s + 2 ^ n) t = if t = n then 1 else bt s t := by decide +kernel
theorem bt_hi : ∀ n, n ≤ 8 → ∀ s, s < 2 ^ n → ∀ t, t < 8 → n ≤ t → bt s t = 0 := by decide +kernel
theorem bt_bs (p : Nat → Bool) : ∀ n, n ≤ 8 → ∀ t, t < 8 → bt (bs p n) t = if t < n ∧ p t = true then 1 else 0
  | 0, _, t, _ => by
    rw [if_neg (by omega)]
    show 0 / 2 ^ t % 2 = 0
    rw [Nat.zero_div]
  | n + 1, hn, t, ht => by
    have ih := bt_bs p n (by omega) t ht
    unfold bs
    by_cases hp : p n = true
    · rw [if_pos hp, bt_add n (by omega) _ (bs_lt p n) t ht, ih]
      by_cases e : t = n
      · subst e; rw [if_pos rfl, if_pos ⟨by omega, hp⟩]
      · rw [if_neg e]
        by_cases c : t < n ∧ p t = true
        · rw [if_pos c, if_pos ⟨by omega, c.2⟩]
        · rw [if_neg c, if_neg (fun h => c ⟨by omega, h.2⟩)]
    · rw [if_neg hp, Nat.add_zero, ih]
      by_cases c : t < n ∧ p t = true
      · rw [if_pos c, if_pos ⟨by omega, c.2⟩]
      · rw [if_neg c, if_neg]
        rintro ⟨h1, h2⟩
        by_cases e : t = n
        · subst e; exact hp h2
        · exact c ⟨by omega, h2⟩
theorem bt_ext {a b : Nat} (ha : a < 256) (hb : b < 256) (h : ∀ t, t < 8 → bt a t = bt b t) : a = b := by
  have h0 := h 0 (by omega)
  have h1 := h 1 (by omega)
  have h2 := h 2 (by omega)
  have h3 := h 3 (by omega)
  have h4 := h 4 (by omega)
  have h5 := h 5 (by omega)
  have h6 := h 6 (by omega)
  have h7 := h 7 (by omega)
  unfold bt at *
  simp only [Nat.reducePow] at *
  omega
theorem bt_tb (s t : Nat) : bt s t = (s.testBit t).toNat := by
  unfold bt
  rw [Nat.testBit_eq_decide_div_mod_eq]
  rcases Nat.mod_two_eq_zero_or_one (s / 2 ^ t) with h | h <;> rw [h] <;> rfl
theorem bt_and (a b t : Nat) : bt (a &&& b) t = bt a t * bt b t := by
  rw [bt_tb, bt_tb, bt_tb, Nat.testBit_and]
  cases a.testBit t <;> cases b.testBit t <;> rfl
theorem and_256 {a b : Nat} (ha : a < 256) : a &&& b < 256 := Nat.lt_of_le_of_lt Nat.and_le_left ha
/-- those of a set that answer x, and all that do -/
def alk (a n s x : Nat) : Nat := bs (fun t => decide (bt s t = 1) && decide (an a t = x)) n
def thA (a n x : Nat) : Nat := bs (fun t => decide (an a t = x)) n
theorem alk_and {a n s x : Nat} (hn : n ≤ 8) (hs : s < 256) : s &&& thA a n x = alk a n s x := by
  refine bt_ext (and_256 hs) (bs_256 hn) (fun t ht => ?_)
  rw [bt_and]
  unfold thA alk
  rw [bt_bs _ n hn t ht, bt_bs _ n hn t ht]
  rcases bt_01 s t with e | e
  · rw [e, Nat.zero_mul, if_neg]
    rintro ⟨-, h⟩
    simp only [Bool.and_eq_true, decide_eq_true_eq] at h
    omega
  · rw [e, Nat.one_mul]
    simp only [Bool.and_eq_true, decide_eq_true_eq, true_and]
section BI
variable {d Ls : Nat} {I : Nat → Nat → Int32} {L : Nat → Nat → Int64} {R : Nat → Nat → Option Nat} {X : List pKd} {h : pHp}
theorem sp_142 {q t a : Nat} (hq : q < 8) (ht : t < 8) (ha : a ≤ 65535) (e : I 125 (37 + q) = nI a) : P_m d 142 [.ref 123, .int (nI q), .int (nI t)] (p_mk Ls I L R X) (fun v h' => v = some (.int (nI (an a t))) ∧ h' = p_mk Ls I L R X) := by
  simp -implicitDefEqProofs (disch := first | omega | decide) only [P_m, ↓P_run_eq _ 142 _ (p_bk 142 0), bk_142_0, pb_142_0, pw_aload_n0, pw_aloadN_n0, pw_getR, pw_bipush, bl_37, pw_iload_n1, pw_iadd, pw_iald, pw_iconst, il_2, pw_iload_n2, pw_imul, pw_ishr, il_3, pw_iand, pw_ret0, kd_123, rf_123_1, rf_123_2, rf_123_3, rf_123_4, rf_123_5, rf_123_7, rf_123_11, rf_123_12, rf_123_15, rf_123_16, rf_123_17, rf_123_26, rf_123_29, rf_123_30, rf_123_32, rf_123_34, rf_123_35, rf_123_45, kd_125, n_0, n_1, n_2, n_3, n_37, nn_lt, nn_nlt, nn_le, nn_nle, nn_ne, nn_sub, nn_mul, nI_add, nn_neg, nm_eq, mn_eq, mm_eq, mn_lt, nm_lt, mn_le, nm_le, nn_sub0, nn_of, implies_true, nn_c, nn_in, nn_div, nat_rem, Nat.reduceMul, Nat.reduceSub, Nat.reduceDiv, Nat.reduceMod, pf_at, pf_ne, mk_s, mk_1, Classical.not_not, b2i_T, b2i_F, false_imp_iff, true_imp_iff, false_and, and_false, p_sw, Int.reduceAdd, Int.zero_add, Option.some.injEq, Value.int.injEq, Value.long.injEq, Value.ref.injEq, exists_eq_left', mk_I, mk_L, mk_wI, mk_wL, rf_s, rf_n, true_and, and_true, and_self, or_true, true_or, or_false, false_or, not_true_eq_false, not_false_eq_true, Option.toList_some, Option.toList_none, List.cons_append, List.nil_append, List.map_nil, List.map_cons, List.sum_nil, List.sum_cons, cat_i, cat_l, cat_r, cat_n, Nat.reduceLeDiff, Nat.reduceAdd, Nat.reduceEqDiff, Nat.zero_le, p_ent, p_u_ne, p_u_at, reduceIte, if_true, if_false, e, ans_n ha ht]
theorem ce_142 {q t a : Nat} (hq : q < 8) (ht : t < 8) (ha : a ≤ 65535) {yy : Nat} {rr : List pI} {kc ks : Nat} {lls st : List Value} {Q : Option Value → pHp → Prop} (e : I 125 (37 + q) = nI a) : P_call d yy 142 [.ref 123, .int (nI q), .int (nI t)] rr kc ks lls st (p_mk Ls I L R X) Q = P_w (d + 1) yy Q rr kc ks lls ((.int (nI (an a t))) :: st) (p_mk Ls I L R X) := P_ce (sp_142 hq ht ha e)
theorem sp_202 {q n s x a : Nat} (hq : q < 8) (hn : n ≤ 8) (hs : s < 256) (hx : x < 4) (ha : a ≤ 65535) (e : I 125 (37 + q) = nI a) (en : I 125 52 = nI n) : P_m (d + 1) 202 [.ref 123, .int (nI q), .int (nI s), .int (nI x)] (p_mk Ls I L R X) (fun v h' => v = some (.int (nI (alk a n s x))) ∧ h' = p_mk Ls I L R X) := by
  have loop : ∀ i, i ≤ n → P_run (d + 1) 202 (p_bk 202 1) 0 0 [.ref 123, .int (nI q), .int (nI s), .int (nI x), .int (nI (alk a i s x)), .int (nI i)] [] (p_mk Ls I L R X) (fun v h' => v = some (.int (nI (alk a n s x))) ∧ h' = p_mk Ls I L R X) := by
    refine down_ind ?_ ?_
    · rw [P_run_eq, bk_202_1, pb_202_1]; simp -implicitDefEqProofs (disch := first | omega | decide) only [P_m, ↓P_run_eq _ 202 _ (p_bk 202 4), bk_202_4, pb_202_4, pw_iload_5, pw_aload_n0, pw_aloadN_n0, pw_getR, pw_bipush, bl_52, pw_iald, pw_cge, pw_iload_4, pw_iload_n2, pw_is2, pw_zeq, pw_iload_n1, pw_iv3, pw_iload_n3, pw_cne, pw_iconst, il_1, pw_ishl, pw_goto, pw_ret0, kd_123, rf_123_1, rf_123_2, rf_123_3, rf_123_4, rf_123_5, rf_123_7, rf_123_11, rf_123_12, rf_123_15, rf_123_16, rf_123_17, rf_123_26, rf_123_29, rf_123_30, rf_123_32, rf_123_34, rf_123_35, rf_123_45, kd_125, n_0, n_1, n_52, nn_lt, nn_nlt, nn_le, nn_nle, nn_ne, nn_sub, nn_mul, nI_add, nn_neg, nm_eq, mn_eq, mm_eq, mn_lt, nm_lt, mn_le, nm_le, nn_sub0, nn_of, implies_true, nn_c, nn_in, nn_div, nat_rem, Nat.reduceMul, Nat.reduceSub, Nat.reduceDiv, Nat.reduceMod, pf_at, pf_ne, mk_s, mk_1, Classical.not_not, b2i_T, b2i_F, false_imp_iff, true_imp_iff, false_and, and_false, p_sw, Int.reduceAdd, Int.zero_add, Option.some.injEq, Value.int.injEq, Value.long.injEq, Value.ref.injEq, exists_eq_left', mk_I, mk_L, mk_wI, mk_wL, rf_s, rf_n, true_and, and_true, and_self, or_true, true_or, or_false, false_or, not_true_eq_false, not_false_eq_true, Option.toList_some, Option.toList_none, List.cons_append, List.nil_append, List.map_nil, List.map_cons, List.sum_nil, List.sum_cons, cat_i, cat_l, cat_r, cat_n, Nat.reduceLeDiff, Nat.reduceAdd, Nat.reduceEqDiff, Nat.zero_le, p_ent, p_u_ne, p_u_at, reduceIte, if_true, if_false, en]
    · intro i hi ih
      have i8 : i < 8 := by omega
      have s1 := sp_131n (d := d) (h := p_mk Ls I L R X) hs i8
      have s2 := sp_142 (d := d) (Ls := Ls) (L := L) (R := R) (X := X) hq i8 ha e
      have b1 := an_lt a i
      have sl := shl_n i8
      have ee : alk a (i + 1) s x = alk a i s x + (if (decide (bt s i = 1) && decide (an a i = x)) = true then 2 ^ i else 0) := rfl
      rw [ee] at ih
      rcases bt_01 s i with e0 | e0
      · rw [if_neg (by rw [decide_eq_false (by omega), Bool.false_and]; decide), Nat.add_zero] at ih
        rw [e0] at s1
        rw [P_run_eq, bk_202_1, pb_202_1]; simp -implicitDefEqProofs (disch := first | omega | decide) only [P_m, ↓P_run_eq _ 202 _ (p_bk 202 2), bk_202_2, pb_202_2, ↓P_run_eq _ 202 _ (p_bk 202 3), bk_202_3, pb_202_3, pw_iload_5, pw_aload_n0, pw_aloadN_n0, pw_getR, pw_bipush, bl_52, pw_iald, pw_cge, pw_iload_4, pw_iload_n2, pw_is2, pw_zeq, pw_iload_n1, pw_iv3, pw_iload_n3, pw_cne, pw_iconst, il_1, pw_ishl, pw_goto, il_0, pw_nop, pw_ior, pw_istore, ps_4, pe_4, po_i4, po_r4, po_n4, po_u4, pw_iinc_5, po_i5, po_r5, po_n5, po_u5, kd_123, rf_123_1, rf_123_2, rf_123_3, rf_123_4, rf_123_5, rf_123_7, rf_123_11, rf_123_12, rf_123_15, rf_123_16, rf_123_17, rf_123_26, rf_123_29, rf_123_30, rf_123_32, rf_123_34, rf_123_35, rf_123_45, kd_125, n_0, n_1, n_52, nn_lt, nn_nlt, nn_le, nn_nle, nn_ne, nn_sub, nn_mul, nI_add, nn_neg, nm_eq, mn_eq, mm_eq, mn_lt, nm_lt, mn_le, nm_le, nn_sub0, nn_of, implies_true, nn_c, nn_in, nn_div, nat_rem, Nat.reduceMul, Nat.reduceSub, Nat.reduceDiv, Nat.reduceMod, pf_at, pf_ne, mk_s, mk_1, Classical.not_not, b2i_T, b2i_F, false_imp_iff, true_imp_iff, false_and, and_false, p_sw, Int.reduceAdd, Int.zero_add, Option.some.injEq, Value.int.injEq, Value.long.injEq, Value.ref.injEq, exists_eq_left', mk_I, mk_L, mk_wI, mk_wL, rf_s, rf_n, true_and, and_true, and_self, or_true, true_or, or_false, false_or, not_true_eq_false, not_false_eq_true, Option.toList_some, Option.toList_none, List.cons_append, List.nil_append, List.map_nil, List.map_cons, List.sum_nil, List.sum_cons, cat_i, cat_l, cat_r, cat_n, Nat.reduceLeDiff, Nat.reduceAdd, Nat.reduceEqDiff, Nat.zero_le, p_ent, p_u_ne, p_u_at, reduceIte, if_true, if_false, en, P_ce s1, or_0]
        exact ih
      · rw [e0] at s1
        by_cases c : an a i = x
        · rw [if_pos (by rw [decide_eq_true e0, decide_eq_true c]; rfl)] at ih
          rw [c] at s2
          have o := or_n i i8 _ (bs_lt (fun t => decide (bt s t = 1) && decide (an a t = x)) i)
          replace o : nI (alk a i s x) ||| nI (2 ^ i) = nI (alk a i s x + 2 ^ i) := o
          rw [P_run_eq, bk_202_1, pb_202_1]; simp -implicitDefEqProofs (disch := first | omega | decide) only [P_m, ↓P_run_eq _ 202 _ (p_bk 202 2), bk_202_2, pb_202_2, ↓P_run_eq _ 202 _ (p_bk 202 3), bk_202_3, pb_202_3, pw_iload_5, pw_aload_n0, pw_aloadN_n0, pw_getR, pw_bipush, bl_52, pw_iald, pw_cge, pw_iload_4, pw_iload_n2, pw_is2, pw_zeq, pw_iload_n1, pw_iv3, pw_iload_n3, pw_cne, pw_iconst, il_1, pw_ishl, pw_goto, il_0, pw_nop, pw_ior, pw_istore, ps_4, pe_4, po_i4, po_r4, po_n4, po_u4, pw_iinc_5, po_i5, po_r5, po_n5, po_u5, kd_123, rf_123_1, rf_123_2, rf_123_3, rf_123_4, rf_123_5, rf_123_7, rf_123_11, rf_123_12, rf_123_15, rf_123_16, rf_123_17, rf_123_26, rf_123_29, rf_123_30, rf_123_32, rf_123_34, rf_123_35, rf_123_45, kd_125, n_0, n_1, n_52, nn_lt, nn_nlt, nn_le, nn_nle, nn_ne, nn_sub, nn_mul, nI_add, nn_neg, nm_eq, mn_eq, mm_eq, mn_lt, nm_lt, mn_le, nm_le, nn_sub0, nn_of, implies_true, nn_c, nn_in, nn_div, nat_rem, Nat.reduceMul, Nat.reduceSub, Nat.reduceDiv, Nat.reduceMod, pf_at, pf_ne, mk_s, mk_1, Classical.not_not, b2i_T, b2i_F, false_imp_iff, true_imp_iff, false_and, and_false, p_sw, Int.reduceAdd, Int.zero_add, Option.some.injEq, Value.int.injEq, Value.long.injEq, Value.ref.injEq, exists_eq_left', mk_I, mk_L, mk_wI, mk_wL, rf_s, rf_n, true_and, and_true, and_self, or_true, true_or, or_false, false_or, not_true_eq_false, not_false_eq_true, Option.toList_some, Option.toList_none, List.cons_append, List.nil_append, List.map_nil, List.map_cons, List.sum_nil, List.sum_cons, cat_i, cat_l, cat_r, cat_n, Nat.reduceLeDiff, Nat.reduceAdd, Nat.reduceEqDiff, Nat.zero_le, p_ent, p_u_ne, p_u_at, reduceIte, if_true, if_false, en, P_ce s1, P_ce s2, or_0, sl, o]
          exact ih
        · rw [if_neg (by rw [decide_eq_false c, Bool.and_false]; decide), Nat.add_zero] at ih
          rw [P_run_eq, bk_202_1, pb_202_1]; simp -implicitDefEqProofs (disch := first | omega | decide) only [P_m, ↓P_run_eq _ 202 _ (p_bk 202 2), bk_202_2, pb_202_2, ↓P_run_eq _ 202 _ (p_bk 202 3), bk_202_3, pb_202_3, pw_iload_5, pw_aload_n0, pw_aloadN_n0, pw_getR, pw_bipush, bl_52, pw_iald, pw_cge, pw_iload_4, pw_iload_n2, pw_is2, pw_zeq, pw_iload_n1, pw_iv3, pw_iload_n3, pw_cne, pw_iconst, il_1, pw_ishl, pw_goto, il_0, pw_nop, pw_ior, pw_istore, ps_4, pe_4, po_i4, po_r4, po_n4, po_u4, pw_iinc_5, po_i5, po_r5, po_n5, po_u5, kd_123, rf_123_1, rf_123_2, rf_123_3, rf_123_4, rf_123_5, rf_123_7, rf_123_11, rf_123_12, rf_123_15, rf_123_16, rf_123_17, rf_123_26, rf_123_29, rf_123_30, rf_123_32, rf_123_34, rf_123_35, rf_123_45, kd_125, n_0, n_1, n_52, nn_lt, nn_nlt, nn_le, nn_nle, nn_ne, nn_sub, nn_mul, nI_add, nn_neg, nm_eq, mn_eq, mm_eq, mn_lt, nm_lt, mn_le, nm_le, nn_sub0, nn_of, implies_true, nn_c, nn_in, nn_div, nat_rem, Nat.reduceMul, Nat.reduceSub, Nat.reduceDiv, Nat.reduceMod, pf_at, pf_ne, mk_s, mk_1, Classical.not_not, b2i_T, b2i_F, false_imp_iff, true_imp_iff, false_and, and_false, p_sw, Int.reduceAdd, Int.zero_add, Option.some.injEq, Value.int.injEq, Value.long.injEq, Value.ref.injEq, exists_eq_left', mk_I, mk_L, mk_wI, mk_wL, rf_s, rf_n, true_and, and_true, and_self, or_true, true_or, or_false, false_or, not_true_eq_false, not_false_eq_true, Option.toList_some, Option.toList_none, List.cons_append, List.nil_append, List.map_nil, List.map_cons, List.sum_nil, List.sum_cons, cat_i, cat_l, cat_r, cat_n, Nat.reduceLeDiff, Nat.reduceAdd, Nat.reduceEqDiff, Nat.zero_le, p_ent, p_u_ne, p_u_at, reduceIte, if_true, if_false, en, P_ce s1, P_ce s2, or_0]
          exact ih
  simp -implicitDefEqProofs (disch := first | omega | decide) only [P_m, ↓P_run_eq _ 202 _ (p_bk 202 0), bk_202_0, pb_202_0, pw_iconst, il_0, pw_istore, ps_4, pe_4, po_i4, po_r4, po_n4, po_u4, ps_5, pe_5, po_i5, po_r5, po_n5, po_u5, pw_nop, kd_123, rf_123_1, rf_123_2, rf_123_3, rf_123_4, rf_123_5, rf_123_7, rf_123_11, rf_123_12, rf_123_15, rf_123_16, rf_123_17, rf_123_26, rf_123_29, rf_123_30, rf_123_32, rf_123_34, rf_123_35, rf_123_45, n_0, n_1, nn_lt, nn_nlt, nn_le, nn_nle, nn_ne, nn_sub, nn_mul, nI_add, nn_neg, nm_eq, mn_eq, mm_eq, mn_lt, nm_lt, mn_le, nm_le, nn_sub0, nn_of, implies_true, nn_c, nn_in, nn_div, nat_rem, Nat.reduceMul, Nat.reduceSub, Nat.reduceDiv, Nat.reduceMod, pf_at, pf_ne, mk_s, mk_1, Classical.not_not, b2i_T, b2i_F, false_imp_iff, true_imp_iff, false_and, and_false, p_sw, Int.reduceAdd, Int.zero_add, Option.some.injEq, Value.int.injEq, Value.long.injEq, Value.ref.injEq, exists_eq_left', mk_I, mk_L, mk_wI, mk_wL, rf_s, rf_n, true_and, and_true, and_self, or_true, true_or, or_false, false_or, not_true_eq_false, not_false_eq_true, Option.toList_some, Option.toList_none, List.cons_append, List.nil_append, List.map_nil, List.map_cons, List.sum_nil, List.sum_cons, cat_i, cat_l, cat_r, cat_n, Nat.reduceLeDiff, Nat.reduceAdd, Nat.reduceEqDiff, Nat.zero_le, p_ent, p_u_ne, p_u_at, reduceIte, if_true, if_false]
  exact loop 0 (by omega)
theorem ce_202 {q n s x a : Nat} (hq : q < 8) (hn : n ≤ 8) (hs : s < 256) (hx : x < 4) (ha : a ≤ 65535) {yy : Nat} {rr : List pI} {kc ks : Nat} {lls st : List Value} {Q : Option Value → pHp → Prop} (e : I 125 (37 + q) = nI a) (en : I 125 52 = nI n) : P_call (d + 1) yy 202 [.ref 123, .int (nI q), .int (nI s), .int (nI x)] rr kc ks lls st (p_mk Ls I L R X) Q = P_w ((d + 1) + 1) yy Q rr kc ks lls ((.int (nI (alk a n s x))) :: st) (p_mk Ls I L R X) := P_ce (sp_202 hq hn hs hx ha e en)
theorem sp_140 (v : Int32) : P_m (d + 1) 140 [.ref 123, .int v] (p_mk Ls I L R X) (fun w h' => w = some (.int (b2i (0 ≤ v ∧ v ≤ I 125 54 - 1))) ∧ h' = p_mk Ls I L R X) := by
  simp -implicitDefEqProofs only [P_m, ↓P_run_eq _ 140 _ (p_bk 140 0), bk_140_0, pb_140_0, pw_iload_n1, pw_iconst, il_0, pw_aload_n0, pw_aloadN_n0, pw_getR, pw_bipush, bl_54, pw_iald, il_1, pw_isub, pw_is3, pw_ret1, kd_123, rf_123_1, rf_123_2, rf_123_3, rf_123_4, rf_123_5, rf_123_7, rf_123_11, rf_123_12, rf_123_15, rf_123_16, rf_123_17, rf_123_26, rf_123_29, rf_123_30, rf_123_32, rf_123_34, rf_123_35, rf_123_45, kd_125, Classical.not_not, implies_true, mk_s, mk_1, pf_at, pf_ne, b2i_T, b2i_F, false_imp_iff, true_imp_iff, ne_10, ne_01, ne_m10, ne_0m1, ne_m11, ne_1m1, false_and, and_false, p_sw, Int.reduceAdd, Int.zero_add, Option.some.injEq, Value.int.injEq, Value.long.injEq, Value.ref.injEq, exists_eq_left',  mk_I, mk_L, mk_wI, mk_wL, rf_s, rf_n, true_and, and_true, and_self, or_true, true_or, or_false, false_or, not_true_eq_false, not_false_eq_true, Option.toList_some, Option.toList_none, List.cons_append, List.nil_append, List.map_nil, List.map_cons, List.sum_nil, List.sum_cons, cat_i, cat_l, cat_r, cat_n, Nat.reduceLeDiff, Nat.reduceAdd, Nat.reduceEqDiff, Nat.zero_le, p_ent, Int32.reduceToNatClampNeg, Int32.reduceLT, Int32.reduceLE, vin_l, p_u_ne, p_u_at, reduceIte, if_true, if_false, Int32.reduceToInt, Int.zero_le_ofNat, Int.cast_ofNat_Int, Int.reduceLT, Int.reduceLE, not_false_eq_true, P_ce (sp_125 _ _ _)]
  exact b2i_01 _
end BI
