/-! FEED -/
theorem nn_addm {a b : Nat} (h : b ≤ a) : nI a + mI b = nI (a - b) := by
  unfold mI; rw [← Int32.sub_eq_add_neg, nn_sub h]
theorem nn_addm0 {a b : Nat} (h : a < b) : nI a + mI b = mI (b - a) := by
  unfold mI; rw [← Int32.sub_eq_add_neg, nn_sub0 h]; rfl
theorem and_255 (x : Int32) : bn (x &&& nI 255) 255 := by
  refine ⟨(x.toBitVec &&& 255#32).toNat, ?_, ?_⟩
  · rw [BitVec.toNat_and]; exact Nat.and_le_right
  · refine Int32.toBitVec_inj.mp ?_
    rw [Int32.toBitVec_and]
    show _ = BitVec.ofNat 32 _
    rw [BitVec.ofNat_toNat, BitVec.setWidth_eq]
    rfl
theorem b8_255 (x : Int32) : (x &&& nI 255).toInt8.toInt32 = x.toInt8.toInt32 := by
  rw [Int32.toInt8_and]
  congr 1
  have : (nI 255).toInt8 = -1 := by decide
  rw [this, Int8.and_neg_one]
theorem nv_b8 (x : Int32) : p_nv 2 x.toInt8.toInt32 = x.toInt8.toInt32 := by
  show (x.toInt8.toInt32).toInt8.toInt32 = _
  rw [Int8.toInt8_toInt32]
theorem puf_3 {f : Nat → Nat → Int32} {a c j k : Nat} {u v w : Int32} {A : Nat → Int32} (h : ¬ a = c) : p_u (p_u (p_u (p_fn f a A) c k v) a j w) c k u = p_u (p_fn f a (upd A j w)) c k u := by
  have e : p_u (p_u (p_fn f a A) c k v) a j w = p_fn (p_u (p_fn f a A) c k v) a (upd A j w) := by
    rw [pu_fn (a := a), p_u_ne h, pf_at]
  rw [e, puf_2 h]
/-- the four bytes of a number, the highest first -/
def by4 (x : Int32) (j : Nat) : Int32 := x >>> (nI (24 - 8 * j) &&& 31) &&& nI 255
def byC (F : Nat → Int32) (k : Nat) : Int32 := F (k / 4) >>> (nI (24 - 8 * (k % 4)) &&& 31) &&& nI 255
def byM (F : Nat → Int32) (k : Nat) : Int32 := (F (k / 4) >>> (nI (24 - 8 * (k % 4)) &&& 31)).toInt8.toInt32
theorem by_glue {F g : Nat → Int32} {n i : Nat} : va_cpy (by4 (F i)) (va_cpy (byC F) g 0 n (4 * i)) 0 (n + 4 * i) 4 = va_cpy (byC F) g 0 n (4 * (i + 1)) := by
  funext k
  unfold va_cpy
  by_cases c1 : n + 4 * i ≤ k ∧ k < n + 4 * i + 4
  · rw [if_pos c1, if_pos (by omega)]
    unfold by4 byC
    rw [show (0 + (k - n)) / 4 = i by omega, show (0 + (k - n)) % 4 = 0 + (k - (n + 4 * i)) by omega]
  · rw [if_neg c1]
    by_cases c2 : n ≤ k ∧ k < n + 4 * i
    · rw [if_pos c2, if_pos (by omega)]
    · rw [if_neg c2, if_neg (by omega)]
section FE
variable {d Ls : Nat} {I J : Nat → Nat → Int32} {L : Nat → Nat → Int64} {R Q : Nat → Nat → Option Nat} {X : List pKd} {h : pHp}
theorem sp_74 (x : Int32) {n : Nat} (hn : n ≤ 396) (e : I 33 1 = nI n) : P_m d 74 [.ref 33, .int x] (p_mk Ls I L R X) (fun v h' => v = none ∧ h' = p_mk Ls (p_u (p_fn I 34 (va_cpy (by4 x) (I 34) 0 n 4)) 33 1 (nI (n + 4))) L R X) := by
  have e0 : p_u (p_fn I 34 (va_cpy (by4 x) (I 34) 0 n 0)) 33 1 (nI (n + 0)) = I := by
    rw [cpy_0, pf_self, Nat.add_zero, ← e]
    funext b j
    by_cases eb : b = 33
    · subst eb; rw [p_u_at]; split
      · subst_vars; rfl
      · rfl
    · rw [p_u_ne eb]
  have loop : ∀ i, i ≤ 4 → P_run d 74 (p_bk 74 2) 0 0 [.ref 33, .int x, .int (if i = 4 then mI 8 else nI (24 - 8 * i))] [] (p_mk Ls (p_u (p_fn I 34 (va_cpy (by4 x) (I 34) 0 n i)) 33 1 (nI (n + i))) L R X) (fun v h' => v = none ∧ h' = p_mk Ls (p_u (p_fn I 34 (va_cpy (by4 x) (I 34) 0 n 4)) 33 1 (nI (n + 4))) L R X) := by
    refine down_ind ?_ ?_
    · rw [P_run_eq, bk_74_2, pb_74_2]; simp -implicitDefEqProofs (disch := first | omega | decide) only [P_m, ↓P_run_eq _ 74 _ (p_bk 74 3), bk_74_3, pb_74_3, pw_iload_n2, pw_zlt, pw_aload_n0, pw_aloadN_n0, pw_getR, pw_getI, pw_iload_n1, pw_ishr, pw_sipush, sl_255, pw_iand, pw_iast, pw_dupi, pw_dupr, pw_iconst, il_1, pw_iadd, pw_putI, pw_iinc_2, il_m8, po_i2, po_r2, po_n2, po_u2, pw_goto, pw_vret, kd_33, rf_33_0, kd_34, n_0, n_1, n_255, nn_lt, nn_nlt, nn_le, nn_nle, nn_ne, nn_sub, nn_mul, nI_add, nn_neg, nm_eq, mn_eq, mm_eq, mn_lt, nm_lt, mn_le, nm_le, nn_sub0, nn_of, implies_true, nn_c, nn_in, nn_div, nat_rem, Nat.reduceMul, Nat.reduceSub, Nat.reduceDiv, Nat.reduceMod, pf_at, pf_ne, mk_s, mk_1, Classical.not_not, b2i_T, b2i_F, false_imp_iff, true_imp_iff, false_and, and_false, p_sw, Int.reduceAdd, Int.zero_add, Option.some.injEq, Value.int.injEq, Value.long.injEq, Value.ref.injEq, exists_eq_left', mk_I, mk_L, mk_wI, mk_wL, rf_s, rf_n, true_and, and_true, and_self, or_true, true_or, or_false, false_or, not_true_eq_false, not_false_eq_true, Option.toList_some, Option.toList_none, List.cons_append, List.nil_append, List.map_nil, List.map_cons, List.sum_nil, List.sum_cons, cat_i, cat_l, cat_r, cat_n, Nat.reduceLeDiff, Nat.reduceAdd, Nat.reduceEqDiff, Nat.zero_le, p_ent, p_u_ne, p_u_at, reduceIte, if_true, if_false]
    · intro i hi ih
      rw [← cpy_1, Nat.zero_add] at ih
      have : i = 0 ∨ i = 1 ∨ i = 2 ∨ i = 3 := by omega
      rcases this with rfl | rfl | rfl | rfl
      · rw [P_run_eq, bk_74_2, pb_74_2]; simp -implicitDefEqProofs (disch := first | omega | decide) only [P_m, pw_iload_n2, pw_zlt, pw_aload_n0, pw_aloadN_n0, pw_getR, pw_getI, pw_iload_n1, pw_ishr, pw_sipush, sl_255, pw_iand, pw_iast, pw_dupi, pw_dupr, pw_iconst, il_1, pw_iadd, pw_putI, pw_iinc_2, il_m8, po_i2, po_r2, po_n2, po_u2, pw_goto, kd_33, rf_33_0, kd_34, n_0, n_1, n_255, nn_lt, nn_nlt, nn_le, nn_nle, nn_ne, nn_sub, nn_mul, nI_add, nn_neg, nm_eq, mn_eq, mm_eq, mn_lt, nm_lt, mn_le, nm_le, nn_sub0, nn_of, implies_true, nn_c, nn_in, nn_div, nat_rem, Nat.reduceMul, Nat.reduceSub, Nat.reduceDiv, Nat.reduceMod, pf_at, pf_ne, mk_s, mk_1, Classical.not_not, b2i_T, b2i_F, false_imp_iff, true_imp_iff, false_and, and_false, p_sw, Int.reduceAdd, Int.zero_add, Option.some.injEq, Value.int.injEq, Value.long.injEq, Value.ref.injEq, exists_eq_left', mk_I, mk_L, mk_wI, mk_wL, rf_s, rf_n, true_and, and_true, and_self, or_true, true_or, or_false, false_or, not_true_eq_false, not_false_eq_true, Option.toList_some, Option.toList_none, List.cons_append, List.nil_append, List.map_nil, List.map_cons, List.sum_nil, List.sum_cons, cat_i, cat_l, cat_r, cat_n, Nat.reduceLeDiff, Nat.reduceAdd, Nat.reduceEqDiff, Nat.zero_le, p_ent, p_u_ne, p_u_at, reduceIte, if_true, if_false, n_8, nn_addm, nn_addm0, puf_3]
        exact ih
      · rw [P_run_eq, bk_74_2, pb_74_2]; simp -implicitDefEqProofs (disch := first | omega | decide) only [P_m, pw_iload_n2, pw_zlt, pw_aload_n0, pw_aloadN_n0, pw_getR, pw_getI, pw_iload_n1, pw_ishr, pw_sipush, sl_255, pw_iand, pw_iast, pw_dupi, pw_dupr, pw_iconst, il_1, pw_iadd, pw_putI, pw_iinc_2, il_m8, po_i2, po_r2, po_n2, po_u2, pw_goto, kd_33, rf_33_0, kd_34, n_0, n_1, n_255, nn_lt, nn_nlt, nn_le, nn_nle, nn_ne, nn_sub, nn_mul, nI_add, nn_neg, nm_eq, mn_eq, mm_eq, mn_lt, nm_lt, mn_le, nm_le, nn_sub0, nn_of, implies_true, nn_c, nn_in, nn_div, nat_rem, Nat.reduceMul, Nat.reduceSub, Nat.reduceDiv, Nat.reduceMod, pf_at, pf_ne, mk_s, mk_1, Classical.not_not, b2i_T, b2i_F, false_imp_iff, true_imp_iff, false_and, and_false, p_sw, Int.reduceAdd, Int.zero_add, Option.some.injEq, Value.int.injEq, Value.long.injEq, Value.ref.injEq, exists_eq_left', mk_I, mk_L, mk_wI, mk_wL, rf_s, rf_n, true_and, and_true, and_self, or_true, true_or, or_false, false_or, not_true_eq_false, not_false_eq_true, Option.toList_some, Option.toList_none, List.cons_append, List.nil_append, List.map_nil, List.map_cons, List.sum_nil, List.sum_cons, cat_i, cat_l, cat_r, cat_n, Nat.reduceLeDiff, Nat.reduceAdd, Nat.reduceEqDiff, Nat.zero_le, p_ent, p_u_ne, p_u_at, reduceIte, if_true, if_false, n_8, nn_addm, nn_addm0, puf_3]
        exact ih
      · rw [P_run_eq, bk_74_2, pb_74_2]; simp -implicitDefEqProofs (disch := first | omega | decide) only [P_m, pw_iload_n2, pw_zlt, pw_aload_n0, pw_aloadN_n0, pw_getR, pw_getI, pw_iload_n1, pw_ishr, pw_sipush, sl_255, pw_iand, pw_iast, pw_dupi, pw_dupr, pw_iconst, il_1, pw_iadd, pw_putI, pw_iinc_2, il_m8, po_i2, po_r2, po_n2, po_u2, pw_goto, kd_33, rf_33_0, kd_34, n_0, n_1, n_255, nn_lt, nn_nlt, nn_le, nn_nle, nn_ne, nn_sub, nn_mul, nI_add, nn_neg, nm_eq, mn_eq, mm_eq, mn_lt, nm_lt, mn_le, nm_le, nn_sub0, nn_of, implies_true, nn_c, nn_in, nn_div, nat_rem, Nat.reduceMul, Nat.reduceSub, Nat.reduceDiv, Nat.reduceMod, pf_at, pf_ne, mk_s, mk_1, Classical.not_not, b2i_T, b2i_F, false_imp_iff, true_imp_iff, false_and, and_false, p_sw, Int.reduceAdd, Int.zero_add, Option.some.injEq, Value.int.injEq, Value.long.injEq, Value.ref.injEq, exists_eq_left', mk_I, mk_L, mk_wI, mk_wL, rf_s, rf_n, true_and, and_true, and_self, or_true, true_or, or_false, false_or, not_true_eq_false, not_false_eq_true, Option.toList_some, Option.toList_none, List.cons_append, List.nil_append, List.map_nil, List.map_cons, List.sum_nil, List.sum_cons, cat_i, cat_l, cat_r, cat_n, Nat.reduceLeDiff, Nat.reduceAdd, Nat.reduceEqDiff, Nat.zero_le, p_ent, p_u_ne, p_u_at, reduceIte, if_true, if_false, n_8, nn_addm, nn_addm0, puf_3]
        exact ih
      · rw [P_run_eq, bk_74_2, pb_74_2]; simp -implicitDefEqProofs (disch := first | omega | decide) only [P_m, pw_iload_n2, pw_zlt, pw_aload_n0, pw_aloadN_n0, pw_getR, pw_getI, pw_iload_n1, pw_ishr, pw_sipush, sl_255, pw_iand, pw_iast, pw_dupi, pw_dupr, pw_iconst, il_1, pw_iadd, pw_putI, pw_iinc_2, il_m8, po_i2, po_r2, po_n2, po_u2, pw_goto, kd_33, rf_33_0, kd_34, n_0, n_1, n_255, nn_lt, nn_nlt, nn_le, nn_nle, nn_ne, nn_sub, nn_mul, nI_add, nn_neg, nm_eq, mn_eq, mm_eq, mn_lt, nm_lt, mn_le, nm_le, nn_sub0, nn_of, implies_true, nn_c, nn_in, nn_div, nat_rem, Nat.reduceMul, Nat.reduceSub, Nat.reduceDiv, Nat.reduceMod, pf_at, pf_ne, mk_s, mk_1, Classical.not_not, b2i_T, b2i_F, false_imp_iff, true_imp_iff, false_and, and_false, p_sw, Int.reduceAdd, Int.zero_add, Option.some.injEq, Value.int.injEq, Value.long.injEq, Value.ref.injEq, exists_eq_left', mk_I, mk_L, mk_wI, mk_wL, rf_s, rf_n, true_and, and_true, and_self, or_true, true_or, or_false, false_or, not_true_eq_false, not_false_eq_true, Option.toList_some, Option.toList_none, List.cons_append, List.nil_append, List.map_nil, List.map_cons, List.sum_nil, List.sum_cons, cat_i, cat_l, cat_r, cat_n, Nat.reduceLeDiff, Nat.reduceAdd, Nat.reduceEqDiff, Nat.zero_le, p_ent, p_u_ne, p_u_at, reduceIte, if_true, if_false, n_8, nn_addm, nn_addm0, puf_3]
        exact ih
  have := loop 0 (by omega)
  rw [e0] at this
  simp -implicitDefEqProofs (disch := first | omega | decide) only [P_m, ↓P_run_eq _ 74 _ (p_bk 74 0), bk_74_0, pb_74_0, ↓P_run_eq _ 74 _ (p_bk 74 1), bk_74_1, pb_74_1, pw_aload_n0, pw_aloadN_n0, pw_getI, pw_iconst, il_4, pw_iadd, pw_sipush, sl_400, pw_cle, pw_vret, pw_bipush, bl_24, pw_istore_n2, ps_2, pe_2, po_i2, po_r2, po_n2, po_u2, pw_nop, kd_33, rf_33_0, kd_34, n_0, n_1, n_4, n_24, n_400, nn_lt, nn_nlt, nn_le, nn_nle, nn_ne, nn_sub, nn_mul, nI_add, nn_neg, nm_eq, mn_eq, mm_eq, mn_lt, nm_lt, mn_le, nm_le, nn_sub0, nn_of, implies_true, nn_c, nn_in, nn_div, nat_rem, Nat.reduceMul, Nat.reduceSub, Nat.reduceDiv, Nat.reduceMod, pf_at, pf_ne, mk_s, mk_1, Classical.not_not, b2i_T, b2i_F, false_imp_iff, true_imp_iff, false_and, and_false, p_sw, Int.reduceAdd, Int.zero_add, Option.some.injEq, Value.int.injEq, Value.long.injEq, Value.ref.injEq, exists_eq_left', mk_I, mk_L, mk_wI, mk_wL, rf_s, rf_n, true_and, and_true, and_self, or_true, true_or, or_false, false_or, not_true_eq_false, not_false_eq_true, Option.toList_some, Option.toList_none, List.cons_append, List.nil_append, List.map_nil, List.map_cons, List.sum_nil, List.sum_cons, cat_i, cat_l, cat_r, cat_n, Nat.reduceLeDiff, Nat.reduceAdd, Nat.reduceEqDiff, Nat.zero_le, p_ent, p_u_ne, p_u_at, reduceIte, if_true, if_false, e]
  exact this
theorem ce_74 (x : Int32) {n : Nat} (hn : n ≤ 396) {yy : Nat} {rr : List pI} {kc ks : Nat} {lls st : List Value} {Q : Option Value → pHp → Prop} (e : I 33 1 = nI n) : P_call d yy 74 [.ref 33, .int x] rr kc ks lls st (p_mk Ls I L R X) Q = P_w (d + 1) yy Q rr kc ks lls (st) (p_mk Ls (p_u (p_fn I 34 (va_cpy (by4 x) (I 34) 0 n 4)) 33 1 (nI (n + 4))) L R X) := P_ce (sp_74 x hn e)
def g5 (a b c d e : Int32) (j : Nat) : Int32 := if j = 0 then a else if j = 1 then b else if j = 2 then c else if j = 3 then d else e
theorem sp_156 (a b c d' e' : Int32) {n : Nat} (hn : n ≤ 380) (e : I 123 13 = nI n) : P_m d 156 [.ref 123, .int a, .int b, .int c, .int d', .int e'] (p_mk Ls I L R X) (fun v h' => v = some (.int (nI (n + 20))) ∧ ∃ J, h' = p_mk Ls J L R X ∧ (∀ q, q ≠ 123 → q ≠ 130 → q ≠ 131 → J q = I q) ∧ J 123 = upd (I 123) 13 (nI (n + 20)) ∧ J 130 = va_cpy (byM (g5 a b c d' e')) (I 130) 0 n 20) := by
  simp -implicitDefEqProofs (disch := first | omega | decide) only [P_m, ↓P_run_eq _ 156 _ (p_bk 156 0), bk_156_0, pb_156_0, ↓P_run_eq _ 156 _ (p_bk 156 1), bk_156_1, pb_156_1, pw_aload_n0, pw_aloadN_n0, pw_getI, pw_bipush, bl_20, pw_iadd, pw_sipush, sl_400, pw_cle, pw_iconst, il_m1, pw_ret0, pw_getR, il_0, pw_iload_n1, pw_iast, il_1, pw_iload_n2, il_2, pw_iload_n3, il_3, pw_iload_4, il_4, pw_iload_5, pw_istore, ps_6, pe_6, po_i6, po_r6, po_n6, po_u6, pw_nop, kd_123, rf_123_1, rf_123_2, rf_123_3, rf_123_4, rf_123_5, rf_123_7, rf_123_11, rf_123_12, rf_123_15, rf_123_16, rf_123_17, rf_123_26, rf_123_29, rf_123_30, rf_123_32, rf_123_34, rf_123_35, rf_123_45, kd_130, kd_131, n_0, n_1, n_2, n_3, n_4, n_20, n_400, nn_lt, nn_nlt, nn_le, nn_nle, nn_ne, nn_sub, nn_mul, nI_add, nn_neg, nm_eq, mn_eq, mm_eq, mn_lt, nm_lt, mn_le, nm_le, nn_sub0, nn_of, implies_true, nn_c, nn_in, nn_div, nat_rem, Nat.reduceMul, Nat.reduceSub, Nat.reduceDiv, Nat.reduceMod, pf_at, pf_ne, mk_s, mk_1, Classical.not_not, b2i_T, b2i_F, false_imp_iff, true_imp_iff, false_and, and_false, p_sw, Int.reduceAdd, Int.zero_add, Option.some.injEq, Value.int.injEq, Value.long.injEq, Value.ref.injEq, exists_eq_left', mk_I, mk_L, mk_wI, mk_wL, rf_s, rf_n, true_and, and_true, and_self, or_true, true_or, or_false, false_or, not_true_eq_false, not_false_eq_true, Option.toList_some, Option.toList_none, List.cons_append, List.nil_append, List.map_nil, List.map_cons, List.sum_nil, List.sum_cons, cat_i, cat_l, cat_r, cat_n, Nat.reduceLeDiff, Nat.reduceAdd, Nat.reduceEqDiff, Nat.zero_le, p_ent, p_u_ne, p_u_at, reduceIte, if_true, if_false, e]
  generalize eF : upd (upd (upd (upd (upd (I 131) 0 a) 1 b) 2 c) 3 d') 4 e' = F
  have hF : ∀ j, j < 5 → F j = g5 a b c d' e' j := by
    intro j hj
    have : j = 0 ∨ j = 1 ∨ j = 2 ∨ j = 3 ∨ j = 4 := by omega
    rcases this with rfl | rfl | rfl | rfl | rfl <;> (rw [← eF]; rfl)
  have eI : p_u (p_u (p_u (p_u (p_u I 131 0 a) 131 1 b) 131 2 c) 131 3 d') 131 4 e' = p_fn I 131 F := by
    rw [← eF]
    simp only [pu_fn, pf_pf, pf_at]
  have eI2 : p_u (p_u (p_u (p_u (p_u I 131 (nI 0).toNatClampNeg a) 131 (nI 1).toNatClampNeg b) 131 (nI 2).toNatClampNeg c) 131 (nI 3).toNatClampNeg d') 131 (nI 4).toNatClampNeg e' = p_fn I 131 F := eI
  first | rw [eI] | rw [eI2]
  have loop : ∀ i, i ≤ 20 → P_run d 156 (p_bk 156 2) 0 0 [.ref 123, .int a, .int b, .int c, .int d', .int e', .int (nI i)] [] (p_mk Ls (p_fn (p_fn I 131 F) 130 (va_cpy (byM (g5 a b c d' e')) (I 130) 0 n i)) L R X) (fun v h' => v = some (.int (nI (n + 20))) ∧ ∃ J, h' = p_mk Ls J L R X ∧ (∀ q, q ≠ 123 → q ≠ 130 → q ≠ 131 → J q = I q) ∧ J 123 = upd (I 123) 13 (nI (n + 20)) ∧ J 130 = va_cpy (byM (g5 a b c d' e')) (I 130) 0 n 20) := by
    refine down_ind ?_ ?_
    · rw [P_run_eq, bk_156_2, pb_156_2]; simp -implicitDefEqProofs (disch := first | omega | decide) only [P_m, ↓P_run_eq _ 156 _ (p_bk 156 3), bk_156_3, pb_156_3, pw_iload_6, pw_bipush, bl_20, pw_cge, pw_aload_n0, pw_aloadN_n0, pw_getR, pw_getI, pw_iadd, pw_iconst, il_4, pw_idiv, pw_iald, bl_24, bl_8, pw_irem, pw_imul, pw_isub, pw_ishr, pw_i2b, pw_bast, pw_iinc_6, il_1, po_i6, po_r6, po_n6, po_u6, pw_goto, pw_dupi, pw_dupr, pw_putI, pw_ret0, kd_123, rf_123_1, rf_123_2, rf_123_3, rf_123_4, rf_123_5, rf_123_7, rf_123_11, rf_123_12, rf_123_15, rf_123_16, rf_123_17, rf_123_26, rf_123_29, rf_123_30, rf_123_32, rf_123_34, rf_123_35, rf_123_45, kd_130, kd_131, n_0, n_1, n_4, n_8, n_20, n_24, nn_lt, nn_nlt, nn_le, nn_nle, nn_ne, nn_sub, nn_mul, nI_add, nn_neg, nm_eq, mn_eq, mm_eq, mn_lt, nm_lt, mn_le, nm_le, nn_sub0, nn_of, implies_true, nn_c, nn_in, nn_div, nat_rem, Nat.reduceMul, Nat.reduceSub, Nat.reduceDiv, Nat.reduceMod, pf_at, pf_ne, mk_s, mk_1, Classical.not_not, b2i_T, b2i_F, false_imp_iff, true_imp_iff, false_and, and_false, p_sw, Int.reduceAdd, Int.zero_add, Option.some.injEq, Value.int.injEq, Value.long.injEq, Value.ref.injEq, exists_eq_left', mk_I, mk_L, mk_wI, mk_wL, rf_s, rf_n, true_and, and_true, and_self, or_true, true_or, or_false, false_or, not_true_eq_false, not_false_eq_true, Option.toList_some, Option.toList_none, List.cons_append, List.nil_append, List.map_nil, List.map_cons, List.sum_nil, List.sum_cons, cat_i, cat_l, cat_r, cat_n, Nat.reduceLeDiff, Nat.reduceAdd, Nat.reduceEqDiff, Nat.zero_le, p_ent, p_u_ne, p_u_at, reduceIte, if_true, if_false, e]
      refine ⟨_, rfl, fun q q1 q2 q3 => ?_, ?_, ?_⟩
      · rw [p_u_ne q1, pf_ne q2, pf_ne q3]
      · rw [p_u_self, pf_ne (by omega), pf_ne (by omega)]
      · rw [p_u_ne (by omega), pf_at]
    · intro i hi ih
      have e3 := cpy_1 (f := byM (g5 a b c d' e')) (g := I 130) (sp := 0) (dp := n) (n := i)
      rw [Nat.zero_add] at e3
      have e4 : (F (i / 4) >>> (nI (24 - 8 * (i % 4)) &&& 31)).toInt8.toInt32 = byM (g5 a b c d' e') i := by
        unfold byM; rw [hF (i / 4) (by omega)]
      have e5 : p_nv 2 (byM (g5 a b c d' e') i) = byM (g5 a b c d' e') i := nv_b8 _
      rw [P_run_eq, bk_156_2, pb_156_2]; simp -implicitDefEqProofs (disch := first | omega | decide) only [P_m, pw_iload_6, pw_bipush, bl_20, pw_cge, pw_aload_n0, pw_aloadN_n0, pw_getR, pw_getI, pw_iadd, pw_iconst, il_4, pw_idiv, pw_iald, bl_24, bl_8, pw_irem, pw_imul, pw_isub, pw_ishr, pw_i2b, pw_bast, pw_iinc_6, il_1, po_i6, po_r6, po_n6, po_u6, pw_goto, kd_123, rf_123_1, rf_123_2, rf_123_3, rf_123_4, rf_123_5, rf_123_7, rf_123_11, rf_123_12, rf_123_15, rf_123_16, rf_123_17, rf_123_26, rf_123_29, rf_123_30, rf_123_32, rf_123_34, rf_123_35, rf_123_45, kd_130, kd_131, n_0, n_1, n_4, n_8, n_20, n_24, nn_lt, nn_nlt, nn_le, nn_nle, nn_ne, nn_sub, nn_mul, nI_add, nn_neg, nm_eq, mn_eq, mm_eq, mn_lt, nm_lt, mn_le, nm_le, nn_sub0, nn_of, implies_true, nn_c, nn_in, nn_div, nat_rem, Nat.reduceMul, Nat.reduceSub, Nat.reduceDiv, Nat.reduceMod, pf_at, pf_ne, mk_s, mk_1, Classical.not_not, b2i_T, b2i_F, false_imp_iff, true_imp_iff, false_and, and_false, p_sw, Int.reduceAdd, Int.zero_add, Option.some.injEq, Value.int.injEq, Value.long.injEq, Value.ref.injEq, exists_eq_left', mk_I, mk_L, mk_wI, mk_wL, rf_s, rf_n, true_and, and_true, and_self, or_true, true_or, or_false, false_or, not_true_eq_false, not_false_eq_true, Option.toList_some, Option.toList_none, List.cons_append, List.nil_append, List.map_nil, List.map_cons, List.sum_nil, List.sum_cons, cat_i, cat_l, cat_r, cat_n, Nat.reduceLeDiff, Nat.reduceAdd, Nat.reduceEqDiff, Nat.zero_le, p_ent, p_u_ne, p_u_at, reduceIte, if_true, if_false, e, pu_pf, e4, e5, e3]
      exact ih
  have := loop 0 (by omega)
  rw [cpy_0] at this
  have e9 : p_fn (p_fn I 131 F) 130 (I 130) = p_fn I 131 F := by
    funext b
    by_cases eb : b = 130
    · subst eb; rw [pf_at, pf_ne (by omega)]
    · rw [pf_ne eb]
  rw [e9] at this
  exact this
theorem q_feed (a b c d' e' : Int32) (H : Inv I R X) : Same (d + 1) 86 156 [.int a, .int b, .int c, .int d', .int e'] Ls (p_mk Ls I L R X) := by
  obtain ⟨⟨n, hn, e⟩, e13, g3⟩ := H.2.2.1
  rw [e] at e13
  rcases Nat.lt_or_ge 380 n with c9 | c9
  · simp -implicitDefEqProofs (disch := first | omega | decide) only [P_m, ↓P_run_eq _ 86 _ (p_bk 86 0), bk_86_0, pb_86_0, ↓P_run_eq _ 156 _ (p_bk 156 0), bk_156_0, pb_156_0, pw_aload_n0, pw_aloadN_n0, pw_getR, pw_getI, pw_bipush, bl_20, pw_iadd, pw_sipush, sl_400, pw_cle, pw_iconst, il_m1, pw_ret0, kd_32, rf_32_0, rf_32_1, rf_32_2, rf_32_3, rf_32_4, rf_32_5, rf_32_6, rf_32_7, rf_32_8, rf_32_9, rf_32_11, rf_32_12, rf_32_13, kd_33, rf_33_0, kd_123, rf_123_1, rf_123_2, rf_123_3, rf_123_4, rf_123_5, rf_123_7, rf_123_11, rf_123_12, rf_123_15, rf_123_16, rf_123_17, rf_123_26, rf_123_29, rf_123_30, rf_123_32, rf_123_34, rf_123_35, rf_123_45, n_0, n_1, n_20, n_400, nn_lt, nn_nlt, nn_le, nn_nle, nn_ne, nn_sub, nn_mul, nI_add, nn_neg, nm_eq, mn_eq, mm_eq, mn_lt, nm_lt, mn_le, nm_le, nn_sub0, nn_of, implies_true, nn_c, nn_in, nn_div, nat_rem, Nat.reduceMul, Nat.reduceSub, Nat.reduceDiv, Nat.reduceMod, pf_at, pf_ne, mk_s, mk_1, Classical.not_not, b2i_T, b2i_F, false_imp_iff, true_imp_iff, false_and, and_false, p_sw, Int.reduceAdd, Int.zero_add, Option.some.injEq, Value.int.injEq, Value.long.injEq, Value.ref.injEq, exists_eq_left', mk_I, mk_L, mk_wI, mk_wL, rf_s, rf_n, true_and, and_true, and_self, or_true, true_or, or_false, false_or, not_true_eq_false, not_false_eq_true, Option.toList_some, Option.toList_none, List.cons_append, List.nil_append, List.map_nil, List.map_cons, List.sum_nil, List.sum_cons, cat_i, cat_l, cat_r, cat_n, Nat.reduceLeDiff, Nat.reduceAdd, Nat.reduceEqDiff, Nat.zero_le, p_ent, p_u_ne, p_u_at, reduceIte, if_true, if_false, Same, e, e13]
    exact ⟨_, _, _, _, rfl, H⟩
  · have z0 := by_glue (F := g5 a b c d' e') (g := I 34) (n := n) (i := 0)
    have z1 := by_glue (F := g5 a b c d' e') (g := I 34) (n := n) (i := 1)
    have z2 := by_glue (F := g5 a b c d' e') (g := I 34) (n := n) (i := 2)
    have z3 := by_glue (F := g5 a b c d' e') (g := I 34) (n := n) (i := 3)
    have z4 := by_glue (F := g5 a b c d' e') (g := I 34) (n := n) (i := 4)
    rw [Nat.mul_zero, cpy_0, Nat.add_zero] at z0
    have z0 : va_cpy (by4 a) (I 34) 0 n 4 = va_cpy (byC (g5 a b c d' e')) (I 34) 0 n 4 := z0
    have z1 : va_cpy (by4 b) (va_cpy (byC (g5 a b c d' e')) (I 34) 0 n 4) 0 (n + 4) 4 = va_cpy (byC (g5 a b c d' e')) (I 34) 0 n 8 := z1
    have z2 : va_cpy (by4 c) (va_cpy (byC (g5 a b c d' e')) (I 34) 0 n 8) 0 (n + 8) 4 = va_cpy (byC (g5 a b c d' e')) (I 34) 0 n 12 := z2
    have z3 : va_cpy (by4 d') (va_cpy (byC (g5 a b c d' e')) (I 34) 0 n 12) 0 (n + 12) 4 = va_cpy (byC (g5 a b c d' e')) (I 34) 0 n 16 := z3
    have z4 : va_cpy (by4 e') (va_cpy (byC (g5 a b c d' e')) (I 34) 0 n 16) 0 (n + 16) 4 = va_cpy (byC (g5 a b c d' e')) (I 34) 0 n 20 := z4
    have cl : P_m (d + 1) 86 [.ref 32, .int a, .int b, .int c, .int d', .int e'] (p_mk Ls I L R X) (fun v h' => v = some (.int (nI (n + 20))) ∧ h' = p_mk Ls (p_u (p_fn I 34 (va_cpy (byC (g5 a b c d' e')) (I 34) 0 n 20)) 33 1 (nI (n + 20))) L R X) := by
      have s1 := sp_74 (d := d) (Ls := Ls) (I := I) (L := L) (R := R) (X := X) a (n := n) (by omega) e
      rw [z0] at s1
      have nx : ∀ (x : Int32) (m : Nat), m ≤ 396 → P_m d 74 [.ref 33, .int x] (p_mk Ls (p_u (p_fn I 34 (va_cpy (byC (g5 a b c d' e')) (I 34) 0 n (m - n))) 33 1 (nI m)) L R X) (fun v h' => v = none ∧ h' = p_mk Ls (p_u (p_fn I 34 (va_cpy (by4 x) (va_cpy (byC (g5 a b c d' e')) (I 34) 0 n (m - n)) 0 m 4)) 33 1 (nI (m + 4))) L R X) := by
        intro x m hm
        have s := sp_74 (d := d) (Ls := Ls) (I := p_u (p_fn I 34 (va_cpy (byC (g5 a b c d' e')) (I 34) 0 n (m - n))) 33 1 (nI m)) (L := L) (R := R) (X := X) x (n := m) hm (by rw [p_u_at, if_pos rfl])
        rw [p_u_ne (by omega), pf_at, puf_2 (by omega)] at s
        exact s
      have s2 := nx b (n + 4) (by omega)
      have s3 := nx c (n + 8) (by omega)
      have s4 := nx d' (n + 12) (by omega)
      have s5 := nx e' (n + 16) (by omega)
      rw [show n + 4 - n = 4 by omega, z1] at s2
      rw [show n + 8 - n = 8 by omega, z2] at s3
      rw [show n + 12 - n = 12 by omega, z3] at s4
      rw [show n + 16 - n = 16 by omega, z4] at s5
      simp -implicitDefEqProofs (disch := first | omega | decide) only [P_m, ↓P_run_eq _ 86 _ (p_bk 86 0), bk_86_0, pb_86_0, ↓P_run_eq _ 86 _ (p_bk 86 1), bk_86_1, pb_86_1, pw_aload_n0, pw_aloadN_n0, pw_getR, pw_getI, pw_bipush, bl_20, pw_iadd, pw_sipush, sl_400, pw_cle, pw_iconst, il_m1, pw_ret0, pw_iload_n1, pw_iv2, pw_iload_n2, pw_iload_n3, pw_iload_4, pw_iload_5, kd_32, rf_32_0, rf_32_1, rf_32_2, rf_32_3, rf_32_4, rf_32_5, rf_32_6, rf_32_7, rf_32_8, rf_32_9, rf_32_11, rf_32_12, rf_32_13, kd_33, rf_33_0, n_0, n_1, n_20, n_400, nn_lt, nn_nlt, nn_le, nn_nle, nn_ne, nn_sub, nn_mul, nI_add, nn_neg, nm_eq, mn_eq, mm_eq, mn_lt, nm_lt, mn_le, nm_le, nn_sub0, nn_of, implies_true, nn_c, nn_in, nn_div, nat_rem, Nat.reduceMul, Nat.reduceSub, Nat.reduceDiv, Nat.reduceMod, pf_at, pf_ne, mk_s, mk_1, Classical.not_not, b2i_T, b2i_F, false_imp_iff, true_imp_iff, false_and, and_false, p_sw, Int.reduceAdd, Int.zero_add, Option.some.injEq, Value.int.injEq, Value.long.injEq, Value.ref.injEq, exists_eq_left', mk_I, mk_L, mk_wI, mk_wL, rf_s, rf_n, true_and, and_true, and_self, or_true, true_or, or_false, false_or, not_true_eq_false, not_false_eq_true, Option.toList_some, Option.toList_none, List.cons_append, List.nil_append, List.map_nil, List.map_cons, List.sum_nil, List.sum_cons, cat_i, cat_l, cat_r, cat_n, Nat.reduceLeDiff, Nat.reduceAdd, Nat.reduceEqDiff, Nat.zero_le, p_ent, p_u_ne, p_u_at, reduceIte, if_true, if_false, e, P_ce s1, P_ce s2, P_ce s3, P_ce s4, P_ce s5]
    unfold Same
    refine p_run_Q cl ?_
    rintro _ _ ⟨rfl, rfl⟩
    refine ⟨_, rfl, ?_⟩
    refine p_run_Q (sp_156 a b c d' e' c9 (by exact e13)) ?_
    rintro _ _ ⟨rfl, K, rfl, f1, f2, f3⟩
    refine ⟨rfl, K, _, _, _, rfl, ?_⟩
    have f4 : ∀ q, q ≠ 123 → q ≠ 130 → q ≠ 131 → q ≠ 33 → q ≠ 34 → K q = I q := fun q q1 q2 q3 q4 q5 => by
      rw [f1 q q1 q2 q3, p_u_ne q4, pf_ne q5]
    obtain ⟨h1, h2, h3, h4, h5, h6, h7, h8⟩ := H
    have k123 : ∀ k, k ≠ 13 → K 123 k = I 123 k := fun k hk => by rw [f2, upd_ne hk]; rfl
    refine ⟨invK_fr (fun a ha => f4 a (by omega) (by omega) (by omega) (by omega) (by omega)) (f4 129 (by omega) (by omega) (by omega) (by omega) (by omega)) h1, invC_fr (f4 122 (by omega) (by omega) (by omega) (by omega) (by omega)) (f4 124 (by omega) (by omega) (by omega) (by omega) (by omega)) ?_ (k123 0 (by omega)) ?_ (k123 14 (by omega)) ?_ (k123 37 (by omega)) ?_ (k123 6 (by omega)) h2, ?_, invU_fr (f4 80 (by omega) (by omega) (by omega) (by omega) (by omega)) (f4 81 (by omega) (by omega) (by omega) (by omega) (by omega)) (f4 136 (by omega) (by omega) (by omega) (by omega) (by omega)) (by rw [f4 125 (by omega) (by omega) (by omega) (by omega) (by omega)]) (k123 31 (by omega)) h4, invI_fr (fun b b1 b2 => f4 b (by omega) (by omega) (by omega) (by omega) (by omega)) (f4 126 (by omega) (by omega) (by omega) (by omega) (by omega)) (f4 127 (by omega) (by omega) (by omega) (by omega) (by omega)) (fun b b1 => f4 b (by omega) (by omega) (by omega) (by omega) (by omega)) rfl rfl (fun _ _ => rfl) h5, invD_fr ?_ (k123 46 (by omega)) (f4 93 (by omega) (by omega) (by omega) (by omega) (by omega)) (f4 98 (by omega) (by omega) (by omega) (by omega) (by omega)) (f4 100 (by omega) (by omega) (by omega) (by omega) (by omega)) (f4 141 (by omega) (by omega) (by omega) (by omega) (by omega)) h6, ?_, ?_⟩
    · rw [f4 32 (by omega) (by omega) (by omega) (by omega) (by omega)]
    · rw [f4 32 (by omega) (by omega) (by omega) (by omega) (by omega)]
    · rw [f4 32 (by omega) (by omega) (by omega) (by omega) (by omega)]
    · rw [f4 32 (by omega) (by omega) (by omega) (by omega) (by omega)]
    · have k33 : K 33 1 = nI (n + 20) := by rw [f1 33 (by omega) (by omega) (by omega), p_u_at, if_pos rfl]
      have k34 : K 34 = va_cpy (byC (g5 a b c d' e')) (I 34) 0 n 20 := by rw [f1 34 (by omega) (by omega) (by omega), p_u_ne (by omega), pf_at]
      refine ⟨⟨n + 20, by omega, k33⟩, by rw [f2, upd_eq, k33], fun k hk => ?_⟩
      rw [k33, nI_c (by omega)] at hk
      rw [k34, f3]
      unfold va_cpy
      by_cases ck : n ≤ k ∧ k < n + 20
      · rw [if_pos ck, if_pos ck]
        exact ⟨and_255 _, (b8_255 _).symm⟩
      · rw [if_neg ck, if_neg ck]
        rw [e, nI_c (by omega)] at g3
        exact g3 k (by omega)
    · rw [f4 32 (by omega) (by omega) (by omega) (by omega) (by omega)]
    · rw [f4 125 (by omega) (by omega) (by omega) (by omega) (by omega)]
      exact hut_fr (fun b b1 b2 => f4 b (by omega) (by omega) (by omega) (by omega) (by omega)) (fun b b1 => f4 b (by omega) (by omega) (by omega) (by omega) (by omega)) rfl (fun _ _ => rfl) h7
    · rw [f4 125 (by omega) (by omega) (by omega) (by omega) (by omega)]; exact h8
end FE
