/-! FEED -/
theorem nn_addm {a b : Nat} (h : b ≤ a) : nI a + mI b = nI (a - b) := by
  unfold mI; rw [← Int32.sub_eq_add_neg, nn_sub h]
theorem nn_addm0 {a b : Nat} (h : a < b) : nI a + mI b = mI (b - a) := by
  unfold mI; rw [← Int32.sub_eq_add_neg, nn_sub0 h]; rfl
theorem and_255 (x : Int32) : bn (x &&& nI 255) 255 := by
  refine ⟨(x.toBitVec &&& 255#32).toNat, ?_, ?_⟩
  · rw [BitVec.toNat_and]; exact Nat.and_le_right
  · refine Int32.toBitVec_inj.mp ?_
    rw [Int32.toBitVec_and]
    show _ = BitVec.ofNat 32 _
    rw [BitVec.ofNat_toNat, BitVec.setWidth_eq]
    rfl
theorem b8_255 (x : Int32) : (x &&& nI 255).toInt8.toInt32 = x.toInt8.toInt32 := by
  rw [Int32.toInt8_and]
  congr 1
  have : (nI 255).toInt8 = -1 := by decide
  rw [this, Int8.and_neg_one]
theorem nv_b8 (x : Int32) : p_nv 2 x.toInt8.toInt32 = x.toInt8.toInt32 := by
  show (x.toInt8.toInt32).toInt8.toInt32 = _
  rw [Int8.toInt8_toInt32]
section FE
variable {d Ls : Nat} {I J : Nat → Nat → Int32} {L : Nat → Nat → Int64} {R Q : Nat → Nat → Option Nat} {X : List pKd} {h : pHp}
theorem sp_74 (x : Int32) {n : Nat} (hn : n ≤ 396) (e : I 33 1 = nI n) : P_m d 74 [.ref 33, .int x] (p_mk Ls I L R X) (fun v h' => v = none ∧ h' = p_mk Ls (p_u (p_u (p_u (p_u (p_u (p_u (p_u (p_u I 34 n (x >>> (nI 24 &&& 31) &&& nI 255)) 33 1 (nI (n + 1))) 34 (n + 1) (x >>> (nI 16 &&& 31) &&& nI 255)) 33 1 (nI (n + 2))) 34 (n + 2) (x >>> (nI 8 &&& 31) &&& nI 255)) 33 1 (nI (n + 3))) 34 (n + 3) (x >>> (nI 0 &&& 31) &&& nI 255)) 33 1 (nI (n + 4))) L R X) := by
  simp -implicitDefEqProofs (disch := first | omega | decide) only [P_m, ↓P_run_eq _ 74 _ (p_bk 74 0), bk_74_0, pb_74_0, ↓P_run_eq _ 74 _ (p_bk 74 1), bk_74_1, pb_74_1, pw_aload_n0, pw_aloadN_n0, pw_getI, pw_iconst, il_4, pw_iadd, pw_sipush, sl_400, pw_cle, pw_vret, pw_bipush, bl_24, pw_istore_n2, ps_2, pe_2, po_i2, po_r2, po_n2, po_u2, pw_nop, kd_33, rf_33_0, kd_34, n_0, n_1, n_4, n_24, n_400, nn_lt, nn_nlt, nn_le, nn_nle, nn_ne, nn_sub, nn_mul, nI_add, nn_neg, nm_eq, mn_eq, mm_eq, mn_lt, nm_lt, mn_le, nm_le, nn_sub0, nn_of, implies_true, nn_c, nn_in, nn_div, nat_rem, Nat.reduceMul, Nat.reduceSub, Nat.reduceDiv, Nat.reduceMod, pf_at, pf_ne, mk_s, mk_1, Classical.not_not, b2i_T, b2i_F, false_imp_iff, true_imp_iff, false_and, and_false, p_sw, Int.reduceAdd, Int.zero_add, Option.some.injEq, Value.int.injEq, Value.long.injEq, Value.ref.injEq, exists_eq_left', mk_I, mk_L, mk_wI, mk_wL, rf_s, rf_n, true_and, and_true, and_self, or_true, true_or, or_false, false_or, not_true_eq_false, not_false_eq_true, Option.toList_some, Option.toList_none, List.cons_append, List.nil_append, List.map_nil, List.map_cons, List.sum_nil, List.sum_cons, cat_i, cat_l, cat_r, cat_n, Nat.reduceLeDiff, Nat.reduceAdd, Nat.reduceEqDiff, Nat.zero_le, p_ent, p_u_ne, p_u_at, reduceIte, if_true, if_false, e]
  rw [P_run_eq, bk_74_2, pb_74_2]; simp -implicitDefEqProofs (disch := first | omega | decide) only [P_m, pw_iload_n2, pw_zlt, pw_aload_n0, pw_aloadN_n0, pw_getR, pw_getI, pw_iload_n1, pw_ishr, pw_sipush, sl_255, pw_iand, pw_iast, pw_dupi, pw_dupr, pw_iconst, il_1, pw_iadd, pw_putI, pw_iinc_2, il_m8, po_i2, po_r2, po_n2, po_u2, pw_goto, kd_33, rf_33_0, kd_34, n_0, n_1, n_255, nn_lt, nn_nlt, nn_le, nn_nle, nn_ne, nn_sub, nn_mul, nI_add, nn_neg, nm_eq, mn_eq, mm_eq, mn_lt, nm_lt, mn_le, nm_le, nn_sub0, nn_of, implies_true, nn_c, nn_in, nn_div, nat_rem, Nat.reduceMul, Nat.reduceSub, Nat.reduceDiv, Nat.reduceMod, pf_at, pf_ne, mk_s, mk_1, Classical.not_not, b2i_T, b2i_F, false_imp_iff, true_imp_iff, false_and, and_false, p_sw, Int.reduceAdd, Int.zero_add, Option.some.injEq, Value.int.injEq, Value.long.injEq, Value.ref.injEq, exists_eq_left', mk_I, mk_L, mk_wI, mk_wL, rf_s, rf_n, true_and, and_true, and_self, or_true, true_or, or_false, false_or, not_true_eq_false, not_false_eq_true, Option.toList_some, Option.toList_none, List.cons_append, List.nil_append, List.map_nil, List.map_cons, List.sum_nil, List.sum_cons, cat_i, cat_l, cat_r, cat_n, Nat.reduceLeDiff, Nat.reduceAdd, Nat.reduceEqDiff, Nat.zero_le, p_ent, p_u_ne, p_u_at, reduceIte, if_true, if_false, e]
  trace_state
  sorry
theorem ce_74 (x : Int32) {n : Nat} (hn : n ≤ 396) {yy : Nat} {rr : List pI} {kc ks : Nat} {lls st : List Value} {Q : Option Value → pHp → Prop} (e : I 33 1 = nI n) : P_call d yy 74 [.ref 33, .int x] rr kc ks lls st (p_mk Ls I L R X) Q = P_w (d + 1) yy Q rr kc ks lls (st) (p_mk Ls (p_u (p_u (p_u (p_u (p_u (p_u (p_u (p_u I 34 n (x >>> (nI 24 &&& 31) &&& nI 255)) 33 1 (nI (n + 1))) 34 (n + 1) (x >>> (nI 16 &&& 31) &&& nI 255)) 33 1 (nI (n + 2))) 34 (n + 2) (x >>> (nI 8 &&& 31) &&& nI 255)) 33 1 (nI (n + 3))) 34 (n + 3) (x >>> (nI 0 &&& 31) &&& nI 255)) 33 1 (nI (n + 4))) L R X) := P_ce (sp_74 x hn e)
end FE
