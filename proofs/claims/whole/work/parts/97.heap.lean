/-! HEAPS: pairs of things as bits -/
theorem bs_tb (p : Nat → Bool) : ∀ n k, (bs p n).testBit k = (decide (k < n) && p k)
  | 0, k => by
    show (0 : Nat).testBit k = _
    rw [Nat.zero_testBit, decide_eq_false (by omega), Bool.false_and]
  | n + 1, k => by
    have ih := bs_tb p n k
    have hl := bs_lt p n
    unfold bs
    rcases Nat.lt_trichotomy k n with h | h | h
    · rw [decide_eq_true (show k < n + 1 by omega)]
      rw [decide_eq_true h] at ih
      split
      · rw [Nat.add_comm, Nat.testBit_two_pow_add_gt h, ih]
      · rw [Nat.add_zero, ih]
    · subst h
      rw [decide_eq_true (show k < k + 1 by omega), Bool.true_and]
      rw [decide_eq_false (show ¬ k < k by omega), Bool.false_and] at ih
      split
      · rename_i hp; rw [Nat.add_comm, Nat.testBit_two_pow_add_eq, ih, hp]; rfl
      · rename_i hp; rw [Nat.add_zero, ih]; simpa using hp
    · rw [decide_eq_false (show ¬ k < n + 1 by omega), Bool.false_and]
      refine Nat.testBit_lt_two_pow ?_
      have e1 : 2 ^ (n + 1) ≤ 2 ^ k := Nat.pow_le_pow_right (by omega) (by omega)
      have e2 : 2 ^ (n + 1) = 2 ^ n + 2 ^ n := by rw [Nat.pow_succ]; omega
      split <;> omega
theorem nn_or (a b : Nat) : nI a ||| nI b = nI (a ||| b) := by
  refine Int32.toBitVec_inj.mp ?_
  rw [Int32.toBitVec_or]
  show BitVec.ofNat 32 a ||| BitVec.ofNat 32 b = BitVec.ofNat 32 (a ||| b)
  exact (BitVec.ofNat_or ..).symm
def tP (k : Nat) : Nat := if k < 1 then 1 else if k < 3 then 2 else if k < 6 then 3 else if k < 10 then 4 else if k < 15 then 5 else if k < 21 then 6 else 7
def uP (k : Nat) : Nat := k - tP k * (tP k - 1) / 2
def pbM (t s : Nat) : Nat := bs (fun k => decide (tP k = t) && (decide (bt s t = 1) && decide (bt s (uP k) = 1))) 28
theorem pb_0 {t s : Nat} (e : bt s t = 0) : pbM t s = 0 := by
  refine Nat.eq_of_testBit_eq (fun k => ?_)
  unfold pbM
  rw [bs_tb, decide_eq_false (show ¬ bt s t = 1 by omega), Bool.false_and, Bool.and_false, Bool.and_false, Nat.zero_testBit]
theorem pb_1 : ∀ t, t < 8 → ∀ s, s < 256 → bt s t = 1 → (nI s &&& nI 1 <<< (nI t &&& 31) - nI 1) <<< (nI t * (nI t - nI 1) / 2 &&& 31) = nI (pbM t s) := by decide +kernel
section HP
variable {d Ls : Nat} {I : Nat → Nat → Int32} {L : Nat → Nat → Int64} {R : Nat → Nat → Option Nat} {X : List pKd} {h : pHp}
theorem sp_43 {t s : Nat} (ht : t < 8) (hs : s < 256) : P_m d 43 [.ref 48, .int (nI t), .int (nI s)] (p_mk Ls I L R X) (fun v h' => v = some (.int (nI (pbM t s))) ∧ h' = p_mk Ls I L R X) := by
  have b := bit_n hs ht
  rcases bt_01 s t with e | e
  · rw [e] at b
    simp -implicitDefEqProofs only [P_m, ↓P_run_eq _ 43 _ (p_bk 43 0), bk_43_0, pb_43_0, ↓P_run_eq _ 43 _ (p_bk 43 1), bk_43_1, pb_43_1, ↓P_run_eq _ 43 _ (p_bk 43 2), bk_43_2, pb_43_2, pw_iload_n2, pw_iconst, il_1, pw_iload_n1, pw_ishl, pw_isub, pw_iand, pw_istore_n3, ps_3, pe_3, po_i3, po_r3, po_n3, po_u3, pw_ishr, pw_zne, il_0, pw_goto, pw_iload_n3, pw_imul, il_2, pw_idiv, pw_nop, pw_ret0, kd_48, rf_48_0, rf_48_6, rf_48_7, rf_48_8, rf_48_9, rf_48_10, rf_48_12, rf_48_13, rf_48_14, rf_48_15, rf_48_1, rf_48_2, Classical.not_not, implies_true, mk_s, mk_1, pf_at, pf_ne, b2i_T, b2i_F, false_imp_iff, true_imp_iff, ne_10, ne_01, ne_m10, ne_0m1, ne_m11, ne_1m1, false_and, and_false, p_sw, Int.reduceAdd, Int.zero_add, Option.some.injEq, Value.int.injEq, Value.long.injEq, Value.ref.injEq, exists_eq_left',  mk_I, mk_L, mk_wI, mk_wL, rf_s, rf_n, true_and, and_true, and_self, or_true, true_or, or_false, false_or, not_true_eq_false, not_false_eq_true, Option.toList_some, Option.toList_none, List.cons_append, List.nil_append, List.map_nil, List.map_cons, List.sum_nil, List.sum_cons, cat_i, cat_l, cat_r, cat_n, Nat.reduceLeDiff, Nat.reduceAdd, Nat.reduceEqDiff, Nat.zero_le, p_ent, Int32.reduceToNatClampNeg, Int32.reduceLT, Int32.reduceLE, vin_l, p_u_ne, p_u_at, reduceIte, if_true, if_false, Int32.reduceToInt, Int.zero_le_ofNat, Int.cast_ofNat_Int, Int.reduceLT, Int.reduceLE, not_false_eq_true, n_1, n_0, b]
    rw [pb_0 e]
  · rw [e] at b
    simp -implicitDefEqProofs only [P_m, ↓P_run_eq _ 43 _ (p_bk 43 0), bk_43_0, pb_43_0, ↓P_run_eq _ 43 _ (p_bk 43 1), bk_43_1, pb_43_1, ↓P_run_eq _ 43 _ (p_bk 43 2), bk_43_2, pb_43_2, pw_iload_n2, pw_iconst, il_1, pw_iload_n1, pw_ishl, pw_isub, pw_iand, pw_istore_n3, ps_3, pe_3, po_i3, po_r3, po_n3, po_u3, pw_ishr, pw_zne, il_0, pw_goto, pw_iload_n3, pw_imul, il_2, pw_idiv, pw_nop, pw_ret0, kd_48, rf_48_0, rf_48_6, rf_48_7, rf_48_8, rf_48_9, rf_48_10, rf_48_12, rf_48_13, rf_48_14, rf_48_15, rf_48_1, rf_48_2, Classical.not_not, implies_true, mk_s, mk_1, pf_at, pf_ne, b2i_T, b2i_F, false_imp_iff, true_imp_iff, ne_10, ne_01, ne_m10, ne_0m1, ne_m11, ne_1m1, false_and, and_false, p_sw, Int.reduceAdd, Int.zero_add, Option.some.injEq, Value.int.injEq, Value.long.injEq, Value.ref.injEq, exists_eq_left',  mk_I, mk_L, mk_wI, mk_wL, rf_s, rf_n, true_and, and_true, and_self, or_true, true_or, or_false, false_or, not_true_eq_false, not_false_eq_true, Option.toList_some, Option.toList_none, List.cons_append, List.nil_append, List.map_nil, List.map_cons, List.sum_nil, List.sum_cons, cat_i, cat_l, cat_r, cat_n, Nat.reduceLeDiff, Nat.reduceAdd, Nat.reduceEqDiff, Nat.zero_le, p_ent, Int32.reduceToNatClampNeg, Int32.reduceLT, Int32.reduceLE, vin_l, p_u_ne, p_u_at, reduceIte, if_true, if_false, Int32.reduceToInt, Int.zero_le_ofNat, Int.cast_ofNat_Int, Int.reduceLT, Int.reduceLE, not_false_eq_true, n_1, n_0, b]
    exact ⟨fun _ => ⟨by decide, pb_1 t ht s hs e⟩, fun h => absurd h (by decide)⟩
end HP
