/-! INTEGERS on both sides: ints and longs -/
def zI (x : Int) : Int32 := Int32.ofInt x
def lI (x : Int) : Int64 := Int64.ofInt x
abbrev brk : Int32 := -2000000000
def oI : Option Int → Int32
  | some v => zI v
  | none => brk
theorem zI_n (k : Nat) : zI (k : Int) = nI k := rfl
theorem zI_1 : zI 1 = 1 := rfl
theorem zI_0 : zI 0 = 0 := rfl
theorem zI_toInt {x : Int} (h1 : -2147483648 ≤ x) (h2 : x < 2147483648) : (zI x).toInt = x := Int32.toInt_ofInt_of_le h1 h2
theorem lI_toInt {x : Int} (h1 : -9223372036854775808 ≤ x) (h2 : x < 9223372036854775808) : (lI x).toInt = x := Int64.toInt_ofInt_of_le h1 h2
theorem zI_of (x : Int32) : zI x.toInt = x := Int32.ofInt_toInt x
theorem lI_z {x : Int} (h1 : -2147483648 ≤ x) (h2 : x < 2147483648) : (zI x).toInt64 = lI x := by
  refine Int64.toInt_inj.mp ?_
  rw [Int32.toInt_toInt64, zI_toInt h1 h2, lI_toInt (by omega) (by omega)]
theorem lI_i (x : Int32) : x.toInt64 = lI x.toInt := by
  refine Int64.toInt_inj.mp ?_
  have h1 := Int32.le_toInt x
  have h2 := Int32.toInt_lt x
  rw [Int32.toInt_toInt64, lI_toInt (by omega) (by omega)]
theorem lI_32 (x : Int) : (lI x).toInt32 = zI x := Int64.toInt32_ofInt
theorem lI_add (a b : Int) : lI a + lI b = lI (a + b) := (Int64.ofInt_add a b).symm
theorem lI_sub (a b : Int) : lI a - lI b = lI (a - b) := (Int64.ofInt_sub a b).symm
theorem lI_mul (a b : Int) : lI a * lI b = lI (a * b) := (Int64.ofInt_mul a b).symm
theorem lI_div {a b : Int} (a1 : -1000000000 ≤ a) (a2 : a ≤ 1000000000) (b1 : -1000000000 ≤ b) (b2 : b ≤ 1000000000) : lI a / lI b = lI (a.tdiv b) := by
  refine Int64.toInt_inj.mp ?_
  have h : (lI a) ≠ Int64.minValue := by
    intro e
    have := congrArg Int64.toInt e
    rw [lI_toInt (by omega) (by omega)] at this
    have e2 : Int64.minValue.toInt = -9223372036854775808 := by decide
    omega
  have n1 : (a.tdiv b).natAbs ≤ a.natAbs := Int.natAbs_tdiv_le_natAbs a b
  rw [Int64.toInt_div_of_ne_left _ _ h, lI_toInt (by omega) (by omega), lI_toInt (by omega) (by omega), lI_toInt (by omega) (by omega)]
theorem lI_rem {a b : Int} (a1 : -1000000000 ≤ a) (a2 : a ≤ 1000000000) (b1 : -1000000000 ≤ b) (b2 : b ≤ 1000000000) : lI a - lI a / lI b * lI b = lI (a.tmod b) := by
  rw [lI_div a1 a2 b1 b2, lI_mul, lI_sub, Int.tmod_def, Int.mul_comm]
theorem lI_lt {a b : Int} (a1 : -9223372036854775808 ≤ a) (a2 : a < 9223372036854775808) (b1 : -9223372036854775808 ≤ b) (b2 : b < 9223372036854775808) : (lI a < lI b) ↔ a < b := by
  rw [Int64.lt_iff_toInt_lt, lI_toInt a1 a2, lI_toInt b1 b2]
theorem lI_le {a b : Int} (a1 : -9223372036854775808 ≤ a) (a2 : a < 9223372036854775808) (b1 : -9223372036854775808 ≤ b) (b2 : b < 9223372036854775808) : (lI a ≤ lI b) ↔ a ≤ b := by
  rw [Int64.le_iff_toInt_le, lI_toInt a1 a2, lI_toInt b1 b2]
theorem lI_eq {a b : Int} (a1 : -9223372036854775808 ≤ a) (a2 : a < 9223372036854775808) (b1 : -9223372036854775808 ≤ b) (b2 : b < 9223372036854775808) : (lI a = lI b) ↔ a = b := by
  rw [← Int64.toInt_inj, lI_toInt a1 a2, lI_toInt b1 b2]
theorem l_e9 : (1000000000 : Int64) = lI 1000000000 := rfl
theorem l_m9 : (-1000000000 : Int64) = lI (-1000000000) := by decide
theorem l_0 : (0 : Int64) = lI 0 := rfl
theorem l_1 : (1 : Int64) = lI 1 := rfl
theorem l_99 : (99 : Int64) = lI 99 := rfl
def inB (x : Int) : Prop := -1000000000 ≤ x ∧ x ≤ 1000000000
theorem bd_in {x v : Int} (h : bd x = some v) : inB v ∧ v = x := by
  unfold bd at h
  split at h
  · cases h; exact ⟨by assumption, rfl⟩
  · cases h
theorem opv_in {o : Nat} {a b v : Int} (h : opv o a b = some v) : inB v := by
  unfold opv at h
  repeat' split at h
  all_goals first
    | cases h
    | exact (bd_in h).1
theorem mul_bd {a b : Int} (ha : inB a) (hb : inB b) : -1000000000000000000 ≤ a * b ∧ a * b ≤ 1000000000000000000 := by
  have h : (a * b).natAbs ≤ 1000000000 * 1000000000 := by
    rw [Int.natAbs_mul]
    exact Nat.mul_le_mul (by unfold inB at ha; omega) (by unfold inB at hb; omega)
  omega
/-- what the class's joined() answers -/
def jo (op : Nat) (a b : Int) : Option Int := if op < 10 then opv op a b else some (if cmpv op a b = true then 1 else 0)
theorem oI_brk {x : Option Int} (h : ∀ v, x = some v → inB v) : (oI x = brk) ↔ x = none := by
  cases x with
  | none => exact ⟨fun _ => rfl, fun _ => rfl⟩
  | some v =>
    refine ⟨fun e => ?_, fun e => by cases e⟩
    have h := h v rfl
    unfold inB at h
    have := congrArg Int32.toInt (show zI v = brk from e)
    rw [zI_toInt (by omega) (by omega)] at this
    have e2 : brk.toInt = -2000000000 := by decide
    omega
section JO
variable {d : Nat} {h : pHp}
theorem lp_32 {op : Int32} {a b : Int64} {s : Int} (h1 : -4000000000000000000 ≤ s) (h2 : s ≤ 4000000000000000000) : P_run d 32 (p_bk 32 17) 0 0 [.int op, .long a, .retAddr 0, .long b, .retAddr 0, .long (lI s), .retAddr 0] [] h (fun v h' => v = some (.int (oI (bd s))) ∧ h' = h) := by
  have c1 : (lI 1000000000 < lI s) = (1000000000 < s) := propext (lI_lt (by omega) (by omega) (by omega) (by omega))
  have e9 : -lI 1000000000 = lI (-1000000000) := by decide
  have c2 : (-lI 1000000000 ≤ lI s) = (-1000000000 ≤ s) := by
    rw [e9]
    exact propext (lI_le (by omega) (by omega) (by omega) (by omega))
  simp -implicitDefEqProofs only [P_m, ↓P_run_eq _ 32 _ (p_bk 32 17), bk_32_17, pb_32_17, ↓P_run_eq _ 32 _ (p_bk 32 18), bk_32_18, pb_32_18, ↓P_run_eq _ 32 _ (p_bk 32 19), bk_32_19, pb_32_19, ↓P_run_eq _ 32 _ (p_bk 32 20), bk_32_20, pb_32_20, pw_lload_5, pw_ldc2, cl_0, pw_lcmp, pw_zgt, cl_1, pw_zge, pw_nop, pw_ldc, cn_2, pw_goto, pw_l2i, pw_ret0, Classical.not_not, implies_true, mk_s, mk_1, pf_at, pf_ne, b2i_T, b2i_F, false_imp_iff, true_imp_iff, ne_10, ne_01, ne_m10, ne_0m1, ne_m11, ne_1m1, false_and, and_false, p_sw, Int.reduceAdd, Int.zero_add, Option.some.injEq, Value.int.injEq, Value.long.injEq, Value.ref.injEq, exists_eq_left',  mk_I, mk_L, mk_wI, mk_wL, rf_s, rf_n, true_and, and_true, and_self, or_true, true_or, or_false, false_or, not_true_eq_false, not_false_eq_true, Option.toList_some, Option.toList_none, List.cons_append, List.nil_append, List.map_nil, List.map_cons, List.sum_nil, List.sum_cons, cat_i, cat_l, cat_r, cat_n, Nat.reduceLeDiff, Nat.reduceAdd, Nat.reduceEqDiff, Nat.zero_le, p_ent, Int32.reduceToNatClampNeg, Int32.reduceLT, Int32.reduceLE, vin_l, p_u_ne, p_u_at, reduceIte, if_true, if_false, Int32.reduceToInt, Int.zero_le_ofNat, Int.cast_ofNat_Int, Int.reduceLT, Int.reduceLE, not_false_eq_true, lg_cmp_gt, lg_cmp_ge, l_e9, c1, c2, lI_32]
  unfold bd
  refine ⟨fun a => ?_, fun a => ⟨fun b => ?_, fun b => ?_⟩⟩
  · rw [if_neg (by omega)]; rfl
  · first | (rw [if_pos (by omega)]; rfl) | (rw [if_neg (by omega)]; rfl)
  · first | (rw [if_pos (by omega)]; rfl) | (rw [if_neg (by omega)]; rfl)
theorem ne_98 : ((9 : Int32) = 8) = False := eq_false (by decide)
theorem sp_32 {op : Nat} {a b : Int} (ho : 5 ≤ op) (ho2 : op ≤ 12) (ha : inB a) (hb : inB b) : P_m d 32 [.int (nI op), .long (lI a), .long (lI b)] h (fun v h' => v = some (.int (oI (jo op a b))) ∧ h' = h) := by
  have hm := mul_bd ha hb
  unfold inB at ha hb
  obtain ⟨a1, a2⟩ := ha
  obtain ⟨b1, b2⟩ := hb
  have c1 : (lI b = lI 0) = (b = 0) := propext (lI_eq (by omega) (by omega) (by omega) (by omega))
  have c2 : (lI b ≤ lI a) = (b ≤ a) := propext (lI_le (by omega) (by omega) (by omega) (by omega))
  have c3 : (lI a ≤ lI b) = (a ≤ b) := propext (lI_le (by omega) (by omega) (by omega) (by omega))
  have c4 : (lI a = lI b) = (a = b) := propext (lI_eq (by omega) (by omega) (by omega) (by omega))
  have dv := lI_div a1 a2 b1 b2
  have rm := lI_rem a1 a2 b1 b2
  have n1 : (a.tdiv b).natAbs ≤ a.natAbs := Int.natAbs_tdiv_le_natAbs a b
  have n2 : (a.tmod b).natAbs ≤ a.natAbs := by
    rw [Int.natAbs_tmod]; exact Nat.mod_le _ _
  have : op = 5 ∨ op = 6 ∨ op = 7 ∨ op = 8 ∨ op = 9 ∨ op = 10 ∨ op = 11 ∨ op = 12 := by omega
  have b1' : (some (.int (oI (some 1))) : Option Value) = some (.int (oI (bd 1))) := rfl
  have b0' : (some (.int (oI (some 0))) : Option Value) = some (.int (oI (bd 0))) := rfl
  rcases this with rfl | rfl | rfl | rfl | rfl | rfl | rfl | rfl
  · show P_m d 32 [.int 5, .long (lI a), .long (lI b)] h (fun v h' => v = some (.int (oI (bd (a + b)))) ∧ h' = h)
    simp -implicitDefEqProofs only [P_m, ↓P_run_eq _ 32 _ (p_bk 32 0), bk_32_0, pb_32_0, ↓P_run_eq _ 32 _ (p_bk 32 1), bk_32_1, pb_32_1, pw_lconst, ll_0, pw_lstore, ps_5, pe_5, po_i5, po_r5, po_n5, po_u5, ps_6, pe_6, po_i6, po_r6, po_n6, po_u6, pw_iload_n0, pw_sw, pw_lload_n1, pw_lload_n3, pw_ladd, pw_goto, Classical.not_not, implies_true, mk_s, mk_1, pf_at, pf_ne, b2i_T, b2i_F, false_imp_iff, true_imp_iff, ne_10, ne_01, ne_m10, ne_0m1, ne_m11, ne_1m1, false_and, and_false, p_sw, Int.reduceAdd, Int.zero_add, Option.some.injEq, Value.int.injEq, Value.long.injEq, Value.ref.injEq, exists_eq_left',  mk_I, mk_L, mk_wI, mk_wL, rf_s, rf_n, true_and, and_true, and_self, or_true, true_or, or_false, false_or, not_true_eq_false, not_false_eq_true, Option.toList_some, Option.toList_none, List.cons_append, List.nil_append, List.map_nil, List.map_cons, List.sum_nil, List.sum_cons, cat_i, cat_l, cat_r, cat_n, Nat.reduceLeDiff, Nat.reduceAdd, Nat.reduceEqDiff, Nat.zero_le, p_ent, Int32.reduceToNatClampNeg, Int32.reduceLT, Int32.reduceLE, vin_l, p_u_ne, p_u_at, reduceIte, if_true, if_false, Int32.reduceToInt, Int.zero_le_ofNat, Int.cast_ofNat_Int, Int.reduceLT, Int.reduceLE, not_false_eq_true, Int.reduceEq, lI_add]
    exact lp_32 (by omega) (by omega)
  · show P_m d 32 [.int 6, .long (lI a), .long (lI b)] h (fun v h' => v = some (.int (oI (bd (a - b)))) ∧ h' = h)
    simp -implicitDefEqProofs only [P_m, ↓P_run_eq _ 32 _ (p_bk 32 0), bk_32_0, pb_32_0, ↓P_run_eq _ 32 _ (p_bk 32 2), bk_32_2, pb_32_2, pw_lconst, ll_0, pw_lstore, ps_5, pe_5, po_i5, po_r5, po_n5, po_u5, ps_6, pe_6, po_i6, po_r6, po_n6, po_u6, pw_iload_n0, pw_sw, pw_lload_n1, pw_lload_n3, pw_lsub, pw_goto, Classical.not_not, implies_true, mk_s, mk_1, pf_at, pf_ne, b2i_T, b2i_F, false_imp_iff, true_imp_iff, ne_10, ne_01, ne_m10, ne_0m1, ne_m11, ne_1m1, false_and, and_false, p_sw, Int.reduceAdd, Int.zero_add, Option.some.injEq, Value.int.injEq, Value.long.injEq, Value.ref.injEq, exists_eq_left',  mk_I, mk_L, mk_wI, mk_wL, rf_s, rf_n, true_and, and_true, and_self, or_true, true_or, or_false, false_or, not_true_eq_false, not_false_eq_true, Option.toList_some, Option.toList_none, List.cons_append, List.nil_append, List.map_nil, List.map_cons, List.sum_nil, List.sum_cons, cat_i, cat_l, cat_r, cat_n, Nat.reduceLeDiff, Nat.reduceAdd, Nat.reduceEqDiff, Nat.zero_le, p_ent, Int32.reduceToNatClampNeg, Int32.reduceLT, Int32.reduceLE, vin_l, p_u_ne, p_u_at, reduceIte, if_true, if_false, Int32.reduceToInt, Int.zero_le_ofNat, Int.cast_ofNat_Int, Int.reduceLT, Int.reduceLE, not_false_eq_true, Int.reduceEq, lI_sub]
    exact lp_32 (by omega) (by omega)
  · show P_m d 32 [.int 7, .long (lI a), .long (lI b)] h (fun v h' => v = some (.int (oI (bd (a * b)))) ∧ h' = h)
    simp -implicitDefEqProofs only [P_m, ↓P_run_eq _ 32 _ (p_bk 32 0), bk_32_0, pb_32_0, ↓P_run_eq _ 32 _ (p_bk 32 3), bk_32_3, pb_32_3, pw_lconst, ll_0, pw_lstore, ps_5, pe_5, po_i5, po_r5, po_n5, po_u5, ps_6, pe_6, po_i6, po_r6, po_n6, po_u6, pw_iload_n0, pw_sw, pw_lload_n1, pw_lload_n3, pw_lmul, pw_goto, Classical.not_not, implies_true, mk_s, mk_1, pf_at, pf_ne, b2i_T, b2i_F, false_imp_iff, true_imp_iff, ne_10, ne_01, ne_m10, ne_0m1, ne_m11, ne_1m1, false_and, and_false, p_sw, Int.reduceAdd, Int.zero_add, Option.some.injEq, Value.int.injEq, Value.long.injEq, Value.ref.injEq, exists_eq_left',  mk_I, mk_L, mk_wI, mk_wL, rf_s, rf_n, true_and, and_true, and_self, or_true, true_or, or_false, false_or, not_true_eq_false, not_false_eq_true, Option.toList_some, Option.toList_none, List.cons_append, List.nil_append, List.map_nil, List.map_cons, List.sum_nil, List.sum_cons, cat_i, cat_l, cat_r, cat_n, Nat.reduceLeDiff, Nat.reduceAdd, Nat.reduceEqDiff, Nat.zero_le, p_ent, Int32.reduceToNatClampNeg, Int32.reduceLT, Int32.reduceLE, vin_l, p_u_ne, p_u_at, reduceIte, if_true, if_false, Int32.reduceToInt, Int.zero_le_ofNat, Int.cast_ofNat_Int, Int.reduceLT, Int.reduceLE, not_false_eq_true, Int.reduceEq, lI_mul]
    exact lp_32 (by omega) (by omega)
  · show P_m d 32 [.int 8, .long (lI a), .long (lI b)] h (fun v h' => v = some (.int (oI (if b = 0 then none else bd (a.tdiv b)))) ∧ h' = h)
    by_cases e : b = 0
    · subst e
      simp -implicitDefEqProofs only [P_m, ↓P_run_eq _ 32 _ (p_bk 32 0), bk_32_0, pb_32_0, ↓P_run_eq _ 32 _ (p_bk 32 13), bk_32_13, pb_32_13, pw_lconst, ll_0, pw_lstore, ps_5, pe_5, po_i5, po_r5, po_n5, po_u5, ps_6, pe_6, po_i6, po_r6, po_n6, po_u6, pw_iload_n0, pw_sw, pw_lload_n3, pw_lcmp, pw_zne, pw_ldc, cn_2, pw_ret0, Classical.not_not, implies_true, mk_s, mk_1, pf_at, pf_ne, b2i_T, b2i_F, false_imp_iff, true_imp_iff, ne_10, ne_01, ne_m10, ne_0m1, ne_m11, ne_1m1, false_and, and_false, p_sw, Int.reduceAdd, Int.zero_add, Option.some.injEq, Value.int.injEq, Value.long.injEq, Value.ref.injEq, exists_eq_left',  mk_I, mk_L, mk_wI, mk_wL, rf_s, rf_n, true_and, and_true, and_self, or_true, true_or, or_false, false_or, not_true_eq_false, not_false_eq_true, Option.toList_some, Option.toList_none, List.cons_append, List.nil_append, List.map_nil, List.map_cons, List.sum_nil, List.sum_cons, cat_i, cat_l, cat_r, cat_n, Nat.reduceLeDiff, Nat.reduceAdd, Nat.reduceEqDiff, Nat.zero_le, p_ent, Int32.reduceToNatClampNeg, Int32.reduceLT, Int32.reduceLE, vin_l, p_u_ne, p_u_at, reduceIte, if_true, if_false, Int32.reduceToInt, Int.zero_le_ofNat, Int.cast_ofNat_Int, Int.reduceLT, Int.reduceLE, not_false_eq_true, Int.reduceEq, l_0, lg_cmp_eq]
      rfl
    · rw [if_neg e]
      simp -implicitDefEqProofs only [P_m, ↓P_run_eq _ 32 _ (p_bk 32 0), bk_32_0, pb_32_0, ↓P_run_eq _ 32 _ (p_bk 32 13), bk_32_13, pb_32_13, ↓P_run_eq _ 32 _ (p_bk 32 14), bk_32_14, pb_32_14, ↓P_run_eq _ 32 _ (p_bk 32 16), bk_32_16, pb_32_16, pw_lconst, ll_0, pw_lstore, ps_5, pe_5, po_i5, po_r5, po_n5, po_u5, ps_6, pe_6, po_i6, po_r6, po_n6, po_u6, pw_iload_n0, pw_sw, pw_lload_n3, pw_lcmp, pw_zne, pw_ldc, cn_2, pw_ret0, pw_bipush, bl_8, pw_cne, pw_lload_n1, pw_ldiv, pw_goto, pw_nop, Classical.not_not, implies_true, mk_s, mk_1, pf_at, pf_ne, b2i_T, b2i_F, false_imp_iff, true_imp_iff, ne_10, ne_01, ne_m10, ne_0m1, ne_m11, ne_1m1, false_and, and_false, p_sw, Int.reduceAdd, Int.zero_add, Option.some.injEq, Value.int.injEq, Value.long.injEq, Value.ref.injEq, exists_eq_left',  mk_I, mk_L, mk_wI, mk_wL, rf_s, rf_n, true_and, and_true, and_self, or_true, true_or, or_false, false_or, not_true_eq_false, not_false_eq_true, Option.toList_some, Option.toList_none, List.cons_append, List.nil_append, List.map_nil, List.map_cons, List.sum_nil, List.sum_cons, cat_i, cat_l, cat_r, cat_n, Nat.reduceLeDiff, Nat.reduceAdd, Nat.reduceEqDiff, Nat.zero_le, p_ent, Int32.reduceToNatClampNeg, Int32.reduceLT, Int32.reduceLE, vin_l, p_u_ne, p_u_at, reduceIte, if_true, if_false, Int32.reduceToInt, Int.zero_le_ofNat, Int.cast_ofNat_Int, Int.reduceLT, Int.reduceLE, not_false_eq_true, Int.reduceEq, l_0, lg_cmp_eq, c1, e, dv]
      exact lp_32 (by omega) (by omega)
  · show P_m d 32 [.int 9, .long (lI a), .long (lI b)] h (fun v h' => v = some (.int (oI (if b = 0 then none else bd (a.tmod b)))) ∧ h' = h)
    by_cases e : b = 0
    · subst e
      simp -implicitDefEqProofs only [P_m, ↓P_run_eq _ 32 _ (p_bk 32 0), bk_32_0, pb_32_0, ↓P_run_eq _ 32 _ (p_bk 32 13), bk_32_13, pb_32_13, pw_lconst, ll_0, pw_lstore, ps_5, pe_5, po_i5, po_r5, po_n5, po_u5, ps_6, pe_6, po_i6, po_r6, po_n6, po_u6, pw_iload_n0, pw_sw, pw_lload_n3, pw_lcmp, pw_zne, pw_ldc, cn_2, pw_ret0, Classical.not_not, implies_true, mk_s, mk_1, pf_at, pf_ne, b2i_T, b2i_F, false_imp_iff, true_imp_iff, ne_10, ne_01, ne_m10, ne_0m1, ne_m11, ne_1m1, false_and, and_false, p_sw, Int.reduceAdd, Int.zero_add, Option.some.injEq, Value.int.injEq, Value.long.injEq, Value.ref.injEq, exists_eq_left',  mk_I, mk_L, mk_wI, mk_wL, rf_s, rf_n, true_and, and_true, and_self, or_true, true_or, or_false, false_or, not_true_eq_false, not_false_eq_true, Option.toList_some, Option.toList_none, List.cons_append, List.nil_append, List.map_nil, List.map_cons, List.sum_nil, List.sum_cons, cat_i, cat_l, cat_r, cat_n, Nat.reduceLeDiff, Nat.reduceAdd, Nat.reduceEqDiff, Nat.zero_le, p_ent, Int32.reduceToNatClampNeg, Int32.reduceLT, Int32.reduceLE, vin_l, p_u_ne, p_u_at, reduceIte, if_true, if_false, Int32.reduceToInt, Int.zero_le_ofNat, Int.cast_ofNat_Int, Int.reduceLT, Int.reduceLE, not_false_eq_true, Int.reduceEq, l_0, lg_cmp_eq]
      rfl
    · rw [if_neg e]
      simp -implicitDefEqProofs only [P_m, ↓P_run_eq _ 32 _ (p_bk 32 0), bk_32_0, pb_32_0, ↓P_run_eq _ 32 _ (p_bk 32 13), bk_32_13, pb_32_13, ↓P_run_eq _ 32 _ (p_bk 32 14), bk_32_14, pb_32_14, ↓P_run_eq _ 32 _ (p_bk 32 15), bk_32_15, pb_32_15, ↓P_run_eq _ 32 _ (p_bk 32 16), bk_32_16, pb_32_16, pw_lconst, ll_0, pw_lstore, ps_5, pe_5, po_i5, po_r5, po_n5, po_u5, ps_6, pe_6, po_i6, po_r6, po_n6, po_u6, pw_iload_n0, pw_sw, pw_lload_n3, pw_lcmp, pw_zne, pw_ldc, cn_2, pw_ret0, pw_bipush, bl_8, pw_cne, pw_lload_n1, pw_ldiv, pw_goto, pw_lrem, pw_nop, Classical.not_not, implies_true, mk_s, mk_1, pf_at, pf_ne, b2i_T, b2i_F, false_imp_iff, true_imp_iff, ne_10, ne_01, ne_m10, ne_0m1, ne_m11, ne_1m1, false_and, and_false, p_sw, Int.reduceAdd, Int.zero_add, Option.some.injEq, Value.int.injEq, Value.long.injEq, Value.ref.injEq, exists_eq_left',  mk_I, mk_L, mk_wI, mk_wL, rf_s, rf_n, true_and, and_true, and_self, or_true, true_or, or_false, false_or, not_true_eq_false, not_false_eq_true, Option.toList_some, Option.toList_none, List.cons_append, List.nil_append, List.map_nil, List.map_cons, List.sum_nil, List.sum_cons, cat_i, cat_l, cat_r, cat_n, Nat.reduceLeDiff, Nat.reduceAdd, Nat.reduceEqDiff, Nat.zero_le, p_ent, Int32.reduceToNatClampNeg, Int32.reduceLT, Int32.reduceLE, vin_l, p_u_ne, p_u_at, reduceIte, if_true, if_false, Int32.reduceToInt, Int.zero_le_ofNat, Int.cast_ofNat_Int, Int.reduceLT, Int.reduceLE, not_false_eq_true, Int.reduceEq, l_0, lg_cmp_eq, c1, e, rm, ne_98]
      exact lp_32 (by omega) (by omega)
  · show P_m d 32 [.int 10, .long (lI a), .long (lI b)] h (fun v h' => v = some (.int (oI (some (if decide (a < b) = true then 1 else 0)))) ∧ h' = h)
    by_cases e : b ≤ a
    · rw [if_neg (by simp only [decide_eq_true_eq]; omega), b0']
      simp -implicitDefEqProofs only [P_m, ↓P_run_eq _ 32 _ (p_bk 32 0), bk_32_0, pb_32_0, ↓P_run_eq _ 32 _ (p_bk 32 4), bk_32_4, pb_32_4, ↓P_run_eq _ 32 _ (p_bk 32 5), bk_32_5, pb_32_5, ↓P_run_eq _ 32 _ (p_bk 32 6), bk_32_6, pb_32_6, pw_lconst, ll_0, pw_lstore, ps_5, pe_5, po_i5, po_r5, po_n5, po_u5, ps_6, pe_6, po_i6, po_r6, po_n6, po_u6, pw_iload_n0, pw_sw, pw_lload_n1, pw_lload_n3, pw_lcmp, pw_zge, ll_1, pw_goto, pw_nop, Classical.not_not, implies_true, mk_s, mk_1, pf_at, pf_ne, b2i_T, b2i_F, false_imp_iff, true_imp_iff, ne_10, ne_01, ne_m10, ne_0m1, ne_m11, ne_1m1, false_and, and_false, p_sw, Int.reduceAdd, Int.zero_add, Option.some.injEq, Value.int.injEq, Value.long.injEq, Value.ref.injEq, exists_eq_left',  mk_I, mk_L, mk_wI, mk_wL, rf_s, rf_n, true_and, and_true, and_self, or_true, true_or, or_false, false_or, not_true_eq_false, not_false_eq_true, Option.toList_some, Option.toList_none, List.cons_append, List.nil_append, List.map_nil, List.map_cons, List.sum_nil, List.sum_cons, cat_i, cat_l, cat_r, cat_n, Nat.reduceLeDiff, Nat.reduceAdd, Nat.reduceEqDiff, Nat.zero_le, p_ent, Int32.reduceToNatClampNeg, Int32.reduceLT, Int32.reduceLE, vin_l, p_u_ne, p_u_at, reduceIte, if_true, if_false, Int32.reduceToInt, Int.zero_le_ofNat, Int.cast_ofNat_Int, Int.reduceLT, Int.reduceLE, not_false_eq_true, Int.reduceEq, lg_cmp_ge, c2, e, l_0]
      exact lp_32 (by omega) (by omega)
    · rw [if_pos (by simp only [decide_eq_true_eq]; omega), b1']
      simp -implicitDefEqProofs only [P_m, ↓P_run_eq _ 32 _ (p_bk 32 0), bk_32_0, pb_32_0, ↓P_run_eq _ 32 _ (p_bk 32 4), bk_32_4, pb_32_4, ↓P_run_eq _ 32 _ (p_bk 32 6), bk_32_6, pb_32_6, pw_lconst, ll_0, pw_lstore, ps_5, pe_5, po_i5, po_r5, po_n5, po_u5, ps_6, pe_6, po_i6, po_r6, po_n6, po_u6, pw_iload_n0, pw_sw, pw_lload_n1, pw_lload_n3, pw_lcmp, pw_zge, ll_1, pw_goto, Classical.not_not, implies_true, mk_s, mk_1, pf_at, pf_ne, b2i_T, b2i_F, false_imp_iff, true_imp_iff, ne_10, ne_01, ne_m10, ne_0m1, ne_m11, ne_1m1, false_and, and_false, p_sw, Int.reduceAdd, Int.zero_add, Option.some.injEq, Value.int.injEq, Value.long.injEq, Value.ref.injEq, exists_eq_left',  mk_I, mk_L, mk_wI, mk_wL, rf_s, rf_n, true_and, and_true, and_self, or_true, true_or, or_false, false_or, not_true_eq_false, not_false_eq_true, Option.toList_some, Option.toList_none, List.cons_append, List.nil_append, List.map_nil, List.map_cons, List.sum_nil, List.sum_cons, cat_i, cat_l, cat_r, cat_n, Nat.reduceLeDiff, Nat.reduceAdd, Nat.reduceEqDiff, Nat.zero_le, p_ent, Int32.reduceToNatClampNeg, Int32.reduceLT, Int32.reduceLE, vin_l, p_u_ne, p_u_at, reduceIte, if_true, if_false, Int32.reduceToInt, Int.zero_le_ofNat, Int.cast_ofNat_Int, Int.reduceLT, Int.reduceLE, not_false_eq_true, Int.reduceEq, lg_cmp_ge, c2, e, l_1]
      exact lp_32 (by omega) (by omega)
  · show P_m d 32 [.int 11, .long (lI a), .long (lI b)] h (fun v h' => v = some (.int (oI (some (if decide (b < a) = true then 1 else 0)))) ∧ h' = h)
    by_cases e : a ≤ b
    · rw [if_neg (by simp only [decide_eq_true_eq]; omega), b0']
      simp -implicitDefEqProofs only [P_m, ↓P_run_eq _ 32 _ (p_bk 32 0), bk_32_0, pb_32_0, ↓P_run_eq _ 32 _ (p_bk 32 7), bk_32_7, pb_32_7, ↓P_run_eq _ 32 _ (p_bk 32 8), bk_32_8, pb_32_8, ↓P_run_eq _ 32 _ (p_bk 32 9), bk_32_9, pb_32_9, pw_lconst, ll_0, pw_lstore, ps_5, pe_5, po_i5, po_r5, po_n5, po_u5, ps_6, pe_6, po_i6, po_r6, po_n6, po_u6, pw_iload_n0, pw_sw, pw_lload_n1, pw_lload_n3, pw_lcmp, pw_zle, ll_1, pw_goto, pw_nop, Classical.not_not, implies_true, mk_s, mk_1, pf_at, pf_ne, b2i_T, b2i_F, false_imp_iff, true_imp_iff, ne_10, ne_01, ne_m10, ne_0m1, ne_m11, ne_1m1, false_and, and_false, p_sw, Int.reduceAdd, Int.zero_add, Option.some.injEq, Value.int.injEq, Value.long.injEq, Value.ref.injEq, exists_eq_left',  mk_I, mk_L, mk_wI, mk_wL, rf_s, rf_n, true_and, and_true, and_self, or_true, true_or, or_false, false_or, not_true_eq_false, not_false_eq_true, Option.toList_some, Option.toList_none, List.cons_append, List.nil_append, List.map_nil, List.map_cons, List.sum_nil, List.sum_cons, cat_i, cat_l, cat_r, cat_n, Nat.reduceLeDiff, Nat.reduceAdd, Nat.reduceEqDiff, Nat.zero_le, p_ent, Int32.reduceToNatClampNeg, Int32.reduceLT, Int32.reduceLE, vin_l, p_u_ne, p_u_at, reduceIte, if_true, if_false, Int32.reduceToInt, Int.zero_le_ofNat, Int.cast_ofNat_Int, Int.reduceLT, Int.reduceLE, not_false_eq_true, Int.reduceEq, lg_cmp_le, c3, e, l_0]
      exact lp_32 (by omega) (by omega)
    · rw [if_pos (by simp only [decide_eq_true_eq]; omega), b1']
      simp -implicitDefEqProofs only [P_m, ↓P_run_eq _ 32 _ (p_bk 32 0), bk_32_0, pb_32_0, ↓P_run_eq _ 32 _ (p_bk 32 7), bk_32_7, pb_32_7, ↓P_run_eq _ 32 _ (p_bk 32 9), bk_32_9, pb_32_9, pw_lconst, ll_0, pw_lstore, ps_5, pe_5, po_i5, po_r5, po_n5, po_u5, ps_6, pe_6, po_i6, po_r6, po_n6, po_u6, pw_iload_n0, pw_sw, pw_lload_n1, pw_lload_n3, pw_lcmp, pw_zle, ll_1, pw_goto, Classical.not_not, implies_true, mk_s, mk_1, pf_at, pf_ne, b2i_T, b2i_F, false_imp_iff, true_imp_iff, ne_10, ne_01, ne_m10, ne_0m1, ne_m11, ne_1m1, false_and, and_false, p_sw, Int.reduceAdd, Int.zero_add, Option.some.injEq, Value.int.injEq, Value.long.injEq, Value.ref.injEq, exists_eq_left',  mk_I, mk_L, mk_wI, mk_wL, rf_s, rf_n, true_and, and_true, and_self, or_true, true_or, or_false, false_or, not_true_eq_false, not_false_eq_true, Option.toList_some, Option.toList_none, List.cons_append, List.nil_append, List.map_nil, List.map_cons, List.sum_nil, List.sum_cons, cat_i, cat_l, cat_r, cat_n, Nat.reduceLeDiff, Nat.reduceAdd, Nat.reduceEqDiff, Nat.zero_le, p_ent, Int32.reduceToNatClampNeg, Int32.reduceLT, Int32.reduceLE, vin_l, p_u_ne, p_u_at, reduceIte, if_true, if_false, Int32.reduceToInt, Int.zero_le_ofNat, Int.cast_ofNat_Int, Int.reduceLT, Int.reduceLE, not_false_eq_true, Int.reduceEq, lg_cmp_le, c3, e, l_1]
      exact lp_32 (by omega) (by omega)
  · show P_m d 32 [.int 12, .long (lI a), .long (lI b)] h (fun v h' => v = some (.int (oI (some (if decide (a = b) = true then 1 else 0)))) ∧ h' = h)
    by_cases e : a = b
    · rw [if_pos (by simp only [decide_eq_true_eq]; omega), b1']
      simp -implicitDefEqProofs only [P_m, ↓P_run_eq _ 32 _ (p_bk 32 0), bk_32_0, pb_32_0, ↓P_run_eq _ 32 _ (p_bk 32 10), bk_32_10, pb_32_10, ↓P_run_eq _ 32 _ (p_bk 32 12), bk_32_12, pb_32_12, pw_lconst, ll_0, pw_lstore, ps_5, pe_5, po_i5, po_r5, po_n5, po_u5, ps_6, pe_6, po_i6, po_r6, po_n6, po_u6, pw_iload_n0, pw_sw, pw_lload_n1, pw_lload_n3, pw_lcmp, pw_zne, ll_1, pw_goto, Classical.not_not, implies_true, mk_s, mk_1, pf_at, pf_ne, b2i_T, b2i_F, false_imp_iff, true_imp_iff, ne_10, ne_01, ne_m10, ne_0m1, ne_m11, ne_1m1, false_and, and_false, p_sw, Int.reduceAdd, Int.zero_add, Option.some.injEq, Value.int.injEq, Value.long.injEq, Value.ref.injEq, exists_eq_left',  mk_I, mk_L, mk_wI, mk_wL, rf_s, rf_n, true_and, and_true, and_self, or_true, true_or, or_false, false_or, not_true_eq_false, not_false_eq_true, Option.toList_some, Option.toList_none, List.cons_append, List.nil_append, List.map_nil, List.map_cons, List.sum_nil, List.sum_cons, cat_i, cat_l, cat_r, cat_n, Nat.reduceLeDiff, Nat.reduceAdd, Nat.reduceEqDiff, Nat.zero_le, p_ent, Int32.reduceToNatClampNeg, Int32.reduceLT, Int32.reduceLE, vin_l, p_u_ne, p_u_at, reduceIte, if_true, if_false, Int32.reduceToInt, Int.zero_le_ofNat, Int.cast_ofNat_Int, Int.reduceLT, Int.reduceLE, not_false_eq_true, Int.reduceEq, lg_cmp_eq, c4, e, l_1]
      exact lp_32 (by omega) (by omega)
    · rw [if_neg (by simp only [decide_eq_true_eq]; omega), b0']
      simp -implicitDefEqProofs only [P_m, ↓P_run_eq _ 32 _ (p_bk 32 0), bk_32_0, pb_32_0, ↓P_run_eq _ 32 _ (p_bk 32 10), bk_32_10, pb_32_10, ↓P_run_eq _ 32 _ (p_bk 32 11), bk_32_11, pb_32_11, ↓P_run_eq _ 32 _ (p_bk 32 12), bk_32_12, pb_32_12, pw_lconst, ll_0, pw_lstore, ps_5, pe_5, po_i5, po_r5, po_n5, po_u5, ps_6, pe_6, po_i6, po_r6, po_n6, po_u6, pw_iload_n0, pw_sw, pw_lload_n1, pw_lload_n3, pw_lcmp, pw_zne, ll_1, pw_goto, pw_nop, Classical.not_not, implies_true, mk_s, mk_1, pf_at, pf_ne, b2i_T, b2i_F, false_imp_iff, true_imp_iff, ne_10, ne_01, ne_m10, ne_0m1, ne_m11, ne_1m1, false_and, and_false, p_sw, Int.reduceAdd, Int.zero_add, Option.some.injEq, Value.int.injEq, Value.long.injEq, Value.ref.injEq, exists_eq_left',  mk_I, mk_L, mk_wI, mk_wL, rf_s, rf_n, true_and, and_true, and_self, or_true, true_or, or_false, false_or, not_true_eq_false, not_false_eq_true, Option.toList_some, Option.toList_none, List.cons_append, List.nil_append, List.map_nil, List.map_cons, List.sum_nil, List.sum_cons, cat_i, cat_l, cat_r, cat_n, Nat.reduceLeDiff, Nat.reduceAdd, Nat.reduceEqDiff, Nat.zero_le, p_ent, Int32.reduceToNatClampNeg, Int32.reduceLT, Int32.reduceLE, vin_l, p_u_ne, p_u_at, reduceIte, if_true, if_false, Int32.reduceToInt, Int.zero_le_ofNat, Int.cast_ofNat_Int, Int.reduceLT, Int.reduceLE, not_false_eq_true, Int.reduceEq, lg_cmp_eq, c4, e, l_0]
      exact lp_32 (by omega) (by omega)
end JO
