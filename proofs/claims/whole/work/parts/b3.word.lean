/-! THE REFERENCE'S TOKENS -/
def sB (b : Nat) : Int32 := (nI b).toInt8.toInt32
theorem sB_sm : ∀ b, b < 256 → (isSm b = true → ¬ sB b < nI 97 ∧ ¬ nI 122 < sB b ∧ sB b = nI b) ∧ (isSm b = false → sB b < nI 97 ∨ nI 122 < sB b) := by decide +kernel
theorem sB_dg : ∀ b, b < 256 → (isDg b = true → ¬ sB b < nI 48 ∧ ¬ nI 57 < sB b ∧ sB b = nI b) ∧ (isDg b = false → sB b < nI 48 ∨ nI 57 < sB b) := by decide +kernel
theorem sB_bl : ∀ b, b < 256 → (sB b = nI 32 ↔ b = 32) ∧ (nI 100 + (sB b &&& nI 255)) = nI (100 + b) := by decide +kernel
theorem sB_eq : ∀ c, c < 123 → 97 ≤ c → ∀ b, b < 256 → (nI c = sB b ↔ c = b) := by decide +kernel
def wOf (i : Nat) : Nat := ((wds.take i).map (fun w => w.length + 1)).sum
def wAt (i : Nat) : List Nat := wds.getD i []
theorem w_b : ∀ i, i < 23 → (∀ n, n < (wAt i).length → p_wds.getD (wOf i + n) 0 = nI ((wAt i).getD n 0) ∧ 97 ≤ (wAt i).getD n 0 ∧ (wAt i).getD n 0 < 123) ∧ p_wds.getD (wOf i + (wAt i).length) 0 = nI 32 ∧ wOf (i + 1) = wOf i + ((wAt i).length + 1) ∧ wOf i + (wAt i).length < 115 ∧ 0 < (wAt i).length ∧ (wAt i).length ≤ 8 := by decide +kernel
theorem w_23 : wOf 23 = 115 ∧ wOf 0 = 0 := by decide +kernel
section WB
variable {d Ls : Nat} {I : Nat → Nat → Int32} {L : Nat → Nat → Int64} {R : Nat → Nat → Option Nat} {X : List pKd} {h : pHp} {B : Nat → Nat} {T : Nat}
theorem pl_158 {b : Nat} (hb : b < 256) : P_m d 158 [.int (sB b)] h (fun v h' => v = some (.int (nI (bN (isSm b)))) ∧ h' = h) := by
  obtain ⟨h1, h2⟩ := sB_sm b hb
  cases e : isSm b with
  | true =>
    obtain ⟨a1, a2, -⟩ := h1 e
    rw [bN_t]
    generalize sB b = x at *
    simp -implicitDefEqProofs (disch := first | omega | decide) only [P_m, ↓P_run_eq _ 158 _ (p_bk 158 0), bk_158_0, pb_158_0, ↓P_run_eq _ 158 _ (p_bk 158 2), bk_158_2, pb_158_2, pw_iload_n0, pw_bipush, bl_97, pw_clt, bl_122, pw_cgt, pw_iconst, il_1, pw_goto, pw_ret1, n_0, n_1, n_97, n_122, nn_lt, nn_nlt, nn_le, nn_nle, nn_ne, nn_sub, nn_mul, nI_add, nn_neg, nm_eq, mn_eq, mm_eq, mn_lt, nm_lt, mn_le, nm_le, nn_sub0, nn_of, implies_true, nn_c, nn_in, nn_div, nat_rem, Nat.reduceMul, Nat.reduceSub, Nat.reduceDiv, Nat.reduceMod, pf_at, pf_ne, mk_s, mk_1, Classical.not_not, b2i_T, b2i_F, false_imp_iff, true_imp_iff, false_and, and_false, p_sw, Int.reduceAdd, Int.zero_add, Option.some.injEq, Value.int.injEq, Value.long.injEq, Value.ref.injEq, exists_eq_left', mk_I, mk_L, mk_wI, mk_wL, rf_s, rf_n, true_and, and_true, and_self, or_true, true_or, or_false, false_or, not_true_eq_false, not_false_eq_true, Option.toList_some, Option.toList_none, List.cons_append, List.nil_append, List.map_nil, List.map_cons, List.sum_nil, List.sum_cons, cat_i, cat_l, cat_r, cat_n, Nat.reduceLeDiff, Nat.reduceAdd, Nat.reduceEqDiff, Nat.zero_le, p_ent, p_u_ne, p_u_at, reduceIte, if_true, if_false, a1, a2]
  | false =>
    rw [bN_f]
    generalize sB b = x at *
    rcases h2 e with a1 | a1
    · simp -implicitDefEqProofs (disch := first | omega | decide) only [P_m, ↓P_run_eq _ 158 _ (p_bk 158 0), bk_158_0, pb_158_0, ↓P_run_eq _ 158 _ (p_bk 158 1), bk_158_1, pb_158_1, ↓P_run_eq _ 158 _ (p_bk 158 2), bk_158_2, pb_158_2, pw_iload_n0, pw_bipush, bl_97, pw_clt, bl_122, pw_cgt, pw_iconst, il_1, pw_goto, il_0, pw_nop, pw_ret1, n_0, n_1, n_97, n_122, nn_lt, nn_nlt, nn_le, nn_nle, nn_ne, nn_sub, nn_mul, nI_add, nn_neg, nm_eq, mn_eq, mm_eq, mn_lt, nm_lt, mn_le, nm_le, nn_sub0, nn_of, implies_true, nn_c, nn_in, nn_div, nat_rem, Nat.reduceMul, Nat.reduceSub, Nat.reduceDiv, Nat.reduceMod, pf_at, pf_ne, mk_s, mk_1, Classical.not_not, b2i_T, b2i_F, false_imp_iff, true_imp_iff, false_and, and_false, p_sw, Int.reduceAdd, Int.zero_add, Option.some.injEq, Value.int.injEq, Value.long.injEq, Value.ref.injEq, exists_eq_left', mk_I, mk_L, mk_wI, mk_wL, rf_s, rf_n, true_and, and_true, and_self, or_true, true_or, or_false, false_or, not_true_eq_false, not_false_eq_true, Option.toList_some, Option.toList_none, List.cons_append, List.nil_append, List.map_nil, List.map_cons, List.sum_nil, List.sum_cons, cat_i, cat_l, cat_r, cat_n, Nat.reduceLeDiff, Nat.reduceAdd, Nat.reduceEqDiff, Nat.zero_le, p_ent, p_u_ne, p_u_at, reduceIte, if_true, if_false, a1]
    · by_cases a0 : x < nI 97
      · simp -implicitDefEqProofs (disch := first | omega | decide) only [P_m, ↓P_run_eq _ 158 _ (p_bk 158 0), bk_158_0, pb_158_0, ↓P_run_eq _ 158 _ (p_bk 158 1), bk_158_1, pb_158_1, ↓P_run_eq _ 158 _ (p_bk 158 2), bk_158_2, pb_158_2, pw_iload_n0, pw_bipush, bl_97, pw_clt, bl_122, pw_cgt, pw_iconst, il_1, pw_goto, il_0, pw_nop, pw_ret1, n_0, n_1, n_97, n_122, nn_lt, nn_nlt, nn_le, nn_nle, nn_ne, nn_sub, nn_mul, nI_add, nn_neg, nm_eq, mn_eq, mm_eq, mn_lt, nm_lt, mn_le, nm_le, nn_sub0, nn_of, implies_true, nn_c, nn_in, nn_div, nat_rem, Nat.reduceMul, Nat.reduceSub, Nat.reduceDiv, Nat.reduceMod, pf_at, pf_ne, mk_s, mk_1, Classical.not_not, b2i_T, b2i_F, false_imp_iff, true_imp_iff, false_and, and_false, p_sw, Int.reduceAdd, Int.zero_add, Option.some.injEq, Value.int.injEq, Value.long.injEq, Value.ref.injEq, exists_eq_left', mk_I, mk_L, mk_wI, mk_wL, rf_s, rf_n, true_and, and_true, and_self, or_true, true_or, or_false, false_or, not_true_eq_false, not_false_eq_true, Option.toList_some, Option.toList_none, List.cons_append, List.nil_append, List.map_nil, List.map_cons, List.sum_nil, List.sum_cons, cat_i, cat_l, cat_r, cat_n, Nat.reduceLeDiff, Nat.reduceAdd, Nat.reduceEqDiff, Nat.zero_le, p_ent, p_u_ne, p_u_at, reduceIte, if_true, if_false, a0]
      · simp -implicitDefEqProofs (disch := first | omega | decide) only [P_m, ↓P_run_eq _ 158 _ (p_bk 158 0), bk_158_0, pb_158_0, ↓P_run_eq _ 158 _ (p_bk 158 1), bk_158_1, pb_158_1, ↓P_run_eq _ 158 _ (p_bk 158 2), bk_158_2, pb_158_2, pw_iload_n0, pw_bipush, bl_97, pw_clt, bl_122, pw_cgt, pw_iconst, il_1, pw_goto, il_0, pw_nop, pw_ret1, n_0, n_1, n_97, n_122, nn_lt, nn_nlt, nn_le, nn_nle, nn_ne, nn_sub, nn_mul, nI_add, nn_neg, nm_eq, mn_eq, mm_eq, mn_lt, nm_lt, mn_le, nm_le, nn_sub0, nn_of, implies_true, nn_c, nn_in, nn_div, nat_rem, Nat.reduceMul, Nat.reduceSub, Nat.reduceDiv, Nat.reduceMod, pf_at, pf_ne, mk_s, mk_1, Classical.not_not, b2i_T, b2i_F, false_imp_iff, true_imp_iff, false_and, and_false, p_sw, Int.reduceAdd, Int.zero_add, Option.some.injEq, Value.int.injEq, Value.long.injEq, Value.ref.injEq, exists_eq_left', mk_I, mk_L, mk_wI, mk_wL, rf_s, rf_n, true_and, and_true, and_self, or_true, true_or, or_false, false_or, not_true_eq_false, not_false_eq_true, Option.toList_some, Option.toList_none, List.cons_append, List.nil_append, List.map_nil, List.map_cons, List.sum_nil, List.sum_cons, cat_i, cat_l, cat_r, cat_n, Nat.reduceLeDiff, Nat.reduceAdd, Nat.reduceEqDiff, Nat.zero_le, p_ent, p_u_ne, p_u_at, reduceIte, if_true, if_false, a0, a1]
theorem pl_159 {b : Nat} (hb : b < 256) : P_m d 159 [.int (sB b)] h (fun v h' => v = some (.int (nI (bN (isDg b)))) ∧ h' = h) := by
  obtain ⟨h1, h2⟩ := sB_dg b hb
  cases e : isDg b with
  | true =>
    obtain ⟨a1, a2, -⟩ := h1 e
    rw [bN_t]
    generalize sB b = x at *
    simp -implicitDefEqProofs (disch := first | omega | decide) only [P_m, ↓P_run_eq _ 159 _ (p_bk 159 0), bk_159_0, pb_159_0, ↓P_run_eq _ 159 _ (p_bk 159 2), bk_159_2, pb_159_2, pw_iload_n0, pw_bipush, bl_48, pw_clt, bl_57, pw_cgt, pw_iconst, il_1, pw_goto, pw_ret1, n_0, n_1, n_48, n_57, nn_lt, nn_nlt, nn_le, nn_nle, nn_ne, nn_sub, nn_mul, nI_add, nn_neg, nm_eq, mn_eq, mm_eq, mn_lt, nm_lt, mn_le, nm_le, nn_sub0, nn_of, implies_true, nn_c, nn_in, nn_div, nat_rem, Nat.reduceMul, Nat.reduceSub, Nat.reduceDiv, Nat.reduceMod, pf_at, pf_ne, mk_s, mk_1, Classical.not_not, b2i_T, b2i_F, false_imp_iff, true_imp_iff, false_and, and_false, p_sw, Int.reduceAdd, Int.zero_add, Option.some.injEq, Value.int.injEq, Value.long.injEq, Value.ref.injEq, exists_eq_left', mk_I, mk_L, mk_wI, mk_wL, rf_s, rf_n, true_and, and_true, and_self, or_true, true_or, or_false, false_or, not_true_eq_false, not_false_eq_true, Option.toList_some, Option.toList_none, List.cons_append, List.nil_append, List.map_nil, List.map_cons, List.sum_nil, List.sum_cons, cat_i, cat_l, cat_r, cat_n, Nat.reduceLeDiff, Nat.reduceAdd, Nat.reduceEqDiff, Nat.zero_le, p_ent, p_u_ne, p_u_at, reduceIte, if_true, if_false, a1, a2]
  | false =>
    rw [bN_f]
    generalize sB b = x at *
    rcases h2 e with a1 | a1
    · simp -implicitDefEqProofs (disch := first | omega | decide) only [P_m, ↓P_run_eq _ 159 _ (p_bk 159 0), bk_159_0, pb_159_0, ↓P_run_eq _ 159 _ (p_bk 159 1), bk_159_1, pb_159_1, ↓P_run_eq _ 159 _ (p_bk 159 2), bk_159_2, pb_159_2, pw_iload_n0, pw_bipush, bl_48, pw_clt, bl_57, pw_cgt, pw_iconst, il_1, pw_goto, il_0, pw_nop, pw_ret1, n_0, n_1, n_48, n_57, nn_lt, nn_nlt, nn_le, nn_nle, nn_ne, nn_sub, nn_mul, nI_add, nn_neg, nm_eq, mn_eq, mm_eq, mn_lt, nm_lt, mn_le, nm_le, nn_sub0, nn_of, implies_true, nn_c, nn_in, nn_div, nat_rem, Nat.reduceMul, Nat.reduceSub, Nat.reduceDiv, Nat.reduceMod, pf_at, pf_ne, mk_s, mk_1, Classical.not_not, b2i_T, b2i_F, false_imp_iff, true_imp_iff, false_and, and_false, p_sw, Int.reduceAdd, Int.zero_add, Option.some.injEq, Value.int.injEq, Value.long.injEq, Value.ref.injEq, exists_eq_left', mk_I, mk_L, mk_wI, mk_wL, rf_s, rf_n, true_and, and_true, and_self, or_true, true_or, or_false, false_or, not_true_eq_false, not_false_eq_true, Option.toList_some, Option.toList_none, List.cons_append, List.nil_append, List.map_nil, List.map_cons, List.sum_nil, List.sum_cons, cat_i, cat_l, cat_r, cat_n, Nat.reduceLeDiff, Nat.reduceAdd, Nat.reduceEqDiff, Nat.zero_le, p_ent, p_u_ne, p_u_at, reduceIte, if_true, if_false, a1]
    · by_cases a0 : x < nI 48
      · simp -implicitDefEqProofs (disch := first | omega | decide) only [P_m, ↓P_run_eq _ 159 _ (p_bk 159 0), bk_159_0, pb_159_0, ↓P_run_eq _ 159 _ (p_bk 159 1), bk_159_1, pb_159_1, ↓P_run_eq _ 159 _ (p_bk 159 2), bk_159_2, pb_159_2, pw_iload_n0, pw_bipush, bl_48, pw_clt, bl_57, pw_cgt, pw_iconst, il_1, pw_goto, il_0, pw_nop, pw_ret1, n_0, n_1, n_48, n_57, nn_lt, nn_nlt, nn_le, nn_nle, nn_ne, nn_sub, nn_mul, nI_add, nn_neg, nm_eq, mn_eq, mm_eq, mn_lt, nm_lt, mn_le, nm_le, nn_sub0, nn_of, implies_true, nn_c, nn_in, nn_div, nat_rem, Nat.reduceMul, Nat.reduceSub, Nat.reduceDiv, Nat.reduceMod, pf_at, pf_ne, mk_s, mk_1, Classical.not_not, b2i_T, b2i_F, false_imp_iff, true_imp_iff, false_and, and_false, p_sw, Int.reduceAdd, Int.zero_add, Option.some.injEq, Value.int.injEq, Value.long.injEq, Value.ref.injEq, exists_eq_left', mk_I, mk_L, mk_wI, mk_wL, rf_s, rf_n, true_and, and_true, and_self, or_true, true_or, or_false, false_or, not_true_eq_false, not_false_eq_true, Option.toList_some, Option.toList_none, List.cons_append, List.nil_append, List.map_nil, List.map_cons, List.sum_nil, List.sum_cons, cat_i, cat_l, cat_r, cat_n, Nat.reduceLeDiff, Nat.reduceAdd, Nat.reduceEqDiff, Nat.zero_le, p_ent, p_u_ne, p_u_at, reduceIte, if_true, if_false, a0]
      · simp -implicitDefEqProofs (disch := first | omega | decide) only [P_m, ↓P_run_eq _ 159 _ (p_bk 159 0), bk_159_0, pb_159_0, ↓P_run_eq _ 159 _ (p_bk 159 1), bk_159_1, pb_159_1, ↓P_run_eq _ 159 _ (p_bk 159 2), bk_159_2, pb_159_2, pw_iload_n0, pw_bipush, bl_48, pw_clt, bl_57, pw_cgt, pw_iconst, il_1, pw_goto, il_0, pw_nop, pw_ret1, n_0, n_1, n_48, n_57, nn_lt, nn_nlt, nn_le, nn_nle, nn_ne, nn_sub, nn_mul, nI_add, nn_neg, nm_eq, mn_eq, mm_eq, mn_lt, nm_lt, mn_le, nm_le, nn_sub0, nn_of, implies_true, nn_c, nn_in, nn_div, nat_rem, Nat.reduceMul, Nat.reduceSub, Nat.reduceDiv, Nat.reduceMod, pf_at, pf_ne, mk_s, mk_1, Classical.not_not, b2i_T, b2i_F, false_imp_iff, true_imp_iff, false_and, and_false, p_sw, Int.reduceAdd, Int.zero_add, Option.some.injEq, Value.int.injEq, Value.long.injEq, Value.ref.injEq, exists_eq_left', mk_I, mk_L, mk_wI, mk_wL, rf_s, rf_n, true_and, and_true, and_self, or_true, true_or, or_false, false_or, not_true_eq_false, not_false_eq_true, Option.toList_some, Option.toList_none, List.cons_append, List.nil_append, List.map_nil, List.map_cons, List.sum_nil, List.sum_cons, cat_i, cat_l, cat_r, cat_n, Nat.reduceLeDiff, Nat.reduceAdd, Nat.reduceEqDiff, Nat.zero_le, p_ent, p_u_ne, p_u_at, reduceIte, if_true, if_false, a0, a1]
/-- the bytes as the reference keeps them -/
def mB (B : Nat → Nat) (T : Nat) (I : Nat → Nat → Int32) : Prop := T ≤ 400 ∧ (∀ k, k < T → I 130 k = sB (B k) ∧ B k < 256) ∧ I 129 = fun k => p_wds.getD k 0
theorem fnd_d : ∀ (l : List (List Nat)) (s : List Nat) (n i : Nat), (∀ j, j < i → ¬ l.getD j [] = s) → i < l.length → l.getD i [] = s → fnd s l n = some (n + i)
  | [], _, _, _, _, h, _ => absurd h (Nat.not_lt_zero _)
  | w :: r, s, n, i, h, hl, he => by
    unfold fnd
    cases i with
    | zero =>
      have he : w = s := he
      rw [if_pos he]; rfl
    | succ i =>
      have h0 : ¬ w = s := h 0 (by omega)
      rw [if_neg h0, fnd_d r s (n + 1) i (fun j hj => h (j + 1) (by omega)) (by simpa using hl) he]
      congr 1
      omega
theorem fnd_z (l : List (List Nat)) (s : List Nat) (n : Nat) (h : ∀ j, j < l.length → ¬ l.getD j [] = s) : fnd s l n = none := fnd_no l n (fun w hw e => by
  obtain ⟨j, hj, ej⟩ := List.mem_iff_getElem.mp hw
  refine h j hj ?_
  rw [List.getD_eq_getElem?_getD, List.getElem?_eq_getElem hj, ej]
  exact e)
theorem pl_160 {p q : Nat} (hM : mB B T I) (hp : p ≤ q) (hq : q ≤ T) : P_m d 160 [.ref 123, .int (nI p), .int (nI q)] (p_mk Ls I L R X) (fun v h' => v = some (.int (nI (wdC (slc B p q)))) ∧ h' = p_mk Ls I L R X) := by
  obtain ⟨hT, hB, hW⟩ := hM
  have sq : nI q - nI p = nI (q - p) := nn_sub hp
  have wl : wds.length = 23 := rfl
  have main : ∀ i, i ≤ 23 → (∀ j, j < i → ¬ wAt j = slc B p q) → P_run d 160 (p_bk 160 1) 0 0 [.ref 123, .int (nI p), .int (nI q), .int (nI (i + 1)), .int (nI (wOf i))] [] (p_mk Ls I L R X) (fun v h' => v = some (.int (nI (wdC (slc B p q)))) ∧ h' = p_mk Ls I L R X) := by
    refine down_ind ?_ ?_
    · intro hno
      have e : wdC (slc B p q) = 0 := by unfold wdC; rw [fnd_z wds _ 1 (fun j hj => hno j (by omega))]; rfl
      rw [e, w_23.1]
      rw [P_run_eq, bk_160_1, pb_160_1]; simp -implicitDefEqProofs (disch := first | omega | decide) only [P_m, ↓P_run_eq _ 160 _ (p_bk 160 11), bk_160_11, pb_160_11, pw_iload_4, pw_aload_n0, pw_aloadN_n0, pw_getR, pw_alen, pw_cge, pw_iconst, il_0, pw_istore, ps_5, pe_5, po_i5, po_r5, po_n5, po_u5, pw_nop, pw_ret0, kd_123, rf_123_1, rf_123_2, rf_123_3, rf_123_4, rf_123_5, rf_123_7, rf_123_11, rf_123_12, rf_123_15, rf_123_16, rf_123_17, rf_123_26, rf_123_29, rf_123_30, rf_123_32, rf_123_34, rf_123_35, rf_123_45, kd_129, n_0, n_1, nn_lt, nn_nlt, nn_le, nn_nle, nn_ne, nn_sub, nn_mul, nI_add, nn_neg, nm_eq, mn_eq, mm_eq, mn_lt, nm_lt, mn_le, nm_le, nn_sub0, nn_of, implies_true, nn_c, nn_in, nn_div, nat_rem, Nat.reduceMul, Nat.reduceSub, Nat.reduceDiv, Nat.reduceMod, pf_at, pf_ne, mk_s, mk_1, Classical.not_not, b2i_T, b2i_F, false_imp_iff, true_imp_iff, false_and, and_false, p_sw, Int.reduceAdd, Int.zero_add, Option.some.injEq, Value.int.injEq, Value.long.injEq, Value.ref.injEq, exists_eq_left', mk_I, mk_L, mk_wI, mk_wL, rf_s, rf_n, true_and, and_true, and_self, or_true, true_or, or_false, false_or, not_true_eq_false, not_false_eq_true, Option.toList_some, Option.toList_none, List.cons_append, List.nil_append, List.map_nil, List.map_cons, List.sum_nil, List.sum_cons, cat_i, cat_l, cat_r, cat_n, Nat.reduceLeDiff, Nat.reduceAdd, Nat.reduceEqDiff, Nat.zero_le, p_ent, p_u_ne, p_u_at, reduceIte, if_true, if_false]
    · intro i hi nx hno
      obtain ⟨b1, b2, b3, b4, b5, b6⟩ := w_b i hi
      have a1 : ∀ n, n < (wAt i).length → I 129 (wOf i + n) = nI ((wAt i).getD n 0) := fun n hn => by rw [hW]; exact (b1 n hn).1
      have a2 : I 129 (wOf i + (wAt i).length) = nI 32 := by rw [hW]; exact b2
      -- it is not this one
      have no : ¬ wAt i = slc B p q → ∀ v7 : Value, v7.category = 1 → P_run d 160 (p_bk 160 9) 0 0 [.ref 123, .int (nI p), .int (nI q), .int (nI (i + 1)), .int (nI (wOf i)), .int (nI (wAt i).length), .int (nI 0), v7] [] (p_mk Ls I L R X) (fun v h' => v = some (.int (nI (wdC (slc B p q)))) ∧ h' = p_mk Ls I L R X) := by
        intro hne v7 hv7
        have nx := nx (fun j hj => by
          by_cases e : j = i
          · rw [e]; exact hne
          · exact hno j (by omega))
        rw [b3] at nx
        clear b1 a1
        generalize wdC (slc B p q) = Z at *
        generalize (wAt i).length = wl at *
        generalize wOf i = wo at *
        rw [P_run_eq, bk_160_9, pb_160_9]; simp -implicitDefEqProofs (disch := first | omega | decide) only [P_m, ↓P_run_eq _ 160 _ (p_bk 160 10), bk_160_10, pb_160_10, pw_iload_6, pw_zeq, pw_iload_n3, pw_ret0, pw_iload_4, pw_iload_5, pw_iconst, il_1, pw_iadd, pw_istore, ps_4, pe_4, po_i4, po_r4, po_n4, po_u4, pw_iinc_3, po_i3, po_r3, po_n3, po_u3, pw_goto, kd_123, rf_123_1, rf_123_2, rf_123_3, rf_123_4, rf_123_5, rf_123_7, rf_123_11, rf_123_12, rf_123_15, rf_123_16, rf_123_17, rf_123_26, rf_123_29, rf_123_30, rf_123_32, rf_123_34, rf_123_35, rf_123_45, n_0, n_1, nn_lt, nn_nlt, nn_le, nn_nle, nn_ne, nn_sub, nn_mul, nI_add, nn_neg, nm_eq, mn_eq, mm_eq, mn_lt, nm_lt, mn_le, nm_le, nn_sub0, nn_of, implies_true, nn_c, nn_in, nn_div, nat_rem, Nat.reduceMul, Nat.reduceSub, Nat.reduceDiv, Nat.reduceMod, pf_at, pf_ne, mk_s, mk_1, Classical.not_not, b2i_T, b2i_F, false_imp_iff, true_imp_iff, false_and, and_false, p_sw, Int.reduceAdd, Int.zero_add, Option.some.injEq, Value.int.injEq, Value.long.injEq, Value.ref.injEq, exists_eq_left', mk_I, mk_L, mk_wI, mk_wL, rf_s, rf_n, true_and, and_true, and_self, or_true, true_or, or_false, false_or, not_true_eq_false, not_false_eq_true, Option.toList_some, Option.toList_none, List.cons_append, List.nil_append, List.map_nil, List.map_cons, List.sum_nil, List.sum_cons, cat_i, cat_l, cat_r, cat_n, Nat.reduceLeDiff, Nat.reduceAdd, Nat.reduceEqDiff, Nat.zero_le, p_ent, p_u_ne, p_u_at, reduceIte, if_true, if_false]
        refine P_ls nx (lsLe_ap _ [_, _, _] ?_)
        simp only [List.mem_cons, List.not_mem_nil, or_false]
        rintro _ (rfl | rfl | rfl)
        · rfl
        · rfl
        · exact hv7
      -- it may be this one
      have cmp : (wAt i).length = q - p → ∀ m, m ≤ (wAt i).length → (∀ j, j < m → (wAt i).getD j 0 = B (p + j)) → P_run d 160 (p_bk 160 6) 0 0 [.ref 123, .int (nI p), .int (nI q), .int (nI (i + 1)), .int (nI (wOf i)), .int (nI (wAt i).length), .int (nI 1), .int (nI m)] [] (p_mk Ls I L R X) (fun v h' => v = some (.int (nI (wdC (slc B p q)))) ∧ h' = p_mk Ls I L R X) := by
        intro hl
        refine down_ind ?_ ?_
        · intro hall
          have e : wAt i = slc B p q := lst_ext (by rw [slc_len]; exact hl) (fun j hj => by rw [slc_at (by omega)]; exact hall j hj)
          have e2 : wdC (slc B p q) = i + 1 := by unfold wdC; rw [fnd_d wds _ 1 i hno (by omega) e]; show 1 + i = i + 1; omega
          rw [e2]
          clear b1 a1 hall no nx
          generalize (wAt i).length = wl at *
          generalize wOf i = wo at *
          rw [P_run_eq, bk_160_6, pb_160_6]; simp -implicitDefEqProofs (disch := first | omega | decide) only [P_m, ↓P_run_eq _ 160 _ (p_bk 160 9), bk_160_9, pb_160_9, pw_iload_7, pw_iload_5, pw_cge, pw_iload_6, pw_zeq, pw_aload_n0, pw_aloadN_n0, pw_getR, pw_iload_4, pw_iadd, pw_bald, pw_iload_n1, pw_cne, pw_iconst, il_1, pw_goto, pw_iload_n3, pw_ret0, kd_123, rf_123_1, rf_123_2, rf_123_3, rf_123_4, rf_123_5, rf_123_7, rf_123_11, rf_123_12, rf_123_15, rf_123_16, rf_123_17, rf_123_26, rf_123_29, rf_123_30, rf_123_32, rf_123_34, rf_123_35, rf_123_45, n_0, n_1, nn_lt, nn_nlt, nn_le, nn_nle, nn_ne, nn_sub, nn_mul, nI_add, nn_neg, nm_eq, mn_eq, mm_eq, mn_lt, nm_lt, mn_le, nm_le, nn_sub0, nn_of, implies_true, nn_c, nn_in, nn_div, nat_rem, Nat.reduceMul, Nat.reduceSub, Nat.reduceDiv, Nat.reduceMod, pf_at, pf_ne, mk_s, mk_1, Classical.not_not, b2i_T, b2i_F, false_imp_iff, true_imp_iff, false_and, and_false, p_sw, Int.reduceAdd, Int.zero_add, Option.some.injEq, Value.int.injEq, Value.long.injEq, Value.ref.injEq, exists_eq_left', mk_I, mk_L, mk_wI, mk_wL, rf_s, rf_n, true_and, and_true, and_self, or_true, true_or, or_false, false_or, not_true_eq_false, not_false_eq_true, Option.toList_some, Option.toList_none, List.cons_append, List.nil_append, List.map_nil, List.map_cons, List.sum_nil, List.sum_cons, cat_i, cat_l, cat_r, cat_n, Nat.reduceLeDiff, Nat.reduceAdd, Nat.reduceEqDiff, Nat.zero_le, p_ent, p_u_ne, p_u_at, reduceIte, if_true, if_false]
        · intro m hm nx2 hall
          obtain ⟨c1, c2⟩ := hB (p + m) (by omega)
          obtain ⟨-, d1, d2⟩ := b1 m hm
          have am := a1 m hm
          have se := sB_eq _ d2 d1 _ c2
          by_cases ce : (wAt i).getD m 0 = B (p + m)
          · have nx2 := nx2 (fun j hj => by
              by_cases e : j = m
              · rw [e]; exact ce
              · exact hall j (by omega))
            have se := se.mpr ce
            rw [se] at am
            clear b1 a1 hall no nx
            generalize wdC (slc B p q) = Z at *
            generalize sB (B (p + m)) = sb at *
            generalize (wAt i).length = wl at *
            generalize wOf i = wo at *
            rw [P_run_eq, bk_160_6, pb_160_6]; simp -implicitDefEqProofs (disch := first | omega | decide) only [P_m, ↓P_run_eq _ 160 _ (p_bk 160 8), bk_160_8, pb_160_8, pw_iload_7, pw_iload_5, pw_cge, pw_iload_6, pw_zeq, pw_aload_n0, pw_aloadN_n0, pw_getR, pw_iload_4, pw_iadd, pw_bald, pw_iload_n1, pw_cne, pw_iconst, il_1, pw_goto, pw_istore, ps_6, pe_6, po_i6, po_r6, po_n6, po_u6, pw_iinc_7, po_i7, po_r7, po_n7, po_u7, kd_123, rf_123_1, rf_123_2, rf_123_3, rf_123_4, rf_123_5, rf_123_7, rf_123_11, rf_123_12, rf_123_15, rf_123_16, rf_123_17, rf_123_26, rf_123_29, rf_123_30, rf_123_32, rf_123_34, rf_123_35, rf_123_45, kd_129, kd_130, n_0, n_1, nn_lt, nn_nlt, nn_le, nn_nle, nn_ne, nn_sub, nn_mul, nI_add, nn_neg, nm_eq, mn_eq, mm_eq, mn_lt, nm_lt, mn_le, nm_le, nn_sub0, nn_of, implies_true, nn_c, nn_in, nn_div, nat_rem, Nat.reduceMul, Nat.reduceSub, Nat.reduceDiv, Nat.reduceMod, pf_at, pf_ne, mk_s, mk_1, Classical.not_not, b2i_T, b2i_F, false_imp_iff, true_imp_iff, false_and, and_false, p_sw, Int.reduceAdd, Int.zero_add, Option.some.injEq, Value.int.injEq, Value.long.injEq, Value.ref.injEq, exists_eq_left', mk_I, mk_L, mk_wI, mk_wL, rf_s, rf_n, true_and, and_true, and_self, or_true, true_or, or_false, false_or, not_true_eq_false, not_false_eq_true, Option.toList_some, Option.toList_none, List.cons_append, List.nil_append, List.map_nil, List.map_cons, List.sum_nil, List.sum_cons, cat_i, cat_l, cat_r, cat_n, Nat.reduceLeDiff, Nat.reduceAdd, Nat.reduceEqDiff, Nat.zero_le, p_ent, p_u_ne, p_u_at, reduceIte, if_true, if_false, am, c1]
            exact nx2
          · have hne : ¬ wAt i = slc B p q := fun e => ce (by rw [e, slc_at (by omega)])
            have nx3 := no hne (.int (nI (m + 1))) rfl
            have sn : ¬ nI ((wAt i).getD m 0) = sB (B (p + m)) := fun h => ce (se.mp h)
            clear b1 a1 hall no nx nx2 se ce
            generalize wdC (slc B p q) = Z at *
            generalize sB (B (p + m)) = sb at *
            generalize (wAt i).getD m 0 = wc at *
            generalize (wAt i).length = wl at *
            generalize wOf i = wo at *
            have h6 : P_run d 160 (p_bk 160 6) 0 0 [.ref 123, .int (nI p), .int (nI q), .int (nI (i + 1)), .int (nI wo), .int (nI wl), .int (nI 0), .int (nI (m + 1))] [] (p_mk Ls I L R X) (fun v h' => v = some (.int (nI Z)) ∧ h' = p_mk Ls I L R X) := by
              by_cases c9 : m + 1 < wl
              · rw [P_run_eq, bk_160_6, pb_160_6]; simp -implicitDefEqProofs (disch := first | omega | decide) only [P_m, pw_iload_7, pw_iload_5, pw_cge, pw_iload_6, pw_zeq, pw_aload_n0, pw_aloadN_n0, pw_getR, pw_iload_4, pw_iadd, pw_bald, pw_iload_n1, pw_cne, pw_iconst, il_1, pw_goto, kd_123, rf_123_1, rf_123_2, rf_123_3, rf_123_4, rf_123_5, rf_123_7, rf_123_11, rf_123_12, rf_123_15, rf_123_16, rf_123_17, rf_123_26, rf_123_29, rf_123_30, rf_123_32, rf_123_34, rf_123_35, rf_123_45, n_0, n_1, nn_lt, nn_nlt, nn_le, nn_nle, nn_ne, nn_sub, nn_mul, nI_add, nn_neg, nm_eq, mn_eq, mm_eq, mn_lt, nm_lt, mn_le, nm_le, nn_sub0, nn_of, implies_true, nn_c, nn_in, nn_div, nat_rem, Nat.reduceMul, Nat.reduceSub, Nat.reduceDiv, Nat.reduceMod, pf_at, pf_ne, mk_s, mk_1, Classical.not_not, b2i_T, b2i_F, false_imp_iff, true_imp_iff, false_and, and_false, p_sw, Int.reduceAdd, Int.zero_add, Option.some.injEq, Value.int.injEq, Value.long.injEq, Value.ref.injEq, exists_eq_left', mk_I, mk_L, mk_wI, mk_wL, rf_s, rf_n, true_and, and_true, and_self, or_true, true_or, or_false, false_or, not_true_eq_false, not_false_eq_true, Option.toList_some, Option.toList_none, List.cons_append, List.nil_append, List.map_nil, List.map_cons, List.sum_nil, List.sum_cons, cat_i, cat_l, cat_r, cat_n, Nat.reduceLeDiff, Nat.reduceAdd, Nat.reduceEqDiff, Nat.zero_le, p_ent, p_u_ne, p_u_at, reduceIte, if_true, if_false]
                exact nx3
              · rw [P_run_eq, bk_160_6, pb_160_6]; simp -implicitDefEqProofs (disch := first | omega | decide) only [P_m, pw_iload_7, pw_iload_5, pw_cge, pw_iload_6, pw_zeq, pw_aload_n0, pw_aloadN_n0, pw_getR, pw_iload_4, pw_iadd, pw_bald, pw_iload_n1, pw_cne, pw_iconst, il_1, pw_goto, kd_123, rf_123_1, rf_123_2, rf_123_3, rf_123_4, rf_123_5, rf_123_7, rf_123_11, rf_123_12, rf_123_15, rf_123_16, rf_123_17, rf_123_26, rf_123_29, rf_123_30, rf_123_32, rf_123_34, rf_123_35, rf_123_45, n_0, n_1, nn_lt, nn_nlt, nn_le, nn_nle, nn_ne, nn_sub, nn_mul, nI_add, nn_neg, nm_eq, mn_eq, mm_eq, mn_lt, nm_lt, mn_le, nm_le, nn_sub0, nn_of, implies_true, nn_c, nn_in, nn_div, nat_rem, Nat.reduceMul, Nat.reduceSub, Nat.reduceDiv, Nat.reduceMod, pf_at, pf_ne, mk_s, mk_1, Classical.not_not, b2i_T, b2i_F, false_imp_iff, true_imp_iff, false_and, and_false, p_sw, Int.reduceAdd, Int.zero_add, Option.some.injEq, Value.int.injEq, Value.long.injEq, Value.ref.injEq, exists_eq_left', mk_I, mk_L, mk_wI, mk_wL, rf_s, rf_n, true_and, and_true, and_self, or_true, true_or, or_false, false_or, not_true_eq_false, not_false_eq_true, Option.toList_some, Option.toList_none, List.cons_append, List.nil_append, List.map_nil, List.map_cons, List.sum_nil, List.sum_cons, cat_i, cat_l, cat_r, cat_n, Nat.reduceLeDiff, Nat.reduceAdd, Nat.reduceEqDiff, Nat.zero_le, p_ent, p_u_ne, p_u_at, reduceIte, if_true, if_false]
                exact nx3
            rw [P_run_eq, bk_160_6, pb_160_6]; simp -implicitDefEqProofs (disch := first | omega | decide) only [P_m, ↓P_run_eq _ 160 _ (p_bk 160 7), bk_160_7, pb_160_7, ↓P_run_eq _ 160 _ (p_bk 160 8), bk_160_8, pb_160_8, pw_iload_7, pw_iload_5, pw_cge, pw_iload_6, pw_zeq, pw_aload_n0, pw_aloadN_n0, pw_getR, pw_iload_4, pw_iadd, pw_bald, pw_iload_n1, pw_cne, pw_iconst, il_1, pw_goto, il_0, pw_nop, pw_istore, ps_6, pe_6, po_i6, po_r6, po_n6, po_u6, pw_iinc_7, po_i7, po_r7, po_n7, po_u7, kd_123, rf_123_1, rf_123_2, rf_123_3, rf_123_4, rf_123_5, rf_123_7, rf_123_11, rf_123_12, rf_123_15, rf_123_16, rf_123_17, rf_123_26, rf_123_29, rf_123_30, rf_123_32, rf_123_34, rf_123_35, rf_123_45, kd_129, kd_130, n_0, n_1, nn_lt, nn_nlt, nn_le, nn_nle, nn_ne, nn_sub, nn_mul, nI_add, nn_neg, nm_eq, mn_eq, mm_eq, mn_lt, nm_lt, mn_le, nm_le, nn_sub0, nn_of, implies_true, nn_c, nn_in, nn_div, nat_rem, Nat.reduceMul, Nat.reduceSub, Nat.reduceDiv, Nat.reduceMod, pf_at, pf_ne, mk_s, mk_1, Classical.not_not, b2i_T, b2i_F, false_imp_iff, true_imp_iff, false_and, and_false, p_sw, Int.reduceAdd, Int.zero_add, Option.some.injEq, Value.int.injEq, Value.long.injEq, Value.ref.injEq, exists_eq_left', mk_I, mk_L, mk_wI, mk_wL, rf_s, rf_n, true_and, and_true, and_self, or_true, true_or, or_false, false_or, not_true_eq_false, not_false_eq_true, Option.toList_some, Option.toList_none, List.cons_append, List.nil_append, List.map_nil, List.map_cons, List.sum_nil, List.sum_cons, cat_i, cat_l, cat_r, cat_n, Nat.reduceLeDiff, Nat.reduceAdd, Nat.reduceEqDiff, Nat.zero_le, p_ent, p_u_ne, p_u_at, reduceIte, if_true, if_false, am, c1, sn]
            exact h6
      -- how long it is
      have len : ∀ n, n ≤ (wAt i).length → P_run d 160 (p_bk 160 2) 0 0 [.ref 123, .int (nI p), .int (nI q), .int (nI (i + 1)), .int (nI (wOf i)), .int (nI n)] [] (p_mk Ls I L R X) (fun v h' => v = some (.int (nI (wdC (slc B p q)))) ∧ h' = p_mk Ls I L R X) := by
        refine down_ind ?_ ?_
        · by_cases hl : (wAt i).length = q - p
          · have nx2 := cmp hl 0 (Nat.zero_le _) (fun j hj => absurd hj (Nat.not_lt_zero j))
            clear b1 a1 no nx cmp
            generalize wdC (slc B p q) = Z at *
            generalize (wAt i).length = wl at *
            generalize wOf i = wo at *
            subst hl
            rw [P_run_eq, bk_160_2, pb_160_2]; simp -implicitDefEqProofs (disch := first | omega | decide) only [P_m, ↓P_run_eq _ 160 _ (p_bk 160 3), bk_160_3, pb_160_3, ↓P_run_eq _ 160 _ (p_bk 160 5), bk_160_5, pb_160_5, pw_aload_n0, pw_aloadN_n0, pw_getR, pw_iload_4, pw_iload_5, pw_iadd, pw_bald, pw_bipush, bl_32, pw_ceq, pw_iinc_5, il_1, po_i5, po_r5, po_n5, po_u5, pw_goto, pw_iload_n2, pw_iload_n1, pw_isub, pw_cne, pw_iconst, pw_istore, ps_6, pe_6, po_i6, po_r6, po_n6, po_u6, il_0, ps_7, pe_7, po_i7, po_r7, po_n7, po_u7, pw_nop, kd_123, rf_123_1, rf_123_2, rf_123_3, rf_123_4, rf_123_5, rf_123_7, rf_123_11, rf_123_12, rf_123_15, rf_123_16, rf_123_17, rf_123_26, rf_123_29, rf_123_30, rf_123_32, rf_123_34, rf_123_35, rf_123_45, kd_129, n_0, n_1, n_32, nn_lt, nn_nlt, nn_le, nn_nle, nn_ne, nn_sub, nn_mul, nI_add, nn_neg, nm_eq, mn_eq, mm_eq, mn_lt, nm_lt, mn_le, nm_le, nn_sub0, nn_of, implies_true, nn_c, nn_in, nn_div, nat_rem, Nat.reduceMul, Nat.reduceSub, Nat.reduceDiv, Nat.reduceMod, pf_at, pf_ne, mk_s, mk_1, Classical.not_not, b2i_T, b2i_F, false_imp_iff, true_imp_iff, false_and, and_false, p_sw, Int.reduceAdd, Int.zero_add, Option.some.injEq, Value.int.injEq, Value.long.injEq, Value.ref.injEq, exists_eq_left', mk_I, mk_L, mk_wI, mk_wL, rf_s, rf_n, true_and, and_true, and_self, or_true, true_or, or_false, false_or, not_true_eq_false, not_false_eq_true, Option.toList_some, Option.toList_none, List.cons_append, List.nil_append, List.map_nil, List.map_cons, List.sum_nil, List.sum_cons, cat_i, cat_l, cat_r, cat_n, Nat.reduceLeDiff, Nat.reduceAdd, Nat.reduceEqDiff, Nat.zero_le, p_ent, p_u_ne, p_u_at, reduceIte, if_true, if_false, a2, sq]
            exact nx2
          · have hne : ¬ wAt i = slc B p q := fun e => hl (by rw [e, slc_len])
            have nx3 := no hne (.int (nI 0)) rfl
            clear b1 a1 no nx cmp
            generalize wdC (slc B p q) = Z at *
            generalize (wAt i).length = wl at *
            generalize wOf i = wo at *
            rw [P_run_eq, bk_160_2, pb_160_2]; simp -implicitDefEqProofs (disch := first | omega | decide) only [P_m, ↓P_run_eq _ 160 _ (p_bk 160 3), bk_160_3, pb_160_3, ↓P_run_eq _ 160 _ (p_bk 160 4), bk_160_4, pb_160_4, ↓P_run_eq _ 160 _ (p_bk 160 5), bk_160_5, pb_160_5, ↓P_run_eq _ 160 _ (p_bk 160 6), bk_160_6, pb_160_6, pw_aload_n0, pw_aloadN_n0, pw_getR, pw_iload_4, pw_iload_5, pw_iadd, pw_bald, pw_bipush, bl_32, pw_ceq, pw_iinc_5, il_1, po_i5, po_r5, po_n5, po_u5, pw_goto, pw_iload_n2, pw_iload_n1, pw_isub, pw_cne, pw_iconst, il_0, pw_nop, pw_istore, ps_6, pe_6, po_i6, po_r6, po_n6, po_u6, ps_7, pe_7, po_i7, po_r7, po_n7, po_u7, pw_iload_7, pw_cge, pw_iload_6, pw_zeq, kd_123, rf_123_1, rf_123_2, rf_123_3, rf_123_4, rf_123_5, rf_123_7, rf_123_11, rf_123_12, rf_123_15, rf_123_16, rf_123_17, rf_123_26, rf_123_29, rf_123_30, rf_123_32, rf_123_34, rf_123_35, rf_123_45, kd_129, n_0, n_1, n_32, nn_lt, nn_nlt, nn_le, nn_nle, nn_ne, nn_sub, nn_mul, nI_add, nn_neg, nm_eq, mn_eq, mm_eq, mn_lt, nm_lt, mn_le, nm_le, nn_sub0, nn_of, implies_true, nn_c, nn_in, nn_div, nat_rem, Nat.reduceMul, Nat.reduceSub, Nat.reduceDiv, Nat.reduceMod, pf_at, pf_ne, mk_s, mk_1, Classical.not_not, b2i_T, b2i_F, false_imp_iff, true_imp_iff, false_and, and_false, p_sw, Int.reduceAdd, Int.zero_add, Option.some.injEq, Value.int.injEq, Value.long.injEq, Value.ref.injEq, exists_eq_left', mk_I, mk_L, mk_wI, mk_wL, rf_s, rf_n, true_and, and_true, and_self, or_true, true_or, or_false, false_or, not_true_eq_false, not_false_eq_true, Option.toList_some, Option.toList_none, List.cons_append, List.nil_append, List.map_nil, List.map_cons, List.sum_nil, List.sum_cons, cat_i, cat_l, cat_r, cat_n, Nat.reduceLeDiff, Nat.reduceAdd, Nat.reduceEqDiff, Nat.zero_le, p_ent, p_u_ne, p_u_at, reduceIte, if_true, if_false, a2, sq]
            exact nx3
        · intro n hn nx2
          have an := a1 n hn
          obtain ⟨-, d1, d2⟩ := b1 n hn
          clear b1 a1 no nx cmp
          generalize wdC (slc B p q) = Z at *
          generalize (wAt i).getD n 0 = wc at *
          generalize (wAt i).length = wl at *
          generalize wOf i = wo at *
          rw [P_run_eq, bk_160_2, pb_160_2]; simp -implicitDefEqProofs (disch := first | omega | decide) only [P_m, pw_aload_n0, pw_aloadN_n0, pw_getR, pw_iload_4, pw_iload_5, pw_iadd, pw_bald, pw_bipush, bl_32, pw_ceq, pw_iinc_5, il_1, po_i5, po_r5, po_n5, po_u5, pw_goto, kd_123, rf_123_1, rf_123_2, rf_123_3, rf_123_4, rf_123_5, rf_123_7, rf_123_11, rf_123_12, rf_123_15, rf_123_16, rf_123_17, rf_123_26, rf_123_29, rf_123_30, rf_123_32, rf_123_34, rf_123_35, rf_123_45, kd_129, n_0, n_1, n_32, nn_lt, nn_nlt, nn_le, nn_nle, nn_ne, nn_sub, nn_mul, nI_add, nn_neg, nm_eq, mn_eq, mm_eq, mn_lt, nm_lt, mn_le, nm_le, nn_sub0, nn_of, implies_true, nn_c, nn_in, nn_div, nat_rem, Nat.reduceMul, Nat.reduceSub, Nat.reduceDiv, Nat.reduceMod, pf_at, pf_ne, mk_s, mk_1, Classical.not_not, b2i_T, b2i_F, false_imp_iff, true_imp_iff, false_and, and_false, p_sw, Int.reduceAdd, Int.zero_add, Option.some.injEq, Value.int.injEq, Value.long.injEq, Value.ref.injEq, exists_eq_left', mk_I, mk_L, mk_wI, mk_wL, rf_s, rf_n, true_and, and_true, and_self, or_true, true_or, or_false, false_or, not_true_eq_false, not_false_eq_true, Option.toList_some, Option.toList_none, List.cons_append, List.nil_append, List.map_nil, List.map_cons, List.sum_nil, List.sum_cons, cat_i, cat_l, cat_r, cat_n, Nat.reduceLeDiff, Nat.reduceAdd, Nat.reduceEqDiff, Nat.zero_le, p_ent, p_u_ne, p_u_at, reduceIte, if_true, if_false, an]
          exact nx2
      have st := len 0 (Nat.zero_le _)
      clear b1 a1 no nx cmp len
      generalize wdC (slc B p q) = Z at *
      generalize (wAt i).length = wl at *
      generalize wOf i = wo at *
      rw [P_run_eq, bk_160_1, pb_160_1]; simp -implicitDefEqProofs (disch := first | omega | decide) only [P_m, pw_iload_4, pw_aload_n0, pw_aloadN_n0, pw_getR, pw_alen, pw_cge, pw_iconst, il_0, pw_istore, ps_5, pe_5, po_i5, po_r5, po_n5, po_u5, pw_nop, kd_123, rf_123_1, rf_123_2, rf_123_3, rf_123_4, rf_123_5, rf_123_7, rf_123_11, rf_123_12, rf_123_15, rf_123_16, rf_123_17, rf_123_26, rf_123_29, rf_123_30, rf_123_32, rf_123_34, rf_123_35, rf_123_45, kd_129, n_0, n_1, nn_lt, nn_nlt, nn_le, nn_nle, nn_ne, nn_sub, nn_mul, nI_add, nn_neg, nm_eq, mn_eq, mm_eq, mn_lt, nm_lt, mn_le, nm_le, nn_sub0, nn_of, implies_true, nn_c, nn_in, nn_div, nat_rem, Nat.reduceMul, Nat.reduceSub, Nat.reduceDiv, Nat.reduceMod, pf_at, pf_ne, mk_s, mk_1, Classical.not_not, b2i_T, b2i_F, false_imp_iff, true_imp_iff, false_and, and_false, p_sw, Int.reduceAdd, Int.zero_add, Option.some.injEq, Value.int.injEq, Value.long.injEq, Value.ref.injEq, exists_eq_left', mk_I, mk_L, mk_wI, mk_wL, rf_s, rf_n, true_and, and_true, and_self, or_true, true_or, or_false, false_or, not_true_eq_false, not_false_eq_true, Option.toList_some, Option.toList_none, List.cons_append, List.nil_append, List.map_nil, List.map_cons, List.sum_nil, List.sum_cons, cat_i, cat_l, cat_r, cat_n, Nat.reduceLeDiff, Nat.reduceAdd, Nat.reduceEqDiff, Nat.zero_le, p_ent, p_u_ne, p_u_at, reduceIte, if_true, if_false]
      exact P_ls st (lsLe_ap _ [] (by simp))
  have st := main 0 (by omega) (fun j hj => absurd hj (Nat.not_lt_zero j))
  rw [w_23.2] at st
  generalize wdC (slc B p q) = Z at *
  simp -implicitDefEqProofs (disch := first | omega | decide) only [P_m, ↓P_run_eq _ 160 _ (p_bk 160 0), bk_160_0, pb_160_0, pw_iconst, il_1, pw_istore_n3, ps_3, pe_3, po_i3, po_r3, po_n3, po_u3, il_0, pw_istore, ps_4, pe_4, po_i4, po_r4, po_n4, po_u4, pw_nop, kd_123, rf_123_1, rf_123_2, rf_123_3, rf_123_4, rf_123_5, rf_123_7, rf_123_11, rf_123_12, rf_123_15, rf_123_16, rf_123_17, rf_123_26, rf_123_29, rf_123_30, rf_123_32, rf_123_34, rf_123_35, rf_123_45, n_0, n_1, nn_lt, nn_nlt, nn_le, nn_nle, nn_ne, nn_sub, nn_mul, nI_add, nn_neg, nm_eq, mn_eq, mm_eq, mn_lt, nm_lt, mn_le, nm_le, nn_sub0, nn_of, implies_true, nn_c, nn_in, nn_div, nat_rem, Nat.reduceMul, Nat.reduceSub, Nat.reduceDiv, Nat.reduceMod, pf_at, pf_ne, mk_s, mk_1, Classical.not_not, b2i_T, b2i_F, false_imp_iff, true_imp_iff, false_and, and_false, p_sw, Int.reduceAdd, Int.zero_add, Option.some.injEq, Value.int.injEq, Value.long.injEq, Value.ref.injEq, exists_eq_left', mk_I, mk_L, mk_wI, mk_wL, rf_s, rf_n, true_and, and_true, and_self, or_true, true_or, or_false, false_or, not_true_eq_false, not_false_eq_true, Option.toList_some, Option.toList_none, List.cons_append, List.nil_append, List.map_nil, List.map_cons, List.sum_nil, List.sum_cons, cat_i, cat_l, cat_r, cat_n, Nat.reduceLeDiff, Nat.reduceAdd, Nat.reduceEqDiff, Nat.zero_le, p_ent, p_u_ne, p_u_at, reduceIte, if_true, if_false]
  exact st
end WB
