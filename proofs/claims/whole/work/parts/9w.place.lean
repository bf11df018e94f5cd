/-! placeIn -/
section SP
variable (B : Nat → Nat) (p q : Nat)
def plR : List Nat → Nat → Option Nat → Option Nat
  | [], pl, al => if al = some (q - p) then some pl else none
  | c :: r, pl, al => if c = 32 then (if al = some (q - p) then some pl else plR r (pl + 1) (some 0)) else plR r pl (match al with
    | none => none
    | some a => if p + a < q ∧ B (p + a) = c then some (a + 1) else none)
end SP
def strO (Ls s : Nat) (cs : List Nat) (I : Nat → Nat → Int32) (L : Nat → Nat → Int64) (R : Nat → Nat → Option Nat) (X : List pKd) : Prop := p_kd (p_mk Ls I L R X) s = (0, 10) ∧ (∀ d, P_m (d + 4) 269 [.ref s] (p_mk Ls I L R X) (fun v h' => v = some (.int (nI cs.length)) ∧ h' = p_mk Ls I L R X)) ∧ ∀ d i c, cs[i]? = some c → P_m (d + 4) 270 [.ref s, .int (nI i)] (p_mk Ls I L R X) (fun v h' => v = some (.int (nI c)) ∧ h' = p_mk Ls I L R X)
/-- the strings of the class -/
def sOf (s : Nat) : List Nat := match s with
  | 12 => [97, 115, 107, 32, 112, 111, 117, 114, 32, 112, 97, 115, 115, 32, 104, 105, 100, 101]
  | 13 => [97, 103, 101, 115, 32, 116, 117, 114, 110, 115, 32, 98, 97, 114, 115]
  | 14 => [97, 103, 101, 32, 116, 101, 97, 32, 100, 97, 121, 32, 108, 101, 102, 116, 32, 100, 111, 110, 101, 32, 97, 110, 115, 119, 101, 114, 32, 97, 115, 107, 101, 100]
  | 15 => [113, 117, 101, 115, 116, 105, 111, 110, 32, 121, 101, 97, 114, 115, 32, 115, 111, 114, 116, 32, 97, 115, 107, 101, 100, 32, 109, 111, 111, 100, 32, 97, 103, 101, 32, 116, 101, 97, 32, 100, 97, 121, 32, 108, 101, 102, 116]
  | 16 => [116, 105, 109, 101, 115]
  | 17 => [105, 102]
  | 18 => [110, 111, 116]
  | 19 => [97, 110, 100]
  | 20 => [111, 114]
  | _ => []
section SQ
variable {d Ls : Nat} {I : Nat → Nat → Int32} {L : Nat → Nat → Int64} {R : Nat → Nat → Option Nat} {X : List pKd} {h : pHp}
theorem st_b : ∀ j, j < 9 → ∀ k, k < (sOf (12 + j)).length → (p_strs.getD j []).getD k 0 = nI ((sOf (12 + j)).getD k 0) ∧ (sOf (12 + j)).getD k 0 < 128 := by decide +kernel
theorem st_l : ∀ j, j < 9 → (sOf (12 + j)).length = p_lens9.getD j 0 := by decide +kernel
def invS (I : Nat → Nat → Int32) : Prop := I 30 3 = nI 1 ∧ ∀ j, j < 9 → I (12 + j) 1 = nI 0 ∧ ∀ k, k < p_lens9.getD j 0 → I (3 + j) k = (p_strs.getD j []).getD k 0
theorem gd_some {l : List Nat} {i c : Nat} (h : l[i]? = some c) : i < l.length ∧ l.getD i 0 = c := by
  obtain ⟨h1, h2⟩ := List.getElem?_eq_some_iff.mp h
  refine ⟨h1, ?_⟩
  rw [List.getD_eq_getElem?_getD, h]
  rfl
theorem st_at (H : invS I) {j i c : Nat} (hj : j < 9) (h : (sOf (12 + j))[i]? = some c) : i < (sOf (12 + j)).length ∧ c < 128 ∧ I (3 + j) i = nI c := by
  obtain ⟨h1, h2⟩ := gd_some h
  obtain ⟨b1, b2⟩ := st_b j hj i h1
  rw [h2] at b1 b2
  exact ⟨h1, b2, by rw [(H.2 j hj).2 i (by rw [← st_l j hj]; exact h1)]; exact b1⟩
theorem so_12 (H : invS I) : strO Ls 12 (sOf 12) I L R X := ⟨kd_12 _ _ _ _ _, fun d => st_269_12 H.1 (H.2 0 (by omega)).1, fun d i c hc => by
  obtain ⟨a1, a2, a3⟩ := st_at H (j := 0) (by omega) hc
  exact st_270_12 H.1 (H.2 0 (by omega)).1 a1 a2 a3⟩
theorem so_13 (H : invS I) : strO Ls 13 (sOf 13) I L R X := ⟨kd_13 _ _ _ _ _, fun d => st_269_13 H.1 (H.2 1 (by omega)).1, fun d i c hc => by
  obtain ⟨a1, a2, a3⟩ := st_at H (j := 1) (by omega) hc
  exact st_270_13 H.1 (H.2 1 (by omega)).1 a1 a2 a3⟩
theorem so_14 (H : invS I) : strO Ls 14 (sOf 14) I L R X := ⟨kd_14 _ _ _ _ _, fun d => st_269_14 H.1 (H.2 2 (by omega)).1, fun d i c hc => by
  obtain ⟨a1, a2, a3⟩ := st_at H (j := 2) (by omega) hc
  exact st_270_14 H.1 (H.2 2 (by omega)).1 a1 a2 a3⟩
theorem so_15 (H : invS I) : strO Ls 15 (sOf 15) I L R X := ⟨kd_15 _ _ _ _ _, fun d => st_269_15 H.1 (H.2 3 (by omega)).1, fun d i c hc => by
  obtain ⟨a1, a2, a3⟩ := st_at H (j := 3) (by omega) hc
  exact st_270_15 H.1 (H.2 3 (by omega)).1 a1 a2 a3⟩
theorem so_16 (H : invS I) : strO Ls 16 (sOf 16) I L R X := ⟨kd_16 _ _ _ _ _, fun d => st_269_16 H.1 (H.2 4 (by omega)).1, fun d i c hc => by
  obtain ⟨a1, a2, a3⟩ := st_at H (j := 4) (by omega) hc
  exact st_270_16 H.1 (H.2 4 (by omega)).1 a1 a2 a3⟩
theorem so_17 (H : invS I) : strO Ls 17 (sOf 17) I L R X := ⟨kd_17 _ _ _ _ _, fun d => st_269_17 H.1 (H.2 5 (by omega)).1, fun d i c hc => by
  obtain ⟨a1, a2, a3⟩ := st_at H (j := 5) (by omega) hc
  exact st_270_17 H.1 (H.2 5 (by omega)).1 a1 a2 a3⟩
theorem so_18 (H : invS I) : strO Ls 18 (sOf 18) I L R X := ⟨kd_18 _ _ _ _ _, fun d => st_269_18 H.1 (H.2 6 (by omega)).1, fun d i c hc => by
  obtain ⟨a1, a2, a3⟩ := st_at H (j := 6) (by omega) hc
  exact st_270_18 H.1 (H.2 6 (by omega)).1 a1 a2 a3⟩
theorem so_19 (H : invS I) : strO Ls 19 (sOf 19) I L R X := ⟨kd_19 _ _ _ _ _, fun d => st_269_19 H.1 (H.2 7 (by omega)).1, fun d i c hc => by
  obtain ⟨a1, a2, a3⟩ := st_at H (j := 7) (by omega) hc
  exact st_270_19 H.1 (H.2 7 (by omega)).1 a1 a2 a3⟩
theorem so_20 (H : invS I) : strO Ls 20 (sOf 20) I L R X := ⟨kd_20 _ _ _ _ _, fun d => st_269_20 H.1 (H.2 8 (by omega)).1, fun d i c hc => by
  obtain ⟨a1, a2, a3⟩ := st_at H (j := 8) (by omega) hc
  exact st_270_20 H.1 (H.2 8 (by omega)).1 a1 a2 a3⟩
theorem pl_71 {B : Nat → Nat} {s p q T : Nat} {cs : List Nat} (H : strO Ls s cs I L R X) (hcs : cs.length ≤ 100) (hc : ∀ c ∈ cs, c < 128) (hp : p ≤ q) (hq : q ≤ T) (hT : T ≤ 400) (r1 : R 35 1 = some 34) (e4 : I 35 4 = nI p) (e5 : I 35 5 = nI q) (eB : ∀ k, k < T → I 34 k = nI (B k) ∧ B k < 256) : P_m (d + 5) 71 [.ref 35, .ref s] (p_mk Ls I L R X) (fun v h' => v = some (.int (pnI (plR B p q cs 0 (some 0)))) ∧ h' = p_mk Ls I L R X) := by
  obtain ⟨hk, h1, h2⟩ := H
  have s1 := h1 d
  have sq : nI q - nI p = nI (q - p) := nn_sub hp
  have loop : ∀ (r : List Nat) i pl al, cs.drop i = r → i + r.length = cs.length → pl ≤ i → (∀ a, al = some a → a ≤ q - p) → P_run (d + 5) 71 (p_bk 71 1) 0 0 [.ref 35, .ref s, .int (nI pl), .int (pnI al), .int (nI i)] [] (p_mk Ls I L R X) (fun v h' => v = some (.int (pnI (plR B p q r pl al))) ∧ h' = p_mk Ls I L R X) := by
    intro r
    induction r with
    | nil =>
      intro i pl al hd hi hpl hal
      have ie : i = cs.length := by simpa using hi
      subst ie
      cases al with
      | none =>
        have e : plR B p q [] pl none = none := rfl
        rw [e]
        show P_run _ _ _ _ _ [_, _, _, .int (mI 1), _] _ _ (fun v h' => v = some (.int (mI 1)) ∧ _)
        rw [P_run_eq, bk_71_1, pb_71_1]; simp -implicitDefEqProofs (disch := first | omega | decide) only [P_m, ↓P_run_eq _ 71 _ (p_bk 71 6), bk_71_6, pb_71_6, ↓P_run_eq _ 71 _ (p_bk 71 7), bk_71_7, pb_71_7, ↓P_run_eq _ 71 _ (p_bk 71 8), bk_71_8, pb_71_8, pw_iload_4, pw_aload_n1, pw_aloadN_n1, pw_iv1, pw_cge, pw_iv2, pw_istore, ps_5, pe_5, po_i5, po_r5, po_n5, po_u5, pw_iload_5, pw_bipush, bl_32, pw_cne, pw_iload_n3, pw_aload_n0, pw_aloadN_n0, pw_getI, pw_isub, pw_iload_n2, pw_ret0, pw_goto, pw_iconst, il_m1, pw_nop, kd_35, rf_35_0, rf_35_1, n_0, n_1, n_32, nn_lt, nn_nlt, nn_le, nn_nle, nn_ne, nn_sub, nn_mul, nI_add, nn_neg, nm_eq, mn_eq, mm_eq, mn_lt, nm_lt, mn_le, nm_le, nn_sub0, nn_of, implies_true, nn_c, nn_in, nn_div, nat_rem, Nat.reduceMul, Nat.reduceSub, Nat.reduceDiv, Nat.reduceMod, pf_at, pf_ne, mk_s, mk_1, Classical.not_not, b2i_T, b2i_F, false_imp_iff, true_imp_iff, false_and, and_false, p_sw, Int.reduceAdd, Int.zero_add, Option.some.injEq, Value.int.injEq, Value.long.injEq, Value.ref.injEq, exists_eq_left', mk_I, mk_L, mk_wI, mk_wL, rf_s, rf_n, true_and, and_true, and_self, or_true, true_or, or_false, false_or, not_true_eq_false, not_false_eq_true, Option.toList_some, Option.toList_none, List.cons_append, List.nil_append, List.map_nil, List.map_cons, List.sum_nil, List.sum_cons, cat_i, cat_l, cat_r, cat_n, Nat.reduceLeDiff, Nat.reduceAdd, Nat.reduceEqDiff, Nat.zero_le, p_ent, p_u_ne, p_u_at, reduceIte, if_true, if_false, hk, e4, e5, sq, P_ce s1]
      | some a =>
        have ha := hal a rfl
        show P_run _ _ _ _ _ [_, _, _, .int (nI a), _] _ _ _
        by_cases c : a = q - p
        · have e : plR B p q [] pl (some a) = some pl := by unfold plR; rw [if_pos (by rw [c])]
          rw [e, c]
          show P_run _ _ _ _ _ _ _ _ (fun v h' => v = some (.int (nI pl)) ∧ _)
          rw [P_run_eq, bk_71_1, pb_71_1]; simp -implicitDefEqProofs (disch := first | omega | decide) only [P_m, ↓P_run_eq _ 71 _ (p_bk 71 6), bk_71_6, pb_71_6, ↓P_run_eq _ 71 _ (p_bk 71 8), bk_71_8, pb_71_8, pw_iload_4, pw_aload_n1, pw_aloadN_n1, pw_iv1, pw_cge, pw_iv2, pw_istore, ps_5, pe_5, po_i5, po_r5, po_n5, po_u5, pw_iload_5, pw_bipush, bl_32, pw_cne, pw_iload_n3, pw_aload_n0, pw_aloadN_n0, pw_getI, pw_isub, pw_iload_n2, pw_ret0, pw_goto, kd_35, rf_35_0, rf_35_1, n_0, n_1, n_32, nn_lt, nn_nlt, nn_le, nn_nle, nn_ne, nn_sub, nn_mul, nI_add, nn_neg, nm_eq, mn_eq, mm_eq, mn_lt, nm_lt, mn_le, nm_le, nn_sub0, nn_of, implies_true, nn_c, nn_in, nn_div, nat_rem, Nat.reduceMul, Nat.reduceSub, Nat.reduceDiv, Nat.reduceMod, pf_at, pf_ne, mk_s, mk_1, Classical.not_not, b2i_T, b2i_F, false_imp_iff, true_imp_iff, false_and, and_false, p_sw, Int.reduceAdd, Int.zero_add, Option.some.injEq, Value.int.injEq, Value.long.injEq, Value.ref.injEq, exists_eq_left', mk_I, mk_L, mk_wI, mk_wL, rf_s, rf_n, true_and, and_true, and_self, or_true, true_or, or_false, false_or, not_true_eq_false, not_false_eq_true, Option.toList_some, Option.toList_none, List.cons_append, List.nil_append, List.map_nil, List.map_cons, List.sum_nil, List.sum_cons, cat_i, cat_l, cat_r, cat_n, Nat.reduceLeDiff, Nat.reduceAdd, Nat.reduceEqDiff, Nat.zero_le, p_ent, p_u_ne, p_u_at, reduceIte, if_true, if_false, hk, e4, e5, sq, P_ce s1]
        · have e : plR B p q [] pl (some a) = none := by unfold plR; rw [if_neg (fun h => c (by cases h; rfl))]
          rw [e]
          show P_run _ _ _ _ _ _ _ _ (fun v h' => v = some (.int (mI 1)) ∧ _)
          rw [P_run_eq, bk_71_1, pb_71_1]; simp -implicitDefEqProofs (disch := first | omega | decide) only [P_m, ↓P_run_eq _ 71 _ (p_bk 71 6), bk_71_6, pb_71_6, ↓P_run_eq _ 71 _ (p_bk 71 7), bk_71_7, pb_71_7, ↓P_run_eq _ 71 _ (p_bk 71 8), bk_71_8, pb_71_8, pw_iload_4, pw_aload_n1, pw_aloadN_n1, pw_iv1, pw_cge, pw_iv2, pw_istore, ps_5, pe_5, po_i5, po_r5, po_n5, po_u5, pw_iload_5, pw_bipush, bl_32, pw_cne, pw_iload_n3, pw_aload_n0, pw_aloadN_n0, pw_getI, pw_isub, pw_iload_n2, pw_ret0, pw_goto, pw_iconst, il_m1, pw_nop, kd_35, rf_35_0, rf_35_1, n_0, n_1, n_32, nn_lt, nn_nlt, nn_le, nn_nle, nn_ne, nn_sub, nn_mul, nI_add, nn_neg, nm_eq, mn_eq, mm_eq, mn_lt, nm_lt, mn_le, nm_le, nn_sub0, nn_of, implies_true, nn_c, nn_in, nn_div, nat_rem, Nat.reduceMul, Nat.reduceSub, Nat.reduceDiv, Nat.reduceMod, pf_at, pf_ne, mk_s, mk_1, Classical.not_not, b2i_T, b2i_F, false_imp_iff, true_imp_iff, false_and, and_false, p_sw, Int.reduceAdd, Int.zero_add, Option.some.injEq, Value.int.injEq, Value.long.injEq, Value.ref.injEq, exists_eq_left', mk_I, mk_L, mk_wI, mk_wL, rf_s, rf_n, true_and, and_true, and_self, or_true, true_or, or_false, false_or, not_true_eq_false, not_false_eq_true, Option.toList_some, Option.toList_none, List.cons_append, List.nil_append, List.map_nil, List.map_cons, List.sum_nil, List.sum_cons, cat_i, cat_l, cat_r, cat_n, Nat.reduceLeDiff, Nat.reduceAdd, Nat.reduceEqDiff, Nat.zero_le, p_ent, p_u_ne, p_u_at, reduceIte, if_true, if_false, hk, e4, e5, sq, P_ce s1]
    | cons c r ih =>
      intro i pl al hd hi hpl hal
      rw [List.length_cons] at hi
      have gi : cs[i]? = some c := by
        have h1 : (cs.drop i)[0]? = some c := by rw [hd]; rfl
        rwa [List.getElem?_drop, Nat.add_zero] at h1
      have hd2 : cs.drop (i + 1) = r := by rw [← List.drop_drop, hd]; rfl
      have c8 : c < 128 := hc c (List.mem_of_getElem? gi)
      have s2 := h2 d i c gi
      by_cases c32 : c = 32
      · subst c32
        cases al with
        | none =>
          have e : plR B p q (32 :: r) pl none = plR B p q r (pl + 1) (some 0) := rfl
          rw [e]
          have nx := ih (i + 1) (pl + 1) (some 0) hd2 (by omega) (by omega) (fun a h => by cases h; omega)
          generalize plR B p q r (pl + 1) (some 0) = Z at *
          show P_run _ _ _ _ _ [_, _, _, .int (mI 1), _] _ _ _
          rw [P_run_eq, bk_71_1, pb_71_1]; simp -implicitDefEqProofs (disch := first | omega | decide) only [P_m, ↓P_run_eq _ 71 _ (p_bk 71 2), bk_71_2, pb_71_2, ↓P_run_eq _ 71 _ (p_bk 71 5), bk_71_5, pb_71_5, pw_iload_4, pw_aload_n1, pw_aloadN_n1, pw_iv1, pw_cge, pw_iv2, pw_istore, ps_5, pe_5, po_i5, po_r5, po_n5, po_u5, pw_iload_5, pw_bipush, bl_32, pw_cne, pw_iload_n3, pw_aload_n0, pw_aloadN_n0, pw_getI, pw_isub, pw_iload_n2, pw_ret0, pw_iinc_2, il_1, po_i2, po_r2, po_n2, po_u2, pw_iconst, il_0, pw_istore_n3, ps_3, pe_3, po_i3, po_r3, po_n3, po_u3, pw_goto, pw_iinc_4, po_i4, po_r4, po_n4, po_u4, kd_35, rf_35_0, rf_35_1, n_0, n_1, n_32, nn_lt, nn_nlt, nn_le, nn_nle, nn_ne, nn_sub, nn_mul, nI_add, nn_neg, nm_eq, mn_eq, mm_eq, mn_lt, nm_lt, mn_le, nm_le, nn_sub0, nn_of, implies_true, nn_c, nn_in, nn_div, nat_rem, Nat.reduceMul, Nat.reduceSub, Nat.reduceDiv, Nat.reduceMod, pf_at, pf_ne, mk_s, mk_1, Classical.not_not, b2i_T, b2i_F, false_imp_iff, true_imp_iff, false_and, and_false, p_sw, Int.reduceAdd, Int.zero_add, Option.some.injEq, Value.int.injEq, Value.long.injEq, Value.ref.injEq, exists_eq_left', mk_I, mk_L, mk_wI, mk_wL, rf_s, rf_n, true_and, and_true, and_self, or_true, true_or, or_false, false_or, not_true_eq_false, not_false_eq_true, Option.toList_some, Option.toList_none, List.cons_append, List.nil_append, List.map_nil, List.map_cons, List.sum_nil, List.sum_cons, cat_i, cat_l, cat_r, cat_n, Nat.reduceLeDiff, Nat.reduceAdd, Nat.reduceEqDiff, Nat.zero_le, p_ent, p_u_ne, p_u_at, reduceIte, if_true, if_false, hk, e4, e5, sq, P_ce s1, P_ce s2]
          exact P_ls nx one_l
        | some a =>
          have ha := hal a rfl
          show P_run _ _ _ _ _ [_, _, _, .int (nI a), _] _ _ _
          by_cases cc : a = q - p
          · have e : plR B p q (32 :: r) pl (some a) = some pl := by unfold plR; rw [if_pos rfl, if_pos (by rw [cc])]
            rw [e, cc]
            show P_run _ _ _ _ _ _ _ _ (fun v h' => v = some (.int (nI pl)) ∧ _)
            rw [P_run_eq, bk_71_1, pb_71_1]; simp -implicitDefEqProofs (disch := first | omega | decide) only [P_m, pw_iload_4, pw_aload_n1, pw_aloadN_n1, pw_iv1, pw_cge, pw_iv2, pw_istore, ps_5, pe_5, po_i5, po_r5, po_n5, po_u5, pw_iload_5, pw_bipush, bl_32, pw_cne, pw_iload_n3, pw_aload_n0, pw_aloadN_n0, pw_getI, pw_isub, pw_iload_n2, pw_ret0, kd_35, rf_35_0, rf_35_1, n_0, n_1, n_32, nn_lt, nn_nlt, nn_le, nn_nle, nn_ne, nn_sub, nn_mul, nI_add, nn_neg, nm_eq, mn_eq, mm_eq, mn_lt, nm_lt, mn_le, nm_le, nn_sub0, nn_of, implies_true, nn_c, nn_in, nn_div, nat_rem, Nat.reduceMul, Nat.reduceSub, Nat.reduceDiv, Nat.reduceMod, pf_at, pf_ne, mk_s, mk_1, Classical.not_not, b2i_T, b2i_F, false_imp_iff, true_imp_iff, false_and, and_false, p_sw, Int.reduceAdd, Int.zero_add, Option.some.injEq, Value.int.injEq, Value.long.injEq, Value.ref.injEq, exists_eq_left', mk_I, mk_L, mk_wI, mk_wL, rf_s, rf_n, true_and, and_true, and_self, or_true, true_or, or_false, false_or, not_true_eq_false, not_false_eq_true, Option.toList_some, Option.toList_none, List.cons_append, List.nil_append, List.map_nil, List.map_cons, List.sum_nil, List.sum_cons, cat_i, cat_l, cat_r, cat_n, Nat.reduceLeDiff, Nat.reduceAdd, Nat.reduceEqDiff, Nat.zero_le, p_ent, p_u_ne, p_u_at, reduceIte, if_true, if_false, hk, e4, e5, sq, P_ce s1, P_ce s2]
          · have e : plR B p q (32 :: r) pl (some a) = plR B p q r (pl + 1) (some 0) := by
              show (if 32 = 32 then _ else _) = _
              rw [if_pos rfl, if_neg (fun h => cc (by cases h; rfl))]
            rw [e]
            have nx := ih (i + 1) (pl + 1) (some 0) hd2 (by omega) (by omega) (fun a h => by cases h; omega)
            generalize plR B p q r (pl + 1) (some 0) = Z at *
            rw [P_run_eq, bk_71_1, pb_71_1]; simp -implicitDefEqProofs (disch := first | omega | decide) only [P_m, ↓P_run_eq _ 71 _ (p_bk 71 2), bk_71_2, pb_71_2, ↓P_run_eq _ 71 _ (p_bk 71 5), bk_71_5, pb_71_5, pw_iload_4, pw_aload_n1, pw_aloadN_n1, pw_iv1, pw_cge, pw_iv2, pw_istore, ps_5, pe_5, po_i5, po_r5, po_n5, po_u5, pw_iload_5, pw_bipush, bl_32, pw_cne, pw_iload_n3, pw_aload_n0, pw_aloadN_n0, pw_getI, pw_isub, pw_iload_n2, pw_ret0, pw_iinc_2, il_1, po_i2, po_r2, po_n2, po_u2, pw_iconst, il_0, pw_istore_n3, ps_3, pe_3, po_i3, po_r3, po_n3, po_u3, pw_goto, pw_iinc_4, po_i4, po_r4, po_n4, po_u4, kd_35, rf_35_0, rf_35_1, n_0, n_1, n_32, nn_lt, nn_nlt, nn_le, nn_nle, nn_ne, nn_sub, nn_mul, nI_add, nn_neg, nm_eq, mn_eq, mm_eq, mn_lt, nm_lt, mn_le, nm_le, nn_sub0, nn_of, implies_true, nn_c, nn_in, nn_div, nat_rem, Nat.reduceMul, Nat.reduceSub, Nat.reduceDiv, Nat.reduceMod, pf_at, pf_ne, mk_s, mk_1, Classical.not_not, b2i_T, b2i_F, false_imp_iff, true_imp_iff, false_and, and_false, p_sw, Int.reduceAdd, Int.zero_add, Option.some.injEq, Value.int.injEq, Value.long.injEq, Value.ref.injEq, exists_eq_left', mk_I, mk_L, mk_wI, mk_wL, rf_s, rf_n, true_and, and_true, and_self, or_true, true_or, or_false, false_or, not_true_eq_false, not_false_eq_true, Option.toList_some, Option.toList_none, List.cons_append, List.nil_append, List.map_nil, List.map_cons, List.sum_nil, List.sum_cons, cat_i, cat_l, cat_r, cat_n, Nat.reduceLeDiff, Nat.reduceAdd, Nat.reduceEqDiff, Nat.zero_le, p_ent, p_u_ne, p_u_at, reduceIte, if_true, if_false, hk, e4, e5, sq, P_ce s1, P_ce s2]
            exact P_ls nx one_l
      · cases al with
        | none =>
          have e : plR B p q (c :: r) pl none = plR B p q r pl none := by
            show (if c = 32 then _ else _) = _
            rw [if_neg c32]
          rw [e]
          have nx := ih (i + 1) pl none hd2 (by omega) (by omega) (fun a h => by cases h)
          generalize plR B p q r pl none = Z at *
          replace nx : P_run (d + 5) 71 (p_bk 71 1) 0 0 [.ref 35, .ref s, .int (nI pl), .int (mI 1), .int (nI (i + 1))] [] (p_mk Ls I L R X) (fun v h' => v = some (.int (pnI Z)) ∧ h' = p_mk Ls I L R X) := nx
          show P_run _ _ _ _ _ [_, _, _, .int (mI 1), _] _ _ _
          rw [P_run_eq, bk_71_1, pb_71_1]; simp -implicitDefEqProofs (disch := first | omega | decide) only [P_m, ↓P_run_eq _ 71 _ (p_bk 71 3), bk_71_3, pb_71_3, ↓P_run_eq _ 71 _ (p_bk 71 4), bk_71_4, pb_71_4, ↓P_run_eq _ 71 _ (p_bk 71 5), bk_71_5, pb_71_5, pw_iload_4, pw_aload_n1, pw_aloadN_n1, pw_iv1, pw_cge, pw_iv2, pw_istore, ps_5, pe_5, po_i5, po_r5, po_n5, po_u5, pw_iload_5, pw_bipush, bl_32, pw_cne, pw_iload_n3, pw_aload_n0, pw_aloadN_n0, pw_getI, pw_isub, pw_iload_n2, pw_ret0, pw_iconst, il_m1, pw_ceq, pw_iadd, pw_getR, pw_iald, pw_iinc_3, il_1, po_i3, po_r3, po_n3, po_u3, pw_goto, pw_istore_n3, ps_3, pe_3, pw_nop, pw_iinc_4, po_i4, po_r4, po_n4, po_u4, kd_35, rf_35_0, rf_35_1, n_0, n_1, n_32, nn_lt, nn_nlt, nn_le, nn_nle, nn_ne, nn_sub, nn_mul, nI_add, nn_neg, nm_eq, mn_eq, mm_eq, mn_lt, nm_lt, mn_le, nm_le, nn_sub0, nn_of, implies_true, nn_c, nn_in, nn_div, nat_rem, Nat.reduceMul, Nat.reduceSub, Nat.reduceDiv, Nat.reduceMod, pf_at, pf_ne, mk_s, mk_1, Classical.not_not, b2i_T, b2i_F, false_imp_iff, true_imp_iff, false_and, and_false, p_sw, Int.reduceAdd, Int.zero_add, Option.some.injEq, Value.int.injEq, Value.long.injEq, Value.ref.injEq, exists_eq_left', mk_I, mk_L, mk_wI, mk_wL, rf_s, rf_n, true_and, and_true, and_self, or_true, true_or, or_false, false_or, not_true_eq_false, not_false_eq_true, Option.toList_some, Option.toList_none, List.cons_append, List.nil_append, List.map_nil, List.map_cons, List.sum_nil, List.sum_cons, cat_i, cat_l, cat_r, cat_n, Nat.reduceLeDiff, Nat.reduceAdd, Nat.reduceEqDiff, Nat.zero_le, p_ent, p_u_ne, p_u_at, reduceIte, if_true, if_false, hk, e4, e5, P_ce s1, P_ce s2]
          exact P_ls nx one_l
        | some a =>
          have ha := hal a rfl
          show P_run _ _ _ _ _ [_, _, _, .int (nI a), _] _ _ _
          by_cases cc : p + a < q ∧ B (p + a) = c
          · have e : plR B p q (c :: r) pl (some a) = plR B p q r pl (some (a + 1)) := by
              show (if c = 32 then _ else _) = _
              rw [if_neg c32]
              show plR B p q r pl (if _ then _ else _) = _
              rw [if_pos cc]
            rw [e]
            have nx := ih (i + 1) pl (some (a + 1)) hd2 (by omega) (by omega) (fun a h => by cases h; omega)
            generalize plR B p q r pl (some (a + 1)) = Z at *
            replace nx : P_run (d + 5) 71 (p_bk 71 1) 0 0 [.ref 35, .ref s, .int (nI pl), .int (nI (a + 1)), .int (nI (i + 1))] [] (p_mk Ls I L R X) (fun v h' => v = some (.int (pnI Z)) ∧ h' = p_mk Ls I L R X) := nx
            obtain ⟨c1, c2⟩ := cc
            have b1 : I 34 (p + a) = nI c := by rw [(eB (p + a) (by omega)).1, c2]
            rw [P_run_eq, bk_71_1, pb_71_1]; simp -implicitDefEqProofs (disch := first | omega | decide) only [P_m, ↓P_run_eq _ 71 _ (p_bk 71 3), bk_71_3, pb_71_3, ↓P_run_eq _ 71 _ (p_bk 71 5), bk_71_5, pb_71_5, pw_iload_4, pw_aload_n1, pw_aloadN_n1, pw_iv1, pw_cge, pw_iv2, pw_istore, ps_5, pe_5, po_i5, po_r5, po_n5, po_u5, pw_iload_5, pw_bipush, bl_32, pw_cne, pw_iload_n3, pw_aload_n0, pw_aloadN_n0, pw_getI, pw_isub, pw_iload_n2, pw_ret0, pw_iconst, il_m1, pw_ceq, pw_iadd, pw_getR, pw_iald, pw_iinc_3, il_1, po_i3, po_r3, po_n3, po_u3, pw_goto, pw_iinc_4, po_i4, po_r4, po_n4, po_u4, kd_34, kd_35, rf_35_0, rf_35_1, n_0, n_1, n_32, nn_lt, nn_nlt, nn_le, nn_nle, nn_ne, nn_sub, nn_mul, nI_add, nn_neg, nm_eq, mn_eq, mm_eq, mn_lt, nm_lt, mn_le, nm_le, nn_sub0, nn_of, implies_true, nn_c, nn_in, nn_div, nat_rem, Nat.reduceMul, Nat.reduceSub, Nat.reduceDiv, Nat.reduceMod, pf_at, pf_ne, mk_s, mk_1, Classical.not_not, b2i_T, b2i_F, false_imp_iff, true_imp_iff, false_and, and_false, p_sw, Int.reduceAdd, Int.zero_add, Option.some.injEq, Value.int.injEq, Value.long.injEq, Value.ref.injEq, exists_eq_left', mk_I, mk_L, mk_wI, mk_wL, rf_s, rf_n, true_and, and_true, and_self, or_true, true_or, or_false, false_or, not_true_eq_false, not_false_eq_true, Option.toList_some, Option.toList_none, List.cons_append, List.nil_append, List.map_nil, List.map_cons, List.sum_nil, List.sum_cons, cat_i, cat_l, cat_r, cat_n, Nat.reduceLeDiff, Nat.reduceAdd, Nat.reduceEqDiff, Nat.zero_le, p_ent, p_u_ne, p_u_at, reduceIte, if_true, if_false, hk, r1, va_rs, e4, e5, b1, P_ce s1, P_ce s2]
            exact P_ls nx one_l
          · have e : plR B p q (c :: r) pl (some a) = plR B p q r pl none := by
              show (if c = 32 then _ else _) = _
              rw [if_neg c32]
              show plR B p q r pl (if _ then _ else _) = _
              rw [if_neg cc]
            rw [e]
            have nx := ih (i + 1) pl none hd2 (by omega) (by omega) (fun a h => by cases h)
            generalize plR B p q r pl none = Z at *
            replace nx : P_run (d + 5) 71 (p_bk 71 1) 0 0 [.ref 35, .ref s, .int (nI pl), .int (mI 1), .int (nI (i + 1))] [] (p_mk Ls I L R X) (fun v h' => v = some (.int (pnI Z)) ∧ h' = p_mk Ls I L R X) := nx
            by_cases c1 : p + a < q
            · have b1 : I 34 (p + a) = nI (B (p + a)) := (eB (p + a) (by omega)).1
              have b2 := (eB (p + a) (by omega)).2
              have b3 : ¬ B (p + a) = c := fun h => cc ⟨c1, h⟩
              generalize B (p + a) = bb at *
              rw [P_run_eq, bk_71_1, pb_71_1]; simp -implicitDefEqProofs (disch := first | omega | decide) only [P_m, ↓P_run_eq _ 71 _ (p_bk 71 3), bk_71_3, pb_71_3, ↓P_run_eq _ 71 _ (p_bk 71 4), bk_71_4, pb_71_4, ↓P_run_eq _ 71 _ (p_bk 71 5), bk_71_5, pb_71_5, pw_iload_4, pw_aload_n1, pw_aloadN_n1, pw_iv1, pw_cge, pw_iv2, pw_istore, ps_5, pe_5, po_i5, po_r5, po_n5, po_u5, pw_iload_5, pw_bipush, bl_32, pw_cne, pw_iload_n3, pw_aload_n0, pw_aloadN_n0, pw_getI, pw_isub, pw_iload_n2, pw_ret0, pw_iconst, il_m1, pw_ceq, pw_iadd, pw_getR, pw_iald, pw_iinc_3, il_1, po_i3, po_r3, po_n3, po_u3, pw_goto, pw_istore_n3, ps_3, pe_3, pw_nop, pw_iinc_4, po_i4, po_r4, po_n4, po_u4, kd_34, kd_35, rf_35_0, rf_35_1, n_0, n_1, n_32, nn_lt, nn_nlt, nn_le, nn_nle, nn_ne, nn_sub, nn_mul, nI_add, nn_neg, nm_eq, mn_eq, mm_eq, mn_lt, nm_lt, mn_le, nm_le, nn_sub0, nn_of, implies_true, nn_c, nn_in, nn_div, nat_rem, Nat.reduceMul, Nat.reduceSub, Nat.reduceDiv, Nat.reduceMod, pf_at, pf_ne, mk_s, mk_1, Classical.not_not, b2i_T, b2i_F, false_imp_iff, true_imp_iff, false_and, and_false, p_sw, Int.reduceAdd, Int.zero_add, Option.some.injEq, Value.int.injEq, Value.long.injEq, Value.ref.injEq, exists_eq_left', mk_I, mk_L, mk_wI, mk_wL, rf_s, rf_n, true_and, and_true, and_self, or_true, true_or, or_false, false_or, not_true_eq_false, not_false_eq_true, Option.toList_some, Option.toList_none, List.cons_append, List.nil_append, List.map_nil, List.map_cons, List.sum_nil, List.sum_cons, cat_i, cat_l, cat_r, cat_n, Nat.reduceLeDiff, Nat.reduceAdd, Nat.reduceEqDiff, Nat.zero_le, p_ent, p_u_ne, p_u_at, reduceIte, if_true, if_false, hk, r1, va_rs, e4, e5, b1, P_ce s1, P_ce s2]
              exact P_ls nx one_l
            · rw [P_run_eq, bk_71_1, pb_71_1]; simp -implicitDefEqProofs (disch := first | omega | decide) only [P_m, ↓P_run_eq _ 71 _ (p_bk 71 3), bk_71_3, pb_71_3, ↓P_run_eq _ 71 _ (p_bk 71 4), bk_71_4, pb_71_4, ↓P_run_eq _ 71 _ (p_bk 71 5), bk_71_5, pb_71_5, pw_iload_4, pw_aload_n1, pw_aloadN_n1, pw_iv1, pw_cge, pw_iv2, pw_istore, ps_5, pe_5, po_i5, po_r5, po_n5, po_u5, pw_iload_5, pw_bipush, bl_32, pw_cne, pw_iload_n3, pw_aload_n0, pw_aloadN_n0, pw_getI, pw_isub, pw_iload_n2, pw_ret0, pw_iconst, il_m1, pw_ceq, pw_iadd, pw_getR, pw_iald, pw_iinc_3, il_1, po_i3, po_r3, po_n3, po_u3, pw_goto, pw_istore_n3, ps_3, pe_3, pw_nop, pw_iinc_4, po_i4, po_r4, po_n4, po_u4, kd_34, kd_35, rf_35_0, rf_35_1, n_0, n_1, n_32, nn_lt, nn_nlt, nn_le, nn_nle, nn_ne, nn_sub, nn_mul, nI_add, nn_neg, nm_eq, mn_eq, mm_eq, mn_lt, nm_lt, mn_le, nm_le, nn_sub0, nn_of, implies_true, nn_c, nn_in, nn_div, nat_rem, Nat.reduceMul, Nat.reduceSub, Nat.reduceDiv, Nat.reduceMod, pf_at, pf_ne, mk_s, mk_1, Classical.not_not, b2i_T, b2i_F, false_imp_iff, true_imp_iff, false_and, and_false, p_sw, Int.reduceAdd, Int.zero_add, Option.some.injEq, Value.int.injEq, Value.long.injEq, Value.ref.injEq, exists_eq_left', mk_I, mk_L, mk_wI, mk_wL, rf_s, rf_n, true_and, and_true, and_self, or_true, true_or, or_false, false_or, not_true_eq_false, not_false_eq_true, Option.toList_some, Option.toList_none, List.cons_append, List.nil_append, List.map_nil, List.map_cons, List.sum_nil, List.sum_cons, cat_i, cat_l, cat_r, cat_n, Nat.reduceLeDiff, Nat.reduceAdd, Nat.reduceEqDiff, Nat.zero_le, p_ent, p_u_ne, p_u_at, reduceIte, if_true, if_false, hk, r1, va_rs, e4, e5, P_ce s1, P_ce s2]
              exact P_ls nx one_l
  have st := loop cs 0 0 (some 0) rfl (by omega) (by omega) (fun a h => by cases h; omega)
  generalize plR B p q cs 0 (some 0) = Z at *
  replace st : P_run (d + 5) 71 (p_bk 71 1) 0 0 [.ref 35, .ref s, .int (nI 0), .int (nI 0), .int (nI 0)] [] (p_mk Ls I L R X) (fun v h' => v = some (.int (pnI Z)) ∧ h' = p_mk Ls I L R X) := st
  simp -implicitDefEqProofs (disch := first | omega | decide) only [P_m, ↓P_run_eq _ 71 _ (p_bk 71 0), bk_71_0, pb_71_0, pw_iconst, il_0, pw_istore_n2, ps_2, pe_2, po_i2, po_r2, po_n2, po_u2, pw_istore_n3, ps_3, pe_3, po_i3, po_r3, po_n3, po_u3, pw_istore, ps_4, pe_4, po_i4, po_r4, po_n4, po_u4, pw_nop, kd_35, rf_35_0, rf_35_1, n_0, n_1, nn_lt, nn_nlt, nn_le, nn_nle, nn_ne, nn_sub, nn_mul, nI_add, nn_neg, nm_eq, mn_eq, mm_eq, mn_lt, nm_lt, mn_le, nm_le, nn_sub0, nn_of, implies_true, nn_c, nn_in, nn_div, nat_rem, Nat.reduceMul, Nat.reduceSub, Nat.reduceDiv, Nat.reduceMod, pf_at, pf_ne, mk_s, mk_1, Classical.not_not, b2i_T, b2i_F, false_imp_iff, true_imp_iff, false_and, and_false, p_sw, Int.reduceAdd, Int.zero_add, Option.some.injEq, Value.int.injEq, Value.long.injEq, Value.ref.injEq, exists_eq_left', mk_I, mk_L, mk_wI, mk_wL, rf_s, rf_n, true_and, and_true, and_self, or_true, true_or, or_false, false_or, not_true_eq_false, not_false_eq_true, Option.toList_some, Option.toList_none, List.cons_append, List.nil_append, List.map_nil, List.map_cons, List.sum_nil, List.sum_cons, cat_i, cat_l, cat_r, cat_n, Nat.reduceLeDiff, Nat.reduceAdd, Nat.reduceEqDiff, Nat.zero_le, p_ent, p_u_ne, p_u_at, reduceIte, if_true, if_false]
  exact st
end SQ
