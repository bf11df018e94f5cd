/-! HUTS BY DRAWS -/
def drw (s : Nat) : Nat := (s * 1103 + 12345) % 1000003
theorem drw_e (s : Nat) : drw s = (s * 1103 + 12345) % 1000003 := rfl
theorem drw_lt (s : Nat) : drw s < 1000003 := Nat.mod_lt _ (by omega)
/-- what is asked in a visit -/
def vlp (c : Option (List tCl)) (m : Nat) : Nat → (Nat → Int32) × Nat → (Nat → Int32) × Nat
  | 0, x => x
  | n + 1, x => if pc (kn x.1 0) ≤ 1 then x else vlp c m n (nxK c x.1 0 (nI (drw x.2 % m)), drw x.2)
def vis (c : Option (List tCl)) (n m : Nat) (x : (Nat → Int32) × Nat) : (Nat → Int32) × Nat := vlp c m 8 (nxK c x.1 3 (nI (drw x.2 % n)), drw x.2)
def hlp (c : Option (List tCl)) (n m : Nat) : Nat → (Nat → Int32) × Nat × Nat → (Nat → Int32) × Nat × Nat
  | 0, x => x
  | i + 1, x => if kn x.1 3 < 999 then hlp c n m i (nxK c (vis c n m (x.1, x.2.1)).1 2 (nI 0), (vis c n m (x.1, x.2.1)).2, x.2.2 + (if pc (kn (vis c n m (x.1, x.2.1)).1 0) = 1 then 1 else 0)) else x
/-- what stands through all draws -/
def dOk (K0 : Nat → Int32) (c : Option (List tCl)) (K : Nat → Int32) : Prop := vld K ∧ lawOf K c ∧ K 52 = K0 52 ∧ K 53 = K0 53 ∧ K 56 = K0 56 ∧ ∀ j, 13 ≤ j → K j = K0 j
theorem nx_13 {c : Option (List tCl)} {K : Nat → Int32} {kd : Nat} {v : Int32} (hV : vld K) : ∀ j, 13 ≤ j → nxK c K kd v j = K j := by
  intro j hj
  have h53 := kn_53 hV
  unfold nxK actW
  split
  · split
    · rename_i hq
      split
      · unfold isQ at hq
        rw [h53.1] at hq
        simp only [Bool.and_eq_true, decide_eq_true_eq] at hq
        obtain ⟨k, hk, e⟩ := nI_of (x := v) (Int32.not_lt.mpr hq.1)
        subst e
        have hk2 : k < kn K 53 := (nI_ltI hk (by omega)).mp hq.2
        rw [nI_clamp hk]
        show upd (upd (upd K 0 _) 2 _) (5 + k) _ j = _
        rw [upd_ne (by omega), upd_ne (by omega), upd_ne (by omega)]
      · rfl
    · rfl
  · split
    · split
      · show upd K 1 _ j = _
        rw [upd_ne (by omega)]
      · rfl
    · split
      · split
        · show upd (upd K 3 _) 1 _ j = _
          rw [upd_ne (by omega), upd_ne (by omega)]
        · rfl
      · split
        · show upd (upd (upd (upd (upd (upd (upd (upd (upd (upd K 4 _) 0 _) 5 _) 6 _) 7 _) 8 _) 9 _) 10 _) 11 _) 12 _ j = _
          rw [upd_ne (by omega), upd_ne (by omega), upd_ne (by omega), upd_ne (by omega), upd_ne (by omega), upd_ne (by omega), upd_ne (by omega), upd_ne (by omega), upd_ne (by omega), upd_ne (by omega)]
        · rfl
theorem dOk_nx {K0 K : Nat → Int32} {c : Option (List tCl)} {kd : Nat} {v : Int32} (h : dOk K0 c K) : dOk K0 c (nxK c K kd v) := by
  obtain ⟨h1, h2, h3, h4, h5, h6⟩ := h
  obtain ⟨n1, n2, n3, n4, n5⟩ := nx_vld (c := c) (kd := kd) (v := v) h1
  exact ⟨n1, nx_law h1 h2, n2.trans h3, n3.trans h4, n4.trans h5, fun j hj => (nx_13 h1 j hj).trans (h6 j hj)⟩
theorem dOk_vlp {K0 : Nat → Int32} {c : Option (List tCl)} {m : Nat} : ∀ (n : Nat) (x : (Nat → Int32) × Nat), dOk K0 c x.1 → dOk K0 c (vlp c m n x).1 ∧ (x.2 < 1000003 → (vlp c m n x).2 < 1000003)
  | 0, x, h => ⟨h, fun h => h⟩
  | n + 1, x, h => by
    unfold vlp
    split
    · exact ⟨h, fun h => h⟩
    · have hz := drw_lt x.2
      generalize drw x.2 = z at *
      obtain ⟨h1, h2⟩ := dOk_vlp (K0 := K0) (m := m) n (nxK c x.1 0 (nI (z % m)), z) (dOk_nx h)
      exact ⟨h1, fun _ => h2 hz⟩
theorem dOk_vis {K0 : Nat → Int32} {c : Option (List tCl)} {n m : Nat} {x : (Nat → Int32) × Nat} (h : dOk K0 c x.1) : dOk K0 c (vis c n m x).1 ∧ (vis c n m x).2 < 1000003 := by
  have hz := drw_lt x.2
  unfold vis
  generalize drw x.2 = z at *
  obtain ⟨h1, h2⟩ := dOk_vlp (K0 := K0) (m := m) 8 (nxK c x.1 3 (nI (z % n)), z) (dOk_nx h)
  exact ⟨h1, h2 hz⟩
section HU
variable {Ls : Nat} {I : Nat → Nat → Int32} {L : Nat → Nat → Int64} {R : Nat → Nat → Option Nat} {X : List pKd} {c : Option (List tCl)} {K K0 : Nat → Int32}
theorem sp_1 {d s m : Nat} (hs : s < 1000003) (h0 : 0 < m) (hm : m ≤ 8) (e : I 70 0 = nI s) : P_m d 1 [.ref 70, .int (nI m)] (p_mk Ls I L R X) (fun v h' => v = some (.int (nI (drw s % m))) ∧ h' = p_mk Ls (p_u I 70 0 (nI (drw s))) L R X) := by
  have hd := drw_lt s
  have ed : (s * 1103 + 12345) % 1000003 = drw s := rfl
  generalize drw s = z at *
  simp -implicitDefEqProofs (disch := first | omega | decide) only [P_m, ↓P_run_eq _ 1 _ (p_bk 1 0), bk_1_0, pb_1_0, ↓P_run_eq _ 1 _ (p_bk 1 1), bk_1_1, pb_1_1, ↓P_run_eq _ 1 _ (p_bk 1 2), bk_1_2, pb_1_2, pw_aload_n0, pw_aloadN_n0, pw_getI, pw_sipush, sl_1103, pw_imul, sl_12345, pw_iadd, pw_ldc, cn_0, pw_irem, pw_putI, pw_iload_n1, pw_zle, pw_goto, pw_iconst, il_0, pw_nop, pw_ret0, kd_70, n_0, n_1, n_1103, n_12345, nn_lt, nn_nlt, nn_le, nn_nle, nn_ne, nn_sub, nn_mul, nI_add, nn_neg, nm_eq, mn_eq, mm_eq, mn_lt, nm_lt, mn_le, nm_le, nn_sub0, nn_of, implies_true, nn_c, nn_in, nn_div, nat_rem, Nat.reduceMul, Nat.reduceSub, Nat.reduceDiv, Nat.reduceMod, pf_at, pf_ne, mk_s, mk_1, Classical.not_not, b2i_T, b2i_F, false_imp_iff, true_imp_iff, false_and, and_false, p_sw, Int.reduceAdd, Int.zero_add, Option.some.injEq, Value.int.injEq, Value.long.injEq, Value.ref.injEq, exists_eq_left', mk_I, mk_L, mk_wI, mk_wL, rf_s, rf_n, true_and, and_true, and_self, or_true, true_or, or_false, false_or, not_true_eq_false, not_false_eq_true, Option.toList_some, Option.toList_none, List.cons_append, List.nil_append, List.map_nil, List.map_cons, List.sum_nil, List.sum_cons, cat_i, cat_l, cat_r, cat_n, Nat.reduceLeDiff, Nat.reduceAdd, Nat.reduceEqDiff, Nat.zero_le, p_ent, p_u_ne, p_u_at, reduceIte, if_true, if_false, e, n_1000003, ed]
  rw [nn_sub (Nat.div_mul_le_self _ _), nat_rem]
theorem ce_1 {d s m : Nat} (hs : s < 1000003) (h0 : 0 < m) (hm : m ≤ 8) {yy : Nat} {rr : List pI} {kc ks : Nat} {lls st : List Value} {Q : Option Value → pHp → Prop} (e : I 70 0 = nI s) : P_call d yy 1 [.ref 70, .int (nI m)] rr kc ks lls st (p_mk Ls I L R X) Q = P_w (d + 1) yy Q rr kc ks lls ((.int (nI (drw s % m))) :: st) (p_mk Ls (p_u I 70 0 (nI (drw s))) L R X) := P_ce (sp_1 hs h0 hm e)
theorem sp_258 {d s m : Nat} (hs : s < 1000003) (h0 : 0 < m) (hm : m ≤ 8) (e : I 123 47 = nI s) : P_m d 258 [.ref 123, .int (nI m)] (p_mk Ls I L R X) (fun v h' => v = some (.int (nI (drw s % m))) ∧ h' = p_mk Ls (p_u I 123 47 (nI (drw s))) L R X) := by
  have hd := drw_lt s
  have l1 : (nI s).toInt64 = lI (s : Int) := nI_lI (by omega)
  have l2 : (1103 : Int64) = lI 1103 := rfl
  have l3 : (12345 : Int64) = lI 12345 := rfl
  have l4 : (1000003 : Int64) = lI 1000003 := rfl
  have e1 : lI (1103 * (s : Int) + 12345) - lI (1103 * (s : Int) + 12345) / lI 1000003 * lI 1000003 = lI (drw s : Int) := by
    have dv : lI (1103 * (s : Int) + 12345) / lI 1000003 = lI ((1103 * (s : Int) + 12345).tdiv 1000003) := by
      refine Int64.toInt_inj.mp ?_
      have hne : lI (1103 * (s : Int) + 12345) ≠ Int64.minValue := by
        intro e
        have := congrArg Int64.toInt e
        rw [lI_toInt (by omega) (by omega)] at this
        have e2 : Int64.minValue.toInt = -9223372036854775808 := by decide
        omega
      have n1 : ((1103 * (s : Int) + 12345).tdiv 1000003).natAbs ≤ (1103 * (s : Int) + 12345).natAbs := Int.natAbs_tdiv_le_natAbs _ _
      rw [Int64.toInt_div_of_ne_left _ _ hne, lI_toInt (by omega) (by omega), lI_toInt (by omega) (by omega), lI_toInt (by omega) (by omega)]
    rw [dv, lI_mul, lI_sub]
    congr 1
    have : (1103 * (s : Int) + 12345).tdiv 1000003 = (1103 * (s : Int) + 12345) / 1000003 := Int.tdiv_eq_ediv_of_nonneg (by omega)
    rw [this]
    unfold drw
    omega
  have ne : ¬ lI 1000003 = 0 := by decide
  have e2 : zI (drw s : Int) = nI (drw s) := rfl
  generalize drw s = z at *
  simp -implicitDefEqProofs (disch := first | omega | decide) only [P_m, ↓P_run_eq _ 258 _ (p_bk 258 0), bk_258_0, pb_258_0, pw_aload_n0, pw_aloadN_n0, pw_ldc2, cl_7, pw_getI, pw_i2l, pw_lmul, cl_8, pw_ladd, cl_9, pw_lrem, pw_l2i, pw_putI, pw_iload_n1, pw_irem, pw_ret0, kd_123, rf_123_1, rf_123_2, rf_123_3, rf_123_4, rf_123_5, rf_123_7, rf_123_11, rf_123_12, rf_123_15, rf_123_16, rf_123_17, rf_123_26, rf_123_29, rf_123_30, rf_123_32, rf_123_34, rf_123_35, rf_123_45, n_0, n_1, nn_lt, nn_nlt, nn_le, nn_nle, nn_ne, nn_sub, nn_mul, nI_add, nn_neg, nm_eq, mn_eq, mm_eq, mn_lt, nm_lt, mn_le, nm_le, nn_sub0, nn_of, implies_true, nn_c, nn_in, nn_div, nat_rem, Nat.reduceMul, Nat.reduceSub, Nat.reduceDiv, Nat.reduceMod, pf_at, pf_ne, mk_s, mk_1, Classical.not_not, b2i_T, b2i_F, false_imp_iff, true_imp_iff, false_and, and_false, p_sw, Int.reduceAdd, Int.zero_add, Option.some.injEq, Value.int.injEq, Value.long.injEq, Value.ref.injEq, exists_eq_left', mk_I, mk_L, mk_wI, mk_wL, rf_s, rf_n, true_and, and_true, and_self, or_true, true_or, or_false, false_or, not_true_eq_false, not_false_eq_true, Option.toList_some, Option.toList_none, List.cons_append, List.nil_append, List.map_nil, List.map_cons, List.sum_nil, List.sum_cons, cat_i, cat_l, cat_r, cat_n, Nat.reduceLeDiff, Nat.reduceAdd, Nat.reduceEqDiff, Nat.zero_le, p_ent, p_u_ne, p_u_at, reduceIte, if_true, if_false, e, l1, l2, l3, l4, lI_mul, lI_add, e1, lI_32, e2, ne]
  rw [nn_sub (Nat.div_mul_le_self _ _), nat_rem]
theorem ce_258 {d s m : Nat} (hs : s < 1000003) (h0 : 0 < m) (hm : m ≤ 8) {yy : Nat} {rr : List pI} {kc ks : Nat} {lls st : List Value} {Q : Option Value → pHp → Prop} (e : I 123 47 = nI s) : P_call d yy 258 [.ref 123, .int (nI m)] rr kc ks lls st (p_mk Ls I L R X) Q = P_w (d + 1) yy Q rr kc ks lls ((.int (nI (drw s % m))) :: st) (p_mk Ls (p_u I 123 47 (nI (drw s))) L R X) := P_ce (sp_258 hs h0 hm e)
end HU
