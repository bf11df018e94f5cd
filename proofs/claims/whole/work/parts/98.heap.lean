theorem bt1_tb (s t : Nat) : decide (bt s t = 1) = s.testBit t := by
  rw [bt_tb]
  cases s.testBit t <;> rfl
theorem bs_or (p q : Nat → Bool) (n : Nat) : bs p n ||| bs q n = bs (fun k => p k || q k) n := by
  refine Nat.eq_of_testBit_eq (fun k => ?_)
  rw [Nat.testBit_or, bs_tb, bs_tb, bs_tb]
  cases decide (k < n) <;> rfl
theorem bs_cg {p q : Nat → Bool} : ∀ n, (∀ k, k < n → p k = q k) → bs p n = bs q n
  | 0, _ => rfl
  | n + 1, h => by
    unfold bs
    rw [bs_cg n (fun k hk => h k (by omega)), h n (by omega)]
theorem up_lt : ∀ k, k < 28 → uP k < tP k ∧ tP k < 8 := by decide
/-- pairs below i that a question tells apart -/
def apM (a i : Nat) : Nat := bs (fun k => decide (tP k < i) && !decide (an a (uP k) = an a (tP k))) 28
/-- those that answer unlike t, and t -/
def unS (a n t : Nat) : Nat := dn (2 ^ n - 1) (thA a n (an a t)) ||| 2 ^ t
theorem unS_tb {a n t u : Nat} (hn : n ≤ 8) (hu : u < 8) : (unS a n t).testBit u = ((decide (u < n) && !decide (an a u = an a t)) || decide (t = u)) := by
  unfold unS dn thA
  rw [Nat.testBit_or, Nat.testBit_and, Nat.testBit_xor, Nat.testBit_two_pow_sub_one, show (255 : Nat) = 2 ^ 8 - 1 from rfl, Nat.testBit_two_pow_sub_one, bs_tb, Nat.testBit_two_pow, decide_eq_true hu]
  cases decide (u < n) <;> cases decide (an a u = an a t) <;> rfl
theorem unS_lt {a n t : Nat} (hn : n ≤ 8) (ht : t < 8) : unS a n t < 256 := by
  have p2 : 2 ^ n ≤ 2 ^ 8 := Nat.pow_le_pow_right (by omega) hn
  have p0 : 0 < 2 ^ n := Nat.two_pow_pos _
  exact Nat.or_lt_two_pow (n := 8) (dn_lt (by omega)) (pow_n ht)
theorem apM_s {a n t : Nat} (hn : n ≤ 8) (ht : t < n) : apM a t ||| pbM t (unS a n t) = apM a (t + 1) := by
  unfold apM pbM
  rw [bs_or]
  refine bs_cg 28 (fun k hk => ?_)
  obtain ⟨u1, u2⟩ := up_lt k hk
  rw [bt1_tb, bt1_tb, unS_tb hn (by omega), unS_tb hn (by omega), decide_eq_true (show t = t from rfl), Bool.or_true, Bool.true_and]
  rcases Nat.lt_trichotomy (tP k) t with h | h | h
  · rw [decide_eq_true h, decide_eq_false (show ¬ tP k = t by omega), decide_eq_true (show tP k < t + 1 by omega), Bool.false_and, Bool.or_false]
  · subst h
    rw [decide_eq_false (show ¬ tP k < tP k by omega), decide_eq_true (show tP k = tP k from rfl), decide_eq_true (show tP k < tP k + 1 by omega), decide_eq_true (show uP k < n by omega), decide_eq_false (show ¬ tP k = uP k by omega), Bool.or_false, Bool.true_and, Bool.true_and, Bool.false_and, Bool.false_or]
  · rw [decide_eq_false (show ¬ tP k < t by omega), decide_eq_false (show ¬ tP k = t by omega), decide_eq_false (show ¬ tP k < t + 1 by omega)]
    rfl
theorem apM_0 (a : Nat) : apM a 0 = 0 := by
  refine Nat.eq_of_testBit_eq (fun k => ?_)
  unfold apM
  rw [bs_tb, decide_eq_false (show ¬ tP k < 0 by omega), Bool.false_and, Bool.and_false, Nat.zero_testBit]
section HQ
variable {d Ls : Nat} {I : Nat → Nat → Int32} {L : Nat → Nat → Int64} {R : Nat → Nat → Option Nat} {X : List pKd} {h : pHp}
theorem pl_44 {q n a : Nat} (hq : q < 8) (hn : n ≤ 8) (ha : a ≤ 65535) (e75 : I 75 q = nI a) (e71 : I 71 0 = nI n) (hr : R 48 1 = some 71) : P_m (d + 2) 44 [.ref 48, .int (nI q)] (p_mk Ls I L R X) (fun v h' => v = some (.int (nI (apM a n))) ∧ h' = p_mk Ls I L R X) := by
  have p2 : 2 ^ n ≤ 2 ^ 8 := Nat.pow_le_pow_right (by omega) hn
  have p0 : 0 < 2 ^ n := Nat.two_pow_pos _
  have loop : ∀ t, t ≤ n → P_run (d + 2) 44 (p_bk 44 1) 0 0 [.ref 48, .int (nI q), .int (nI (apM a t)), .int (nI t)] [] (p_mk Ls I L R X) (fun v h' => v = some (.int (nI (apM a n))) ∧ h' = p_mk Ls I L R X) := by
    refine down_ind ?_ ?_
    · rw [P_run_eq, bk_44_1, pb_44_1]; simp -implicitDefEqProofs (disch := first | omega | decide) only [P_m, ↓P_run_eq _ 44 _ (p_bk 44 2), bk_44_2, pb_44_2, pw_iload_n3, pw_aload_n0, pw_aloadN_n0, pw_getR, pw_getI, pw_cge, pw_iv1, pw_iload_n1, pw_iv3, pw_iconst, il_m1, pw_ixor, pw_iand, pw_istore, ps_4, pe_4, po_i4, po_r4, po_n4, po_u4, pw_iload_n2, pw_iload_4, il_1, pw_ishl, pw_ior, pw_istore_n2, ps_2, pe_2, po_i2, po_r2, po_n2, po_u2, pw_iinc_3, po_i3, po_r3, po_n3, po_u3, pw_goto, pw_ret0, kd_48, rf_48_0, rf_48_6, rf_48_7, rf_48_8, rf_48_9, rf_48_10, rf_48_12, rf_48_13, rf_48_14, rf_48_15, rf_48_1, rf_48_2, kd_71, rf_71_1, rf_71_3, rf_71_4, rf_71_5, rf_71_6, rf_71_11, rf_71_12, rf_71_14, n_0, n_1, nn_lt, nn_nlt, nn_le, nn_nle, nn_ne, nn_sub, nn_mul, nI_add, nn_neg, nm_eq, mn_eq, mm_eq, mn_lt, nm_lt, mn_le, nm_le, nn_sub0, nn_of, implies_true, nn_c, nn_in, nn_div, nat_rem, Nat.reduceMul, Nat.reduceSub, Nat.reduceDiv, Nat.reduceMod, pf_at, pf_ne, mk_s, mk_1, Classical.not_not, b2i_T, b2i_F, false_imp_iff, true_imp_iff, false_and, and_false, p_sw, Int.reduceAdd, Int.zero_add, Option.some.injEq, Value.int.injEq, Value.long.injEq, Value.ref.injEq, exists_eq_left', mk_I, mk_L, mk_wI, mk_wL, rf_s, rf_n, true_and, and_true, and_self, or_true, true_or, or_false, false_or, not_true_eq_false, not_false_eq_true, Option.toList_some, Option.toList_none, List.cons_append, List.nil_append, List.map_nil, List.map_cons, List.sum_nil, List.sum_cons, cat_i, cat_l, cat_r, cat_n, Nat.reduceLeDiff, Nat.reduceAdd, Nat.reduceEqDiff, Nat.zero_le, p_ent, p_u_ne, p_u_at, reduceIte, if_true, if_false, hr, va_rs, e71]
    · intro t ht ih
      have t8 : t < 8 := by omega
      have s1 := sp_11x (d := d + 1) (Ls := Ls) (I := I) (L := L) (R := R) (X := X) hn e71
      have s2 := sp_14n (d := d + 1) (Ls := Ls) (I := I) (L := L) (R := R) (X := X) (q := q) (t := t) hq t8 ha e75
      have s3 := sp_15n (d := d) (Ls := Ls) (I := I) (L := L) (R := R) (X := X) (q := q) (n := n) (x := an a t) hq hn (an_lt _ _) ha e75 e71
      have s4 := sp_43 (d := d + 1) (Ls := Ls) (I := I) (L := L) (R := R) (X := X) (t := t) (s := unS a n t) t8 (unS_lt hn t8)
      have th : thA a n (an a t) < 256 := bs_256 hn
      have e1 := dn_n (s := 2 ^ n - 1) (g := thA a n (an a t)) (by omega) th
      have e2 := shl_n t8
      have e3 : nI (dn (2 ^ n - 1) (thA a n (an a t))) ||| nI (2 ^ t) = nI (unS a n t) := nn_or _ _
      have e4 : nI (apM a t) ||| nI (pbM t (unS a n t)) = nI (apM a (t + 1)) := by rw [nn_or, apM_s hn ht]
      have al := an_lt a t
      generalize 2 ^ n - 1 = A at *
      generalize thA a n (an a t) = B at *
      generalize dn A B = C at *
      generalize unS a n t = D at *
      generalize pbM t D = E at *
      generalize an a t = F at *
      rw [P_run_eq, bk_44_1, pb_44_1]; simp -implicitDefEqProofs (disch := first | omega | decide) only [P_m, pw_iload_n3, pw_aload_n0, pw_aloadN_n0, pw_getR, pw_getI, pw_cge, pw_iv1, pw_iload_n1, pw_iv3, pw_iconst, il_m1, pw_ixor, pw_iand, pw_istore, ps_4, pe_4, po_i4, po_r4, po_n4, po_u4, pw_iload_n2, pw_iload_4, il_1, pw_ishl, pw_ior, pw_istore_n2, ps_2, pe_2, po_i2, po_r2, po_n2, po_u2, pw_iinc_3, po_i3, po_r3, po_n3, po_u3, pw_goto, kd_48, rf_48_0, rf_48_6, rf_48_7, rf_48_8, rf_48_9, rf_48_10, rf_48_12, rf_48_13, rf_48_14, rf_48_15, rf_48_1, rf_48_2, kd_71, rf_71_1, rf_71_3, rf_71_4, rf_71_5, rf_71_6, rf_71_11, rf_71_12, rf_71_14, n_0, n_1, nn_lt, nn_nlt, nn_le, nn_nle, nn_ne, nn_sub, nn_mul, nI_add, nn_neg, nm_eq, mn_eq, mm_eq, mn_lt, nm_lt, mn_le, nm_le, nn_sub0, nn_of, implies_true, nn_c, nn_in, nn_div, nat_rem, Nat.reduceMul, Nat.reduceSub, Nat.reduceDiv, Nat.reduceMod, pf_at, pf_ne, mk_s, mk_1, Classical.not_not, b2i_T, b2i_F, false_imp_iff, true_imp_iff, false_and, and_false, p_sw, Int.reduceAdd, Int.zero_add, Option.some.injEq, Value.int.injEq, Value.long.injEq, Value.ref.injEq, exists_eq_left', mk_I, mk_L, mk_wI, mk_wL, rf_s, rf_n, true_and, and_true, and_self, or_true, true_or, or_false, false_or, not_true_eq_false, not_false_eq_true, Option.toList_some, Option.toList_none, List.cons_append, List.nil_append, List.map_nil, List.map_cons, List.sum_nil, List.sum_cons, cat_i, cat_l, cat_r, cat_n, Nat.reduceLeDiff, Nat.reduceAdd, Nat.reduceEqDiff, Nat.zero_le, p_ent, p_u_ne, p_u_at, reduceIte, if_true, if_false, hr, va_rs, e71, e1, e2, e3, e4, P_ce s1, P_ce s2, P_ce s3, P_ce s4]
      exact P_ls ih one_l
  have st := loop 0 (by omega)
  rw [apM_0] at st
  simp -implicitDefEqProofs (disch := first | omega | decide) only [P_m, ↓P_run_eq _ 44 _ (p_bk 44 0), bk_44_0, pb_44_0, pw_iconst, il_0, pw_istore_n2, ps_2, pe_2, po_i2, po_r2, po_n2, po_u2, pw_istore_n3, ps_3, pe_3, po_i3, po_r3, po_n3, po_u3, pw_nop, kd_48, rf_48_0, rf_48_6, rf_48_7, rf_48_8, rf_48_9, rf_48_10, rf_48_12, rf_48_13, rf_48_14, rf_48_15, rf_48_1, rf_48_2, n_0, n_1, nn_lt, nn_nlt, nn_le, nn_nle, nn_ne, nn_sub, nn_mul, nI_add, nn_neg, nm_eq, mn_eq, mm_eq, mn_lt, nm_lt, mn_le, nm_le, nn_sub0, nn_of, implies_true, nn_c, nn_in, nn_div, nat_rem, Nat.reduceMul, Nat.reduceSub, Nat.reduceDiv, Nat.reduceMod, pf_at, pf_ne, mk_s, mk_1, Classical.not_not, b2i_T, b2i_F, false_imp_iff, true_imp_iff, false_and, and_false, p_sw, Int.reduceAdd, Int.zero_add, Option.some.injEq, Value.int.injEq, Value.long.injEq, Value.ref.injEq, exists_eq_left', mk_I, mk_L, mk_wI, mk_wL, rf_s, rf_n, true_and, and_true, and_self, or_true, true_or, or_false, false_or, not_true_eq_false, not_false_eq_true, Option.toList_some, Option.toList_none, List.cons_append, List.nil_append, List.map_nil, List.map_cons, List.sum_nil, List.sum_cons, cat_i, cat_l, cat_r, cat_n, Nat.reduceLeDiff, Nat.reduceAdd, Nat.reduceEqDiff, Nat.zero_le, p_ent, p_u_ne, p_u_at, reduceIte, if_true, if_false]
  exact st
end HQ
