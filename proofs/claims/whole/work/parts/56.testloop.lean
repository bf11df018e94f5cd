section TL
variable {d Ls i : Nat} {I : Nat → Nat → Int32} {L : Nat → Nat → Int64} {R : Nat → Nat → Option Nat} {X : List pKd} {W : Nat → Int32} {o : Bool} {Q : Option Value → pHp → Prop}
theorem one_l {l : List Value} {x : Int32} : lsLe l (l ++ [.int x]) := lsLe_ap _ [_] (by simp only [List.mem_cons, List.not_mem_nil, or_false]; rintro _ rfl; rfl)
theorem evO_a {D k k1 k2 : Nat} {g0 g1 g2 : tDB} (hE : evH o I i W) (hk : k ≤ 1000) (h6 : kC (I 125) i k = 6) (h : evB Ls i I W (D + 1) 194 (k + 1) k1 g1) (h2 : evO Ls i I W (D + 2) 193 k1 k2 (andD g0 g1) g2) : evO Ls i I W (D + 2) 193 k k2 g0 g2 := by
  intro L R X lv b w0 hw0
  have s1 := sp_186t (d := D) (Ls := Ls) (L := L) (R := R) (X := X) (c := 6) (k := k) (b := rb lv b (g0 W)) hE (by omega) h6
  obtain ⟨w1, hw1, s2⟩ := h L R X (lv && w0) (rb lv b (g0 W))
  have e1 : rb (lv && w0) (rb lv b (g0 W)) (g1 W) = rb lv b (andD g0 g1 W) := by
    cases lv with
    | false => simp only [Bool.false_and, rb_ff]
    | true =>
      cases b with
      | true => rfl
      | false =>
        unfold andD
        cases hg : g0 W with
        | none => rfl
        | some x =>
          have := hw0 rfl rfl x hg
          subst this
          rw [rb_some]
          cases w0
          · rfl
          · rfl
  rw [e1] at s2
  have h3 : okw W lv b (andD g0 g1) (w0 && w1) := by
    rintro rfl rfl x hx
    unfold andD at hx
    cases hg : g0 W with
    | none => rw [hg] at hx; cases hx
    | some y =>
      have := hw0 rfl rfl y hg
      subst this
      rw [hg] at hx
      cases w0 with
      | false => cases hx; rfl
      | true =>
        have hx : g1 W = some x := hx
        rw [Bool.true_and]
        exact hw1 rfl (by rw [hg, rb_some]) x hx
  obtain ⟨w, hw, s3⟩ := h2 L R X lv b _ h3
  refine ⟨w, hw, ?_⟩
  cases lv <;> cases w0 <;> simp only [Bool.false_and, Bool.true_and, bI_t, bI_f] at s2 s3 <;> cases w1 <;> (try simp only [bI_t, bI_f] at s2 s3) <;> (rw [P_run_eq, bk_193_1, pb_193_1]; simp -implicitDefEqProofs (disch := first | omega | decide) only [P_m, ↓P_run_eq _ 193 _ (p_bk 193 2), bk_193_2, pb_193_2, ↓P_run_eq _ 193 _ (p_bk 193 3), bk_193_3, pb_193_3, ↓P_run_eq _ 193 _ (p_bk 193 4), bk_193_4, pb_193_4, ↓P_run_eq _ 193 _ (p_bk 193 5), bk_193_5, pb_193_5, pw_aload_n0, pw_aloadN_n0, pw_bipush, bl_6, pw_iv2, pw_zeq, pw_iload_n1, pw_iload_n2, pw_iconst, il_1, pw_goto, il_0, pw_nop, pw_istore_n3, ps_3, pe_3, po_i3, po_r3, po_n3, po_u3, pw_iload_n3, pw_istore_n2, ps_2, pe_2, po_i2, po_r2, po_n2, po_u2, kd_123, rf_123_1, rf_123_2, rf_123_3, rf_123_4, rf_123_5, rf_123_7, rf_123_11, rf_123_12, rf_123_15, rf_123_16, rf_123_17, rf_123_26, rf_123_29, rf_123_30, rf_123_32, rf_123_34, rf_123_35, rf_123_45, n_0, n_1, n_6, nn_lt, nn_nlt, nn_le, nn_nle, nn_ne, nn_sub, nn_mul, nI_add, nn_neg, nm_eq, mn_eq, mm_eq, mn_lt, nm_lt, mn_le, nm_le, nn_sub0, nn_of, implies_true, nn_c, nn_in, nn_div, nat_rem, Nat.reduceMul, Nat.reduceSub, Nat.reduceDiv, Nat.reduceMod, pf_at, pf_ne, mk_s, mk_1, Classical.not_not, b2i_T, b2i_F, false_imp_iff, true_imp_iff, false_and, and_false, p_sw, Int.reduceAdd, Int.zero_add, Option.some.injEq, Value.int.injEq, Value.long.injEq, Value.ref.injEq, exists_eq_left', mk_I, mk_L, mk_wI, mk_wL, rf_s, rf_n, true_and, and_true, and_self, or_true, true_or, or_false, false_or, not_true_eq_false, not_false_eq_true, Option.toList_some, Option.toList_none, List.cons_append, List.nil_append, List.map_nil, List.map_cons, List.sum_nil, List.sum_cons, cat_i, cat_l, cat_r, cat_n, Nat.reduceLeDiff, Nat.reduceAdd, Nat.reduceEqDiff, Nat.zero_le, p_ent, p_u_ne, p_u_at, reduceIte, if_true, if_false, bI_t, bI_f, P_ce s1, P_ce s2]; exact P_ls s3 one_l)
theorem evO_ae {D k : Nat} {g0 : tDB} (hE : evH o I i W) (hk : k ≤ 1000) (h6 : ¬ kC (I 125) i k = 6) : evO Ls i I W (D + 2) 193 k k g0 g0 := by
  intro L R X lv b w0 hw0
  have s1 := sp_186f (d := D) (Ls := Ls) (L := L) (R := R) (X := X) (c := 6) (k := k) (b := rb lv b (g0 W)) hE (by omega) (by omega) h6
  refine ⟨w0, hw0, ?_⟩
  cases w0 <;> (rw [P_run_eq, bk_193_1, pb_193_1]; simp -implicitDefEqProofs (disch := first | omega | decide) only [P_m, ↓P_run_eq _ 193 _ (p_bk 193 6), bk_193_6, pb_193_6, pw_aload_n0, pw_aloadN_n0, pw_bipush, bl_6, pw_iv2, pw_zeq, pw_iload_n1, pw_iload_n2, pw_iconst, il_1, pw_goto, pw_ret1, kd_123, rf_123_1, rf_123_2, rf_123_3, rf_123_4, rf_123_5, rf_123_7, rf_123_11, rf_123_12, rf_123_15, rf_123_16, rf_123_17, rf_123_26, rf_123_29, rf_123_30, rf_123_32, rf_123_34, rf_123_35, rf_123_45, n_0, n_1, n_6, nn_lt, nn_nlt, nn_le, nn_nle, nn_ne, nn_sub, nn_mul, nI_add, nn_neg, nm_eq, mn_eq, mm_eq, mn_lt, nm_lt, mn_le, nm_le, nn_sub0, nn_of, implies_true, nn_c, nn_in, nn_div, nat_rem, Nat.reduceMul, Nat.reduceSub, Nat.reduceDiv, Nat.reduceMod, pf_at, pf_ne, mk_s, mk_1, Classical.not_not, b2i_T, b2i_F, false_imp_iff, true_imp_iff, false_and, and_false, p_sw, Int.reduceAdd, Int.zero_add, Option.some.injEq, Value.int.injEq, Value.long.injEq, Value.ref.injEq, exists_eq_left', mk_I, mk_L, mk_wI, mk_wL, rf_s, rf_n, true_and, and_true, and_self, or_true, true_or, or_false, false_or, not_true_eq_false, not_false_eq_true, Option.toList_some, Option.toList_none, List.cons_append, List.nil_append, List.map_nil, List.map_cons, List.sum_nil, List.sum_cons, cat_i, cat_l, cat_r, cat_n, Nat.reduceLeDiff, Nat.reduceAdd, Nat.reduceEqDiff, Nat.zero_le, p_ent, p_u_ne, p_u_at, reduceIte, if_true, if_false, bI_t, bI_f, P_ce s1])
theorem evB_b {D k k1 k2 : Nat} {g1 g2 : tDB} (h : evB Ls i I W D 194 k k1 g1) (h2 : evO Ls i I W (D + 1) 193 k1 k2 g1 g2) : evB Ls i I W (D + 1) 193 k k2 g2 := by
  intro L R X lv b
  obtain ⟨w1, hw1, s1⟩ := h L R X lv b
  obtain ⟨w, hw, s2⟩ := h2 L R X lv b w1 hw1
  refine ⟨w, hw, ?_⟩
  simp -implicitDefEqProofs (disch := first | omega | decide) only [P_m, ↓P_run_eq _ 193 _ (p_bk 193 0), bk_193_0, pb_193_0, pw_aload_n0, pw_aloadN_n0, pw_iload_n1, pw_iv2, pw_istore_n2, ps_2, pe_2, po_i2, po_r2, po_n2, po_u2, pw_nop, kd_123, rf_123_1, rf_123_2, rf_123_3, rf_123_4, rf_123_5, rf_123_7, rf_123_11, rf_123_12, rf_123_15, rf_123_16, rf_123_17, rf_123_26, rf_123_29, rf_123_30, rf_123_32, rf_123_34, rf_123_35, rf_123_45, n_0, n_1, nn_lt, nn_nlt, nn_le, nn_nle, nn_ne, nn_sub, nn_mul, nI_add, nn_neg, nm_eq, mn_eq, mm_eq, mn_lt, nm_lt, mn_le, nm_le, nn_sub0, nn_of, implies_true, nn_c, nn_in, nn_div, nat_rem, Nat.reduceMul, Nat.reduceSub, Nat.reduceDiv, Nat.reduceMod, pf_at, pf_ne, mk_s, mk_1, Classical.not_not, b2i_T, b2i_F, false_imp_iff, true_imp_iff, false_and, and_false, p_sw, Int.reduceAdd, Int.zero_add, Option.some.injEq, Value.int.injEq, Value.long.injEq, Value.ref.injEq, exists_eq_left', mk_I, mk_L, mk_wI, mk_wL, rf_s, rf_n, true_and, and_true, and_self, or_true, true_or, or_false, false_or, not_true_eq_false, not_false_eq_true, Option.toList_some, Option.toList_none, List.cons_append, List.nil_append, List.map_nil, List.map_cons, List.sum_nil, List.sum_cons, cat_i, cat_l, cat_r, cat_n, Nat.reduceLeDiff, Nat.reduceAdd, Nat.reduceEqDiff, Nat.zero_le, p_ent, p_u_ne, p_u_at, reduceIte, if_true, if_false, P_ce s1]
  exact s2
theorem evO_o {D k k1 k2 : Nat} {g0 g1 g2 : tDB} (hE : evH o I i W) (hk : k ≤ 1000) (h5 : kC (I 125) i k = 5) (h : evB Ls i I W (D + 1) 193 (k + 1) k1 g1) (h2 : evO Ls i I W (D + 2) 192 k1 k2 (orD g0 g1) g2) : evO Ls i I W (D + 2) 192 k k2 g0 g2 := by
  intro L R X lv b w0 hw0
  have s1 := sp_186t (d := D) (Ls := Ls) (L := L) (R := R) (X := X) (c := 5) (k := k) (b := rb lv b (g0 W)) hE (by omega) h5
  obtain ⟨w1, hw1, s2⟩ := h L R X (lv && !w0) (rb lv b (g0 W))
  have e1 : rb (lv && !w0) (rb lv b (g0 W)) (g1 W) = rb lv b (orD g0 g1 W) := by
    cases lv with
    | false => simp only [Bool.false_and, rb_ff]
    | true =>
      cases b with
      | true => rfl
      | false =>
        unfold orD
        cases hg : g0 W with
        | none => rfl
        | some x =>
          have := hw0 rfl rfl x hg
          subst this
          rw [rb_some]
          cases w0
          · rfl
          · rfl
  rw [e1] at s2
  have h3 : okw W lv b (orD g0 g1) (w0 || w1) := by
    rintro rfl rfl x hx
    unfold orD at hx
    cases hg : g0 W with
    | none => rw [hg] at hx; cases hx
    | some y =>
      have := hw0 rfl rfl y hg
      subst this
      rw [hg] at hx
      cases w0 with
      | true => cases hx; rfl
      | false =>
        have hx : g1 W = some x := hx
        rw [Bool.false_or]
        exact hw1 rfl (by rw [hg, rb_some]) x hx
  obtain ⟨w, hw, s3⟩ := h2 L R X lv b _ h3
  refine ⟨w, hw, ?_⟩
  cases lv <;> cases w0 <;> simp only [Bool.false_and, Bool.true_and, Bool.not_true, Bool.not_false, Bool.false_or, Bool.true_or, bI_t, bI_f] at s2 s3 <;> cases w1 <;> (try simp only [bI_t, bI_f] at s2 s3) <;> (rw [P_run_eq, bk_192_1, pb_192_1]; simp -implicitDefEqProofs (disch := first | omega | decide) only [P_m, ↓P_run_eq _ 192 _ (p_bk 192 2), bk_192_2, pb_192_2, ↓P_run_eq _ 192 _ (p_bk 192 3), bk_192_3, pb_192_3, ↓P_run_eq _ 192 _ (p_bk 192 4), bk_192_4, pb_192_4, ↓P_run_eq _ 192 _ (p_bk 192 5), bk_192_5, pb_192_5, ↓P_run_eq _ 192 _ (p_bk 192 6), bk_192_6, pb_192_6, pw_aload_n0, pw_aloadN_n0, pw_iconst, il_5, pw_iv2, pw_zeq, pw_iload_n1, pw_iload_n2, pw_zne, il_1, pw_goto, il_0, pw_nop, pw_istore_n3, ps_3, pe_3, po_i3, po_r3, po_n3, po_u3, pw_iload_n3, pw_istore_n2, ps_2, pe_2, po_i2, po_r2, po_n2, po_u2, kd_123, rf_123_1, rf_123_2, rf_123_3, rf_123_4, rf_123_5, rf_123_7, rf_123_11, rf_123_12, rf_123_15, rf_123_16, rf_123_17, rf_123_26, rf_123_29, rf_123_30, rf_123_32, rf_123_34, rf_123_35, rf_123_45, n_0, n_1, n_5, nn_lt, nn_nlt, nn_le, nn_nle, nn_ne, nn_sub, nn_mul, nI_add, nn_neg, nm_eq, mn_eq, mm_eq, mn_lt, nm_lt, mn_le, nm_le, nn_sub0, nn_of, implies_true, nn_c, nn_in, nn_div, nat_rem, Nat.reduceMul, Nat.reduceSub, Nat.reduceDiv, Nat.reduceMod, pf_at, pf_ne, mk_s, mk_1, Classical.not_not, b2i_T, b2i_F, false_imp_iff, true_imp_iff, false_and, and_false, p_sw, Int.reduceAdd, Int.zero_add, Option.some.injEq, Value.int.injEq, Value.long.injEq, Value.ref.injEq, exists_eq_left', mk_I, mk_L, mk_wI, mk_wL, rf_s, rf_n, true_and, and_true, and_self, or_true, true_or, or_false, false_or, not_true_eq_false, not_false_eq_true, Option.toList_some, Option.toList_none, List.cons_append, List.nil_append, List.map_nil, List.map_cons, List.sum_nil, List.sum_cons, cat_i, cat_l, cat_r, cat_n, Nat.reduceLeDiff, Nat.reduceAdd, Nat.reduceEqDiff, Nat.zero_le, p_ent, p_u_ne, p_u_at, reduceIte, if_true, if_false, bI_t, bI_f, P_ce s1, P_ce s2]; exact P_ls s3 one_l)
theorem evO_oe {D k : Nat} {g0 : tDB} (hE : evH o I i W) (hk : k ≤ 1000) (h5 : ¬ kC (I 125) i k = 5) : evO Ls i I W (D + 2) 192 k k g0 g0 := by
  intro L R X lv b w0 hw0
  have s1 := sp_186f (d := D) (Ls := Ls) (L := L) (R := R) (X := X) (c := 5) (k := k) (b := rb lv b (g0 W)) hE (by omega) (by omega) h5
  refine ⟨w0, hw0, ?_⟩
  cases w0 <;> (rw [P_run_eq, bk_192_1, pb_192_1]; simp -implicitDefEqProofs (disch := first | omega | decide) only [P_m, ↓P_run_eq _ 192 _ (p_bk 192 7), bk_192_7, pb_192_7, pw_aload_n0, pw_aloadN_n0, pw_iconst, il_5, pw_iv2, pw_zeq, pw_iload_n1, pw_iload_n2, pw_zne, il_1, pw_goto, pw_ret1, kd_123, rf_123_1, rf_123_2, rf_123_3, rf_123_4, rf_123_5, rf_123_7, rf_123_11, rf_123_12, rf_123_15, rf_123_16, rf_123_17, rf_123_26, rf_123_29, rf_123_30, rf_123_32, rf_123_34, rf_123_35, rf_123_45, n_0, n_1, n_5, nn_lt, nn_nlt, nn_le, nn_nle, nn_ne, nn_sub, nn_mul, nI_add, nn_neg, nm_eq, mn_eq, mm_eq, mn_lt, nm_lt, mn_le, nm_le, nn_sub0, nn_of, implies_true, nn_c, nn_in, nn_div, nat_rem, Nat.reduceMul, Nat.reduceSub, Nat.reduceDiv, Nat.reduceMod, pf_at, pf_ne, mk_s, mk_1, Classical.not_not, b2i_T, b2i_F, false_imp_iff, true_imp_iff, false_and, and_false, p_sw, Int.reduceAdd, Int.zero_add, Option.some.injEq, Value.int.injEq, Value.long.injEq, Value.ref.injEq, exists_eq_left', mk_I, mk_L, mk_wI, mk_wL, rf_s, rf_n, true_and, and_true, and_self, or_true, true_or, or_false, false_or, not_true_eq_false, not_false_eq_true, Option.toList_some, Option.toList_none, List.cons_append, List.nil_append, List.map_nil, List.map_cons, List.sum_nil, List.sum_cons, cat_i, cat_l, cat_r, cat_n, Nat.reduceLeDiff, Nat.reduceAdd, Nat.reduceEqDiff, Nat.zero_le, p_ent, p_u_ne, p_u_at, reduceIte, if_true, if_false, bI_t, bI_f, P_ce s1])
theorem evB_t {D k k1 k2 : Nat} {g1 g2 : tDB} (h : evB Ls i I W D 193 k k1 g1) (h2 : evO Ls i I W (D + 1) 192 k1 k2 g1 g2) : evB Ls i I W (D + 1) 192 k k2 g2 := by
  intro L R X lv b
  obtain ⟨w1, hw1, s1⟩ := h L R X lv b
  obtain ⟨w, hw, s2⟩ := h2 L R X lv b w1 hw1
  refine ⟨w, hw, ?_⟩
  simp -implicitDefEqProofs (disch := first | omega | decide) only [P_m, ↓P_run_eq _ 192 _ (p_bk 192 0), bk_192_0, pb_192_0, pw_aload_n0, pw_aloadN_n0, pw_iload_n1, pw_iv2, pw_istore_n2, ps_2, pe_2, po_i2, po_r2, po_n2, po_u2, pw_nop, kd_123, rf_123_1, rf_123_2, rf_123_3, rf_123_4, rf_123_5, rf_123_7, rf_123_11, rf_123_12, rf_123_15, rf_123_16, rf_123_17, rf_123_26, rf_123_29, rf_123_30, rf_123_32, rf_123_34, rf_123_35, rf_123_45, n_0, n_1, nn_lt, nn_nlt, nn_le, nn_nle, nn_ne, nn_sub, nn_mul, nI_add, nn_neg, nm_eq, mn_eq, mm_eq, mn_lt, nm_lt, mn_le, nm_le, nn_sub0, nn_of, implies_true, nn_c, nn_in, nn_div, nat_rem, Nat.reduceMul, Nat.reduceSub, Nat.reduceDiv, Nat.reduceMod, pf_at, pf_ne, mk_s, mk_1, Classical.not_not, b2i_T, b2i_F, false_imp_iff, true_imp_iff, false_and, and_false, p_sw, Int.reduceAdd, Int.zero_add, Option.some.injEq, Value.int.injEq, Value.long.injEq, Value.ref.injEq, exists_eq_left', mk_I, mk_L, mk_wI, mk_wL, rf_s, rf_n, true_and, and_true, and_self, or_true, true_or, or_false, false_or, not_true_eq_false, not_false_eq_true, Option.toList_some, Option.toList_none, List.cons_append, List.nil_append, List.map_nil, List.map_cons, List.sum_nil, List.sum_cons, cat_i, cat_l, cat_r, cat_n, Nat.reduceLeDiff, Nat.reduceAdd, Nat.reduceEqDiff, Nat.zero_le, p_ent, p_u_ne, p_u_at, reduceIte, if_true, if_false, P_ce s1]
  exact s2
theorem pB_r (hE : evH o I i W) : ∀ n,
    (∀ p d k l c g cs r, pB o (kC (I 125) i) (kV (I 125) i) n 0 p d k l c g cs = some (.ok r) → r.1 ≤ 1000 → l ≤ 50 → d ≤ 8 → ∀ D, 4 * (8 - d) + 10 ≤ D → evN Ls i I W p D k r.1 r.2.2.1) ∧
    (∀ p d k l c g cs r, pB o (kC (I 125) i) (kV (I 125) i) n 1 p d k l c g cs = some (.ok r) → r.1 ≤ 1000 → l ≤ 50 → d ≤ 8 → ∀ D, 4 * (8 - d) + 12 ≤ D → evB Ls i I W D 192 k r.1 r.2.2.1) ∧
    (∀ p d k l c g cs r nd, gB (nw o) c cs g nd → pB o (kC (I 125) i) (kV (I 125) i) n 2 p d k l c g cs = some (.ok r) → r.1 ≤ 1000 → l ≤ 50 → d ≤ 8 → ∀ D, 4 * (8 - d) + 11 ≤ D → evO Ls i I W D 193 k r.1 g r.2.2.1) ∧
    (∀ p d k l c g cs r nd, gB (nw o) c cs g nd → pB o (kC (I 125) i) (kV (I 125) i) n 3 p d k l c g cs = some (.ok r) → r.1 ≤ 1000 → l ≤ 50 → d ≤ 8 → ∀ D, 4 * (8 - d) + 12 ≤ D → evO Ls i I W D 192 k r.1 g r.2.2.1)
  | 0 => ⟨fun _ _ _ _ _ _ _ _ h => (by cases h), fun _ _ _ _ _ _ _ _ h => (by cases h), fun _ _ _ _ _ _ _ _ _ _ h => (by cases h), fun _ _ _ _ _ _ _ _ _ _ h => (by cases h)⟩
  | n + 1 => by
    obtain ⟨i0, i1, i2, i3⟩ := pB_r hE n
    obtain ⟨j0, j1, j2, j3⟩ := pB_g (o := o) (C := kC (I 125) i) (V := kV (I 125) i) n
    have s1 := (pS_g (o := o) (C := kC (I 125) i) (V := kV (I 125) i) n).2.1
    have t1 := (pS_r (Ls := Ls) hE n).2.1
    refine ⟨fun p d k l c g cs r h hr hl hd D hD => ?_, fun p d k l c g cs r h hr hl hd D hD => ?_, fun p d k l c g cs r nd hg h hr hl hd D hD => ?_, fun p d k l c g cs r nd hg h hr hl hd D hD => ?_⟩
    · have kr := ((pB_g (o := o) (C := kC (I 125) i) (V := kV (I 125) i) (n + 1)).1 _ _ _ _ _ _ _ _ h).2.2.2.1
      unfold pB at h
      obtain ⟨D', rfl⟩ : ∃ D', D = D' + 3 := ⟨D - 3, by omega⟩
      split at h
      · rename_i h7
        exact evN_n hE (by omega) h7 (i0 _ _ _ _ _ _ _ _ h hr hl hd _ hD)
      rename_i h7
      split at h
      · rename_i h140
        split at h
        · cases h
        · rename_i h8
          obtain ⟨a, e1, e2⟩ := bnd_iok h
          obtain ⟨g1, g2, g3, g4, g5⟩ := j1 _ _ _ _ _ _ _ _ e1
          split at e2
          · cases e2
            have hr : a.1 + 1 ≤ 1000 := hr
            exact evN_p (D := D' + 1) hE (by omega) h7 (sp_195b hE (by omega) (by omega) h140 (i1 _ _ _ _ _ _ _ _ e1 (by omega) hl (by omega) _ (by omega)))
          · cases e2
      · rename_i h140
        obtain ⟨a, e1, e2⟩ := bnd_iok h
        obtain ⟨g1, g2, g3, g4, g5⟩ := s1 _ _ _ _ _ _ e1
        split at e2
        · cases e2
        · rename_i hm
          obtain ⟨b, e3, e4⟩ := bnd_iok e2
          obtain ⟨g6, g7, g8, g9, g10⟩ := s1 _ _ _ _ _ _ e3
          cases e4
          have hr : b.1 ≤ 1000 := hr
          exact evN_p (D := D' + 1) hE (by omega) h7 (sp_195c hE (by omega) (by omega) h140 hm g1.2.1 g6.2.1 (t1 _ _ _ _ _ _ e1 (by omega) hl hd _ (by omega)) (t1 _ _ _ _ _ _ e3 hr g3 hd _ (by omega)))
    · unfold pB at h
      obtain ⟨a, e1, e2⟩ := bnd_iok h
      obtain ⟨b, e3, e4⟩ := bnd_iok e2
      obtain ⟨g1, g2, g3, g4, g5⟩ := j0 _ _ _ _ _ _ _ _ e1
      obtain ⟨g6, g7, g8, g9, g10⟩ := j2 _ _ _ _ _ _ _ _ _ g3 g1 e3
      obtain ⟨g11, g12, g13, g14, g15⟩ := j3 _ _ _ _ _ _ _ _ _ g8 g6 e4
      obtain ⟨D', rfl⟩ : ∃ D', D = D' + 2 := ⟨D - 2, by omega⟩
      have u0 := i0 _ _ _ _ _ _ _ _ e1 (by omega) hl hd D' (by omega)
      have u1 := i2 _ _ _ _ _ _ _ _ _ g1 e3 (by omega) g3 hd (D' + 1) (by omega)
      have u2 := i3 _ _ _ _ _ _ _ _ _ g6 e4 hr g8 hd (D' + 2) (by omega)
      exact evB_t (evB_b (evB_p u0) u1) u2
    · unfold pB at h
      obtain ⟨D', rfl⟩ : ∃ D', D = D' + 2 := ⟨D - 2, by omega⟩
      split at h
      · rename_i h6
        obtain ⟨a, e1, e2⟩ := bnd_iok h
        obtain ⟨g1, g2, g3, g4, g5⟩ := j0 _ _ _ _ _ _ _ _ e1
        obtain ⟨h1, h2, h3⟩ := hg
        obtain ⟨h4, h5, h6'⟩ := g1
        have gg : gB (nw o) c (cs ++ ((3, c + cs.length + 1 + a.2.2.2.length) :: a.2.2.2)) (andD g a.2.2.1) (nd + (a.2.1 - l)) := ⟨by omega, CB_and h1 h2 h5, CB_andp h1 h3 h6'⟩
        obtain ⟨g6, g7, g8, g9, g10⟩ := j2 _ _ _ _ _ _ _ _ _ g3 gg e2
        exact evO_a hE (by omega) h6 (evB_p (i0 _ _ _ _ _ _ _ _ e1 (by omega) hl hd _ (by omega))) (i2 _ _ _ _ _ _ _ _ _ gg e2 hr g3 hd _ hD)
      · rename_i h6
        cases h
        exact evO_ae hE hr h6
    · unfold pB at h
      obtain ⟨D', rfl⟩ : ∃ D', D = D' + 2 := ⟨D - 2, by omega⟩
      split at h
      · rename_i h5'
        obtain ⟨a, e1, e2⟩ := bnd_iok h
        obtain ⟨b, e3, e4⟩ := bnd_iok e2
        obtain ⟨g1, g2, g3, g4, g5⟩ := j0 _ _ _ _ _ _ _ _ e1
        obtain ⟨g6, g7, g8, g9, g10⟩ := j2 _ _ _ _ _ _ _ _ _ g3 g1 e3
        obtain ⟨h1, h2, h3⟩ := hg
        obtain ⟨h4, h5, h6⟩ := g6
        have gg : gB (nw o) c (cs ++ ((4, c + cs.length + 1 + b.2.2.2.length) :: b.2.2.2)) (orD g b.2.2.1) (nd + (a.2.1 - l + (b.2.1 - a.2.1))) := ⟨by omega, CB_or h1 h2 h5, CB_orp h1 h3 h6⟩
        obtain ⟨g11, g12, g13, g14, g15⟩ := j3 _ _ _ _ _ _ _ _ _ g8 gg e4
        exact evO_o hE (by omega) h5' (evB_b (evB_p (i0 _ _ _ _ _ _ _ _ e1 (by omega) hl hd _ (by omega))) (i2 _ _ _ _ _ _ _ _ _ g1 e3 (by omega) g3 hd _ (by omega))) (i3 _ _ _ _ _ _ _ _ _ gg e4 hr g8 hd _ hD)
      · rename_i h5'
        cases h
        exact evO_oe hE hr h5'
end TL
