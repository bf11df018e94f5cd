section SL
variable {d Ls i : Nat} {I : Nat → Nat → Int32} {L : Nat → Nat → Int64} {R : Nat → Nat → Option Nat} {X : List pKd} {W : Nat → Int32} {o : Bool} {Q : Option Value → pHp → Prop}
theorem st_188 {k k1 : Nat} {lv b0 b1 : Bool} {x y : Int} {r : List Value} (hr : r = [] ∨ ∃ u w, r = [.int u, .long w, .retAddr 0]) (hE : evH o I i W) (hk : k ≤ 1000) (hc : ¬ addOp (kC (I 125) i k) = 0) (hx : inB x) (hy : inB y)
    (hp : P_m d 189 [.ref 123, .int (bI lv)] (p_mk Ls (EV I (400 * i + (k + 1)) b0) L R X) (fun v h' => v = some (.long (lI y)) ∧ h' = p_mk Ls (EV I (400 * i + k1) b1) L R X))
    (H : ∀ u w, P_run (d + 1) 188 (p_bk 188 1) 0 0 [.ref 123, .int (bI lv), .long (lI (stV (addOp (kC (I 125) i k)) lv b1 x y)), .retAddr 0, .int u, .long w, .retAddr 0] [] (p_mk Ls (EV I (400 * i + k1) (stB (addOp (kC (I 125) i k)) lv b1 x y)) L R X) Q) :
    P_run (d + 1) 188 (p_bk 188 1) 0 0 (.ref 123 :: .int (bI lv) :: .long (lI x) :: .retAddr 0 :: r) [] (p_mk Ls (EV I (400 * i + k) b0) L R X) Q := by
  have e9 : 400 * i + k + 1 = 400 * i + (k + 1) := by omega
  have h2 := hE.2.1
  have s2 := sp_185 (d := d) (Ls := Ls) (L := L) (R := R) (X := X) (g := 400 * i + k) (b := b0) hE (k := k) (by omega)
  have hB1 := fun p => opx_in (p := p) hx hy
  have b3 := fun p => sp_187 (d := d) (Ls := Ls) (I := I) (L := L) (R := R) (X := X) (g := 400 * i + k1) (b := b1) (lv := lv) (hB1 p).1 (hB1 p).2
  have : kC (I 125) i k = 143 ∨ kC (I 125) i k = 145 := by
    unfold addOp at hc
    repeat' split at hc
    all_goals first | (exact absurd rfl hc) | omega
  rcases this with e | e
  · rw [e] at s2 H
    have b5 := b3 5
    have H : ∀ u w, P_run (d + 1) 188 (p_bk 188 1) 0 0 [.ref 123, .int (bI lv), .long (lI (if rb lv b1 (bd (opx 5 x y)) = true then 0 else opx 5 x y)), .retAddr 0, .int u, .long w, .retAddr 0] [] (p_mk Ls (EV I (400 * i + k1) (rb lv b1 (bd (opx 5 x y)))) L R X) Q := H
    have ox : opx 5 x y = x + y := rfl
    rw [ox] at b5 H
    rcases hr with rfl | ⟨u, w, rfl⟩ <;> (rw [P_run_eq, bk_188_1, pb_188_1]; simp -implicitDefEqProofs (disch := first | omega | decide) only [P_m, ↓P_run_eq _ 188 _ (p_bk 188 2), bk_188_2, pb_188_2, ↓P_run_eq _ 188 _ (p_bk 188 3), bk_188_3, pb_188_3, ↓P_run_eq _ 188 _ (p_bk 188 4), bk_188_4, pb_188_4, ↓P_run_eq _ 188 _ (p_bk 188 5), bk_188_5, pb_188_5, ↓P_run_eq _ 188 _ (p_bk 188 6), bk_188_6, pb_188_6, pw_aload_n0, pw_aloadN_n0, pw_getI, pw_iv2, pw_bipush, bl_43, pw_is1, pw_ceq, bl_45, pw_cne, pw_nop, pw_iconst, il_1, pw_goto, il_0, pw_istore, ps_4, pe_4, po_i4, po_r4, po_n4, po_u4, pw_dupi, pw_dupr, pw_iadd, pw_putI, pw_iload_n1, pw_lstore, ps_5, pe_5, po_i5, po_r5, po_n5, po_u5, ps_6, pe_6, po_i6, po_r6, po_n6, po_u6, pw_iload_4, pw_zeq, pw_lload_n2, pw_lload_5, pw_ladd, pw_lsub, pw_iv3, pw_lstore_n2, ps_2, pe_2, po_i2, po_r2, po_n2, po_u2, ps_3, pe_3, po_i3, po_r3, po_n3, po_u3, kd_123, rf_123_1, rf_123_2, rf_123_3, rf_123_4, rf_123_5, rf_123_7, rf_123_11, rf_123_12, rf_123_15, rf_123_16, rf_123_17, rf_123_26, rf_123_29, rf_123_30, rf_123_32, rf_123_34, rf_123_35, rf_123_45, n_0, n_1, n_43, n_45, nn_lt, nn_nlt, nn_le, nn_nle, nn_ne, nn_sub, nn_mul, nI_add, nn_neg, nm_eq, mn_eq, mm_eq, mn_lt, nm_lt, mn_le, nm_le, nn_sub0, nn_of, implies_true, nn_c, nn_in, nn_div, nat_rem, Nat.reduceMul, Nat.reduceSub, Nat.reduceDiv, Nat.reduceMod, pf_at, pf_ne, mk_s, mk_1, Classical.not_not, b2i_T, b2i_F, false_imp_iff, true_imp_iff, false_and, and_false, p_sw, Int.reduceAdd, Int.zero_add, Option.some.injEq, Value.int.injEq, Value.long.injEq, Value.ref.injEq, exists_eq_left', mk_I, mk_L, mk_wI, mk_wL, rf_s, rf_n, true_and, and_true, and_self, or_true, true_or, or_false, false_or, not_true_eq_false, not_false_eq_true, Option.toList_some, Option.toList_none, List.cons_append, List.nil_append, List.map_nil, List.map_cons, List.sum_nil, List.sum_cons, cat_i, cat_l, cat_r, cat_n, Nat.reduceLeDiff, Nat.reduceAdd, Nat.reduceEqDiff, Nat.zero_le, p_ent, p_u_ne, p_u_at, reduceIte, if_true, if_false, ev_go, e9, ev_wg, P_ce s2, P_ce (sp_167 (c := 43)), P_ce (sp_167 (c := 45)), P_ce hp, lI_add, lI_sub, P_ce b5]; exact H _ _)
  · rw [e] at s2 H
    have b5 := b3 6
    have H : ∀ u w, P_run (d + 1) 188 (p_bk 188 1) 0 0 [.ref 123, .int (bI lv), .long (lI (if rb lv b1 (bd (opx 6 x y)) = true then 0 else opx 6 x y)), .retAddr 0, .int u, .long w, .retAddr 0] [] (p_mk Ls (EV I (400 * i + k1) (rb lv b1 (bd (opx 6 x y)))) L R X) Q := H
    have ox : opx 6 x y = x - y := rfl
    rw [ox] at b5 H
    rcases hr with rfl | ⟨u, w, rfl⟩ <;> (rw [P_run_eq, bk_188_1, pb_188_1]; simp -implicitDefEqProofs (disch := first | omega | decide) only [P_m, ↓P_run_eq _ 188 _ (p_bk 188 2), bk_188_2, pb_188_2, ↓P_run_eq _ 188 _ (p_bk 188 3), bk_188_3, pb_188_3, ↓P_run_eq _ 188 _ (p_bk 188 4), bk_188_4, pb_188_4, ↓P_run_eq _ 188 _ (p_bk 188 5), bk_188_5, pb_188_5, ↓P_run_eq _ 188 _ (p_bk 188 6), bk_188_6, pb_188_6, pw_aload_n0, pw_aloadN_n0, pw_getI, pw_iv2, pw_bipush, bl_43, pw_is1, pw_ceq, bl_45, pw_cne, pw_nop, pw_iconst, il_1, pw_goto, il_0, pw_istore, ps_4, pe_4, po_i4, po_r4, po_n4, po_u4, pw_dupi, pw_dupr, pw_iadd, pw_putI, pw_iload_n1, pw_lstore, ps_5, pe_5, po_i5, po_r5, po_n5, po_u5, ps_6, pe_6, po_i6, po_r6, po_n6, po_u6, pw_iload_4, pw_zeq, pw_lload_n2, pw_lload_5, pw_ladd, pw_lsub, pw_iv3, pw_lstore_n2, ps_2, pe_2, po_i2, po_r2, po_n2, po_u2, ps_3, pe_3, po_i3, po_r3, po_n3, po_u3, kd_123, rf_123_1, rf_123_2, rf_123_3, rf_123_4, rf_123_5, rf_123_7, rf_123_11, rf_123_12, rf_123_15, rf_123_16, rf_123_17, rf_123_26, rf_123_29, rf_123_30, rf_123_32, rf_123_34, rf_123_35, rf_123_45, n_0, n_1, n_43, n_45, nn_lt, nn_nlt, nn_le, nn_nle, nn_ne, nn_sub, nn_mul, nI_add, nn_neg, nm_eq, mn_eq, mm_eq, mn_lt, nm_lt, mn_le, nm_le, nn_sub0, nn_of, implies_true, nn_c, nn_in, nn_div, nat_rem, Nat.reduceMul, Nat.reduceSub, Nat.reduceDiv, Nat.reduceMod, pf_at, pf_ne, mk_s, mk_1, Classical.not_not, b2i_T, b2i_F, false_imp_iff, true_imp_iff, false_and, and_false, p_sw, Int.reduceAdd, Int.zero_add, Option.some.injEq, Value.int.injEq, Value.long.injEq, Value.ref.injEq, exists_eq_left', mk_I, mk_L, mk_wI, mk_wL, rf_s, rf_n, true_and, and_true, and_self, or_true, true_or, or_false, false_or, not_true_eq_false, not_false_eq_true, Option.toList_some, Option.toList_none, List.cons_append, List.nil_append, List.map_nil, List.map_cons, List.sum_nil, List.sum_cons, cat_i, cat_l, cat_r, cat_n, Nat.reduceLeDiff, Nat.reduceAdd, Nat.reduceEqDiff, Nat.zero_le, p_ent, p_u_ne, p_u_at, reduceIte, if_true, if_false, ev_go, e9, ev_wg, P_ce s2, P_ce (sp_167 (c := 43)), P_ce (sp_167 (c := 45)), P_ce hp, lI_add, lI_sub, P_ce b5]; exact H _ _)
theorem en_188 {k : Nat} {lv b0 : Bool} {x : Int} {r : List Value} (hr : r = [] ∨ ∃ u w, r = [.int u, .long w, .retAddr 0]) (hE : evH o I i W) (hk : k ≤ 1000) (hc : addOp (kC (I 125) i k) = 0) (H : Q (some (.long (lI x))) (p_mk Ls (EV I (400 * i + k) b0) L R X)) :
    P_run (d + 1) 188 (p_bk 188 1) 0 0 (.ref 123 :: .int (bI lv) :: .long (lI x) :: .retAddr 0 :: r) [] (p_mk Ls (EV I (400 * i + k) b0) L R X) Q := by
  have h2 := hE.2.1
  have hle := kC_le hE.1 k
  have s2 := sp_185 (d := d) (Ls := Ls) (L := L) (R := R) (X := X) (g := 400 * i + k) (b := b0) hE (k := k) (by omega)
  obtain ⟨n1, n2⟩ : ¬ kC (I 125) i k = 143 ∧ ¬ kC (I 125) i k = 145 := by
    refine ⟨fun e => ?_, fun e => ?_⟩ <;> (rw [e] at hc; exact absurd hc (by decide))
  generalize kC (I 125) i k = c at *
  rcases hr with rfl | ⟨u, w, rfl⟩ <;> (rw [P_run_eq, bk_188_1, pb_188_1]; simp -implicitDefEqProofs (disch := first | omega | decide) only [P_m, ↓P_run_eq _ 188 _ (p_bk 188 7), bk_188_7, pb_188_7, pw_aload_n0, pw_aloadN_n0, pw_getI, pw_iv2, pw_bipush, bl_43, pw_is1, pw_ceq, bl_45, pw_cne, pw_nop, pw_lload_n2, pw_lret, kd_123, rf_123_1, rf_123_2, rf_123_3, rf_123_4, rf_123_5, rf_123_7, rf_123_11, rf_123_12, rf_123_15, rf_123_16, rf_123_17, rf_123_26, rf_123_29, rf_123_30, rf_123_32, rf_123_34, rf_123_35, rf_123_45, n_0, n_1, n_43, n_45, nn_lt, nn_nlt, nn_le, nn_nle, nn_ne, nn_sub, nn_mul, nI_add, nn_neg, nm_eq, mn_eq, mm_eq, mn_lt, nm_lt, mn_le, nm_le, nn_sub0, nn_of, implies_true, nn_c, nn_in, nn_div, nat_rem, Nat.reduceMul, Nat.reduceSub, Nat.reduceDiv, Nat.reduceMod, pf_at, pf_ne, mk_s, mk_1, Classical.not_not, b2i_T, b2i_F, false_imp_iff, true_imp_iff, false_and, and_false, p_sw, Int.reduceAdd, Int.zero_add, Option.some.injEq, Value.int.injEq, Value.long.injEq, Value.ref.injEq, exists_eq_left', mk_I, mk_L, mk_wI, mk_wL, rf_s, rf_n, true_and, and_true, and_self, or_true, true_or, or_false, false_or, not_true_eq_false, not_false_eq_true, Option.toList_some, Option.toList_none, List.cons_append, List.nil_append, List.map_nil, List.map_cons, List.sum_nil, List.sum_cons, cat_i, cat_l, cat_r, cat_n, Nat.reduceLeDiff, Nat.reduceAdd, Nat.reduceEqDiff, Nat.zero_le, p_ent, p_u_ne, p_u_at, reduceIte, if_true, if_false, ev_go, P_ce s2, P_ce (sp_167 (c := 43)), P_ce (sp_167 (c := 45))]; exact H)
/-- what the reference's methods for sums answer: y the method, f the sum, from k to k' -/
def evS (Ls i : Nat) (I : Nat → Nat → Int32) (W : Nat → Int32) (D y k k' : Nat) (f : tDS) : Prop := ∀ (L : Nat → Nat → Int64) (R : Nat → Nat → Option Nat) (X : List pKd) (lv b : Bool), P_m D y [.ref 123, .int (bI lv)] (p_mk Ls (EV I (400 * i + k) b) L R X) (fun v h' => v = some (.long (lI (rv lv b (f W)))) ∧ h' = p_mk Ls (EV I (400 * i + k') (rb lv b (f W))) L R X)
/-- and their loops, behind what was read -/
def evL (Ls i : Nat) (I : Nat → Nat → Int32) (W : Nat → Int32) (D y k k' : Nat) (f0 f : tDS) : Prop := ∀ (L : Nat → Nat → Int64) (R : Nat → Nat → Option Nat) (X : List pKd) (lv b : Bool) (r : List Value), (r = [] ∨ ∃ u w, r = [.int u, .long w, .retAddr 0]) → P_run D y (p_bk y 1) 0 0 (.ref 123 :: .int (bI lv) :: .long (lI (rv lv b (f0 W))) :: .retAddr 0 :: r) [] (p_mk Ls (EV I (400 * i + k) (rb lv b (f0 W))) L R X) (fun v h' => v = some (.long (lI (rv lv b (f W)))) ∧ h' = p_mk Ls (EV I (400 * i + k') (rb lv b (f W))) L R X)
theorem evS_up {D D' y k k' : Nat} {f : tDS} (h : evS Ls i I W D y k k' f) (hd : D ≤ D') : evS Ls i I W D' y k k' f := fun L R X lv b => P_mup (h L R X lv b) hd
theorem evT {D k k1 k2 : Nat} {f g : tDS} (h1 : evS Ls i I W D 190 k k1 f) (h2 : evL Ls i I W (D + 1) 189 k1 k2 f g) : evS Ls i I W (D + 1) 189 k k2 g := by
  intro L R X lv b
  have s := h1 L R X lv b
  simp -implicitDefEqProofs (disch := first | omega | decide) only [P_m, ↓P_run_eq _ 189 _ (p_bk 189 0), bk_189_0, pb_189_0, pw_aload_n0, pw_aloadN_n0, pw_iload_n1, pw_iv2, pw_lstore_n2, ps_2, pe_2, po_i2, po_r2, po_n2, po_u2, ps_3, pe_3, po_i3, po_r3, po_n3, po_u3, pw_nop, kd_123, rf_123_1, rf_123_2, rf_123_3, rf_123_4, rf_123_5, rf_123_7, rf_123_11, rf_123_12, rf_123_15, rf_123_16, rf_123_17, rf_123_26, rf_123_29, rf_123_30, rf_123_32, rf_123_34, rf_123_35, rf_123_45, n_0, n_1, nn_lt, nn_nlt, nn_le, nn_nle, nn_ne, nn_sub, nn_mul, nI_add, nn_neg, nm_eq, mn_eq, mm_eq, mn_lt, nm_lt, mn_le, nm_le, nn_sub0, nn_of, implies_true, nn_c, nn_in, nn_div, nat_rem, Nat.reduceMul, Nat.reduceSub, Nat.reduceDiv, Nat.reduceMod, pf_at, pf_ne, mk_s, mk_1, Classical.not_not, b2i_T, b2i_F, false_imp_iff, true_imp_iff, false_and, and_false, p_sw, Int.reduceAdd, Int.zero_add, Option.some.injEq, Value.int.injEq, Value.long.injEq, Value.ref.injEq, exists_eq_left', mk_I, mk_L, mk_wI, mk_wL, rf_s, rf_n, true_and, and_true, and_self, or_true, true_or, or_false, false_or, not_true_eq_false, not_false_eq_true, Option.toList_some, Option.toList_none, List.cons_append, List.nil_append, List.map_nil, List.map_cons, List.sum_nil, List.sum_cons, cat_i, cat_l, cat_r, cat_n, Nat.reduceLeDiff, Nat.reduceAdd, Nat.reduceEqDiff, Nat.zero_le, p_ent, p_u_ne, p_u_at, reduceIte, if_true, if_false, P_ce s]
  exact h2 L R X lv b [] (Or.inl rfl)
theorem evU {D k k1 k2 : Nat} {f g : tDS} (h1 : evS Ls i I W D 189 k k1 f) (h2 : evL Ls i I W (D + 1) 188 k1 k2 f g) : evS Ls i I W (D + 1) 188 k k2 g := by
  intro L R X lv b
  have s := h1 L R X lv b
  simp -implicitDefEqProofs (disch := first | omega | decide) only [P_m, ↓P_run_eq _ 188 _ (p_bk 188 0), bk_188_0, pb_188_0, pw_aload_n0, pw_aloadN_n0, pw_iload_n1, pw_iv2, pw_lstore_n2, ps_2, pe_2, po_i2, po_r2, po_n2, po_u2, ps_3, pe_3, po_i3, po_r3, po_n3, po_u3, pw_nop, kd_123, rf_123_1, rf_123_2, rf_123_3, rf_123_4, rf_123_5, rf_123_7, rf_123_11, rf_123_12, rf_123_15, rf_123_16, rf_123_17, rf_123_26, rf_123_29, rf_123_30, rf_123_32, rf_123_34, rf_123_35, rf_123_45, n_0, n_1, nn_lt, nn_nlt, nn_le, nn_nle, nn_ne, nn_sub, nn_mul, nI_add, nn_neg, nm_eq, mn_eq, mm_eq, mn_lt, nm_lt, mn_le, nm_le, nn_sub0, nn_of, implies_true, nn_c, nn_in, nn_div, nat_rem, Nat.reduceMul, Nat.reduceSub, Nat.reduceDiv, Nat.reduceMod, pf_at, pf_ne, mk_s, mk_1, Classical.not_not, b2i_T, b2i_F, false_imp_iff, true_imp_iff, false_and, and_false, p_sw, Int.reduceAdd, Int.zero_add, Option.some.injEq, Value.int.injEq, Value.long.injEq, Value.ref.injEq, exists_eq_left', mk_I, mk_L, mk_wI, mk_wL, rf_s, rf_n, true_and, and_true, and_self, or_true, true_or, or_false, false_or, not_true_eq_false, not_false_eq_true, Option.toList_some, Option.toList_none, List.cons_append, List.nil_append, List.map_nil, List.map_cons, List.sum_nil, List.sum_cons, cat_i, cat_l, cat_r, cat_n, Nat.reduceLeDiff, Nat.reduceAdd, Nat.reduceEqDiff, Nat.zero_le, p_ent, p_u_ne, p_u_at, reduceIte, if_true, if_false, P_ce s]
  exact h2 L R X lv b [] (Or.inl rfl)
/-- SUMS: the reference tells what they mean -/
theorem pS_r (hE : evH o I i W) : ∀ n,
    (∀ d k l f cs r, pS o (kC (I 125) i) (kV (I 125) i) n 0 d k l f cs = some (.ok r) → r.1 ≤ 1000 → l ≤ 50 → d ≤ 8 → ∀ D, 3 * (8 - d) + 4 ≤ D → evS Ls i I W D 190 k r.1 r.2.2.1) ∧
    (∀ d k l f cs r, pS o (kC (I 125) i) (kV (I 125) i) n 1 d k l f cs = some (.ok r) → r.1 ≤ 1000 → l ≤ 50 → d ≤ 8 → ∀ D, 3 * (8 - d) + 6 ≤ D → evS Ls i I W D 188 k r.1 r.2.2.1) ∧
    (∀ d k l f cs r nd, gS (nw o) cs f nd → pS o (kC (I 125) i) (kV (I 125) i) n 2 d k l f cs = some (.ok r) → r.1 ≤ 1000 → l ≤ 50 → d ≤ 8 → ∀ D, 3 * (8 - d) + 5 ≤ D → evL Ls i I W D 189 k r.1 f r.2.2.1) ∧
    (∀ d k l f cs r nd, gS (nw o) cs f nd → pS o (kC (I 125) i) (kV (I 125) i) n 3 d k l f cs = some (.ok r) → r.1 ≤ 1000 → l ≤ 50 → d ≤ 8 → ∀ D, 3 * (8 - d) + 6 ≤ D → evL Ls i I W D 188 k r.1 f r.2.2.1)
  | 0 => ⟨fun _ _ _ _ _ _ h => (by cases h), fun _ _ _ _ _ _ h => (by cases h), fun _ _ _ _ _ _ _ _ h => (by cases h), fun _ _ _ _ _ _ _ _ h => (by cases h)⟩
  | n + 1 => by
    obtain ⟨i0, i1, i2, i3⟩ := pS_r hE n
    obtain ⟨j0, j1, j2, j3⟩ := pS_g (o := o) (C := kC (I 125) i) (V := kV (I 125) i) n
    have hW := hE.2.2.2.2.2
    have h2i := hE.2.1
    refine ⟨fun d k l f cs r h hr hl hd D hD => ?_, fun d k l f cs r h hr hl hd D hD => ?_, fun d k l f cs r nd hg h hr hl hd D hD => ?_, fun d k l f cs r nd hg h hr hl hd D hD => ?_⟩
    · unfold pS at h
      split at h
      · rename_i h191
        split at h
        · cases h
        · rename_i h8
          obtain ⟨a, e1, e2⟩ := bnd_iok h
          split at e2
          · rename_i h193
            cases e2
            have hr : a.1 + 1 ≤ 1000 := hr
            obtain ⟨D', rfl⟩ : ∃ D', D = D' + 2 := ⟨D - 2, by omega⟩
            have s := i1 _ _ _ _ _ _ e1 (by omega) hl (by omega) (D' + 1) (by omega)
            obtain ⟨-, -, -, g4, -⟩ := j1 _ _ _ _ _ _ e1
            intro L R X lv b
            have s1 := sp_186t (d := D') (Ls := Ls) (L := L) (R := R) (X := X) (c := 191) (k := k) (b := b) hE (by omega) h191
            have s2 := s L R X lv b
            have e9 : 400 * i + a.1 + 1 = 400 * i + (a.1 + 1) := by omega
            simp -implicitDefEqProofs (disch := first | omega | decide) only [P_m, ↓P_run_eq _ 190 _ (p_bk 190 0), bk_190_0, pb_190_0, pw_aload_n0, pw_aloadN_n0, pw_bipush, bl_91, pw_is1, pw_iv2, pw_zeq, pw_iload_n1, pw_lstore_n2, ps_2, pe_2, po_i2, po_r2, po_n2, po_u2, ps_3, pe_3, po_i3, po_r3, po_n3, po_u3, pw_dupi, pw_dupr, pw_getI, pw_iconst, il_1, pw_iadd, pw_putI, pw_lload_n2, pw_lret, kd_123, rf_123_1, rf_123_2, rf_123_3, rf_123_4, rf_123_5, rf_123_7, rf_123_11, rf_123_12, rf_123_15, rf_123_16, rf_123_17, rf_123_26, rf_123_29, rf_123_30, rf_123_32, rf_123_34, rf_123_35, rf_123_45, n_0, n_1, n_91, nn_lt, nn_nlt, nn_le, nn_nle, nn_ne, nn_sub, nn_mul, nI_add, nn_neg, nm_eq, mn_eq, mm_eq, mn_lt, nm_lt, mn_le, nm_le, nn_sub0, nn_of, implies_true, nn_c, nn_in, nn_div, nat_rem, Nat.reduceMul, Nat.reduceSub, Nat.reduceDiv, Nat.reduceMod, pf_at, pf_ne, mk_s, mk_1, Classical.not_not, b2i_T, b2i_F, false_imp_iff, true_imp_iff, false_and, and_false, p_sw, Int.reduceAdd, Int.zero_add, Option.some.injEq, Value.int.injEq, Value.long.injEq, Value.ref.injEq, exists_eq_left', mk_I, mk_L, mk_wI, mk_wL, rf_s, rf_n, true_and, and_true, and_self, or_true, true_or, or_false, false_or, not_true_eq_false, not_false_eq_true, Option.toList_some, Option.toList_none, List.cons_append, List.nil_append, List.map_nil, List.map_cons, List.sum_nil, List.sum_cons, cat_i, cat_l, cat_r, cat_n, Nat.reduceLeDiff, Nat.reduceAdd, Nat.reduceEqDiff, Nat.zero_le, p_ent, p_u_ne, p_u_at, reduceIte, if_true, if_false, P_ce (sp_167 (c := 91)), P_ce s1, P_ce s2, ev_go, ev_wg, e9]
          · cases e2
      · rename_i h191
        obtain ⟨D', rfl⟩ : ∃ D', D = D' + 4 := ⟨D - 4, by omega⟩
        intro L R X lv b
        exact pLf_r hE h hr h191
    · unfold pS at h
      obtain ⟨a, e1, e2⟩ := bnd_iok h
      obtain ⟨c, e3, e4⟩ := bnd_iok e2
      obtain ⟨g1, g2, g3, g4, g5⟩ := j0 _ _ _ _ _ _ e1
      obtain ⟨g6, g7, g8, g9, g10⟩ := j2 _ _ _ _ _ _ _ g3 g1 e3
      obtain ⟨g11, g12, g13, g14, g15⟩ := j3 _ _ _ _ _ _ _ g8 g6 e4
      obtain ⟨D', rfl⟩ : ∃ D', D = D' + 2 := ⟨D - 2, by omega⟩
      have s0 := i0 _ _ _ _ _ _ e1 (by omega) hl hd D' (by omega)
      have s1 := i2 _ _ _ _ _ _ _ g1 e3 (by omega) g3 hd (D' + 1) (by omega)
      have s2 := i3 _ _ _ _ _ _ _ g6 e4 hr g8 hd (D' + 2) (by omega)
      exact evU (evT s0 s1) s2
    · unfold pS at h
      obtain ⟨D', rfl⟩ : ∃ D', D = D' + 1 := ⟨D - 1, by omega⟩
      split at h
      · rename_i hm
        cases h
        intro L R X lv b r9 hr9
        exact en_189 hr9 hE hr hm ⟨rfl, rfl⟩
      · rename_i hm
        obtain ⟨a, e1, e2⟩ := bnd_iok h
        obtain ⟨g1, g2, g3, g4, g5⟩ := j0 _ _ _ _ _ _ e1
        obtain ⟨m1, m2⟩ := mulOp_in hm
        obtain ⟨g6, g7, g8, g9, g10⟩ := j2 _ _ _ _ _ _ _ g3 (gS_op m1 m2 hg g1) e2
        have s0 := i0 _ _ _ _ _ _ e1 (by omega) hl hd D' (by omega)
        have s1 := i2 _ _ _ _ _ _ _ (gS_op m1 m2 hg g1) e2 hr g3 hd (D' + 1) hD
        intro L R X lv b r9 hr9
        obtain ⟨z1, z2, z3, z4⟩ := st_op (lv := lv) (b := b) m1 m2 (hg.2.1 W hW) (g1.2.1 W hW)
        refine st_189 hr9 hE (by omega) hm z1 z2 (s0 L R X lv (rb lv b (f W))) (fun u w => ?_)
        rw [z3, z4]
        exact s1 L R X lv b _ (Or.inr ⟨u, w, rfl⟩)
    · unfold pS at h
      obtain ⟨D', rfl⟩ : ∃ D', D = D' + 2 := ⟨D - 2, by omega⟩
      split at h
      · rename_i hm
        cases h
        intro L R X lv b r9 hr9
        exact en_188 hr9 hE hr hm ⟨rfl, rfl⟩
      · rename_i hm
        obtain ⟨a, e1, e2⟩ := bnd_iok h
        obtain ⟨c, e3, e4⟩ := bnd_iok e2
        obtain ⟨g1, g2, g3, g4, g5⟩ := j0 _ _ _ _ _ _ e1
        obtain ⟨g6, g7, g8, g9, g10⟩ := j2 _ _ _ _ _ _ _ g3 g1 e3
        obtain ⟨m1, m2⟩ := addOp_in hm
        obtain ⟨g11, g12, g13, g14, g15⟩ := j3 _ _ _ _ _ _ _ g8 (gS_op m1 m2 hg g6) e4
        have s0 := i0 _ _ _ _ _ _ e1 (by omega) hl hd D' (by omega)
        have s1 := i2 _ _ _ _ _ _ _ g1 e3 (by omega) g3 hd (D' + 1) (by omega)
        have s2 := i3 _ _ _ _ _ _ _ (gS_op m1 m2 hg g6) e4 hr g8 hd (D' + 2) hD
        intro L R X lv b r9 hr9
        obtain ⟨z1, z2, z3, z4⟩ := st_op (lv := lv) (b := b) m1 m2 (hg.2.1 W hW) (g6.2.1 W hW)
        refine st_188 hr9 hE (by omega) hm z1 z2 (evT s0 s1 L R X lv (rb lv b (f W))) (fun u w => ?_)
        rw [z3, z4]
        exact s2 L R X lv b _ (Or.inr ⟨u, w, rfl⟩)
end SL
