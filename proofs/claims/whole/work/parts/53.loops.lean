/-! TERMS AND SUMS: one step of their loops -/
def opx (p : Nat) (x y : Int) : Int := if p = 5 then x + y else if p = 6 then x - y else if p = 7 then x * y else if p = 8 then x.tdiv y else x.tmod y
def stB (p : Nat) (lv b1 : Bool) (x y : Int) : Bool := if 8 ≤ p ∧ y = 0 then rb lv (b1 || lv) (bd (opx p x 1)) else rb lv b1 (bd (opx p x y))
def stV (p : Nat) (lv b1 : Bool) (x y : Int) : Int := if stB p lv b1 x y = true then 0 else if 8 ≤ p ∧ y = 0 then opx p x 1 else opx p x y
theorem opx_in {p : Nat} {x y : Int} (hx : inB x) (hy : inB y) : -4000000000000000000 ≤ opx p x y ∧ opx p x y ≤ 4000000000000000000 := by
  have hm := mul_bd hx hy
  have n1 : (x.tdiv y).natAbs ≤ x.natAbs := Int.natAbs_tdiv_le_natAbs x y
  have n2 : (x.tmod y).natAbs ≤ x.natAbs := by
    rw [Int.natAbs_tmod]; exact Nat.mod_le _ _
  unfold inB at hx hy
  unfold opx
  repeat' split
  all_goals omega
theorem bd_0 : bd 0 = some 0 := rfl
theorem rb_t {α : Type} {lv : Bool} {x : Option α} : rb lv true x = true := rfl
theorem rb_ff {α : Type} {b : Bool} {x : Option α} : rb false b x = b := by unfold rb; rw [Bool.false_and, Bool.or_false]
theorem st_op {lv b : Bool} {p : Nat} {f g : tDS} {W : Nat → Int32} (hp : 5 ≤ p) (hp2 : p ≤ 9) (h1 : ∀ v, f W = some v → inB v) (h2 : ∀ v, g W = some v → inB v) :
    inB (rv lv b (f W)) ∧ inB (rv lv (rb lv b (f W)) (g W)) ∧ stB p lv (rb lv (rb lv b (f W)) (g W)) (rv lv b (f W)) (rv lv (rb lv b (f W)) (g W)) = rb lv b (opS p f g W) ∧ stV p lv (rb lv (rb lv b (f W)) (g W)) (rv lv b (f W)) (rv lv (rb lv b (f W)) (g W)) = rv lv b (opS p f g W) := by
  obtain ⟨x, y, b1, b2, e1, e2, e3, hx, hy, e4, c1, c2, c3⟩ := rv_op (lv := lv) (b := b) hp hp2 h1 h2
  rw [← e1, ← e2, ← e3, ← e4]
  refine ⟨hx, hy, ?_⟩
  have fin : stB p lv b1 x y = b2 → stV p lv b1 x y = (if b2 = true then 0 else if 8 ≤ p ∧ y = 0 then opx p x 1 else opx p x y) := fun e => by
    unfold stV; rw [e]
  cases lv with
  | false =>
    obtain ⟨rfl, rfl, e5, e6⟩ := c2 rfl
    have e7 : stB p false b1 0 0 = b2 := by
      unfold stB
      split <;> rw [rb_ff]
      · rw [Bool.or_false]; exact e5.symm
      · exact e5.symm
    refine ⟨e7, ?_⟩
    rw [fin e7, e6]
    split
    · rfl
    · split
      · rename_i h8
        have : p = 8 ∨ p = 9 := by omega
        rcases this with rfl | rfl <;> rfl
      · rename_i h8
        have : p = 5 ∨ p = 6 ∨ p = 7 := by
          have : ¬ 8 ≤ p := fun h => h8 ⟨h, rfl⟩
          omega
        rcases this with rfl | rfl | rfl <;> rfl
  | true =>
    cases b1 with
    | true =>
      obtain ⟨e5, e6, e7⟩ := c3 rfl
      have e8 : stB p true true x y = b2 := by
        unfold stB
        split
        · exact e5.symm
        · exact e5.symm
      refine ⟨e8, ?_⟩
      rw [fin e8, e5, e6]
      rfl
    | false =>
      obtain ⟨c4, c5⟩ := c1 rfl rfl
      by_cases h8 : 8 ≤ p ∧ y = 0
      · obtain ⟨e5, e6⟩ := c5 h8.1 h8.2
        have e8 : stB p true false x y = b2 := by
          unfold stB
          rw [if_pos h8]
          exact e5.symm
        refine ⟨e8, ?_⟩
        rw [fin e8, e5, e6]
        rfl
      · obtain ⟨e5, e6⟩ := c4 (by omega)
        have e8 : stB p true false x y = b2 := by
          unfold stB
          rw [if_neg h8, e5]
          unfold rb
          rw [Bool.false_or, Bool.true_and]
          rfl
        refine ⟨e8, ?_⟩
        rw [fin e8, e6, if_neg h8]
        rfl
section ST
variable {d Ls i : Nat} {I : Nat → Nat → Int32} {L : Nat → Nat → Int64} {R : Nat → Nat → Option Nat} {X : List pKd} {W : Nat → Int32} {o : Bool} {Q : Option Value → pHp → Prop}
theorem st_189 {k k1 : Nat} {lv b0 b1 : Bool} {x y : Int} {r : List Value} (hr : r = [] ∨ ∃ u w, r = [.int u, .long w, .retAddr 0]) (hE : evH o I i W) (hk : k ≤ 1000) (hc : ¬ mulOp (kC (I 125) i k) = 0) (hx : inB x) (hy : inB y)
    (hp : P_m d 190 [.ref 123, .int (bI lv)] (p_mk Ls (EV I (400 * i + (k + 1)) b0) L R X) (fun v h' => v = some (.long (lI y)) ∧ h' = p_mk Ls (EV I (400 * i + k1) b1) L R X))
    (H : ∀ u w, P_run (d + 1) 189 (p_bk 189 1) 0 0 [.ref 123, .int (bI lv), .long (lI (stV (mulOp (kC (I 125) i k)) lv b1 x y)), .retAddr 0, .int u, .long w, .retAddr 0] [] (p_mk Ls (EV I (400 * i + k1) (stB (mulOp (kC (I 125) i k)) lv b1 x y)) L R X) Q) :
    P_run (d + 1) 189 (p_bk 189 1) 0 0 (.ref 123 :: .int (bI lv) :: .long (lI x) :: .retAddr 0 :: r) [] (p_mk Ls (EV I (400 * i + k) b0) L R X) Q := by
  have e9 : 400 * i + k + 1 = 400 * i + (k + 1) := by omega
  have h2 := hE.2.1
  have s2 := sp_185 (d := d) (Ls := Ls) (L := L) (R := R) (X := X) (g := 400 * i + k) (b := b0) hE (k := k) (by omega)
  have hB1 := fun p => opx_in (p := p) hx hy
  have hB2 := fun p => opx_in (p := p) (y := 1) hx (by unfold inB; omega)
  have b3 := fun p => sp_187 (d := d) (Ls := Ls) (I := I) (L := L) (R := R) (X := X) (g := 400 * i + k1) (b := b1) (lv := lv) (hB1 p).1 (hB1 p).2
  have b4 := fun p => sp_187 (d := d) (Ls := Ls) (I := I) (L := L) (R := R) (X := X) (g := 400 * i + k1) (b := b1 || lv) (lv := lv) (hB2 p).1 (hB2 p).2
  have c1 : (lI y = lI 0) = (y = 0) := by unfold inB at hy; exact propext (lI_eq (by omega) (by omega) (by omega) (by omega))
  have e10 : lI 1 = lI 0 ↔ False := by decide
  have dv : lI x / lI y = lI (x.tdiv y) := by unfold inB at hx hy; exact lI_div hx.1 hx.2 hy.1 hy.2
  have rm : lI x - lI x / lI y * lI y = lI (x.tmod y) := by unfold inB at hx hy; exact lI_rem hx.1 hx.2 hy.1 hy.2
  have dv1 : lI x / lI 1 = lI (x.tdiv 1) := by unfold inB at hx; exact lI_div hx.1 hx.2 (by omega) (by omega)
  have rm1 : lI x - lI x / lI 1 * lI 1 = lI (x.tmod 1) := by unfold inB at hx; exact lI_rem hx.1 hx.2 (by omega) (by omega)
  have : kC (I 125) i k = 142 ∨ kC (I 125) i k = 147 ∨ kC (I 125) i k = 137 := by
    unfold mulOp at hc
    repeat' split at hc
    all_goals first | (exact absurd rfl hc) | omega
  rcases this with e | e | e
  · rw [e] at s2 H
    have b5 := b3 7
    have H : ∀ u w, P_run (d + 1) 189 (p_bk 189 1) 0 0 [.ref 123, .int (bI lv), .long (lI (if rb lv b1 (bd (opx 7 x y)) = true then 0 else opx 7 x y)), .retAddr 0, .int u, .long w, .retAddr 0] [] (p_mk Ls (EV I (400 * i + k1) (rb lv b1 (bd (opx 7 x y)))) L R X) Q := H
    have ox : opx 7 x y = x * y := rfl
    rw [ox] at b5 H
    rcases hr with rfl | ⟨u, w, rfl⟩ <;> (rw [P_run_eq, bk_189_1, pb_189_1]; simp -implicitDefEqProofs (disch := first | omega | decide) only [P_m, ↓P_run_eq _ 189 _ (p_bk 189 2), bk_189_2, pb_189_2, ↓P_run_eq _ 189 _ (p_bk 189 6), bk_189_6, pb_189_6, ↓P_run_eq _ 189 _ (p_bk 189 9), bk_189_9, pb_189_9, pw_aload_n0, pw_aloadN_n0, pw_getI, pw_iv2, pw_bipush, bl_42, pw_is1, pw_ceq, bl_47, bl_37, pw_cne, pw_nop, pw_istore, ps_4, pe_4, po_i4, po_r4, po_n4, po_u4, pw_dupi, pw_dupr, pw_iconst, il_1, pw_iadd, pw_putI, pw_iload_n1, pw_lstore, ps_5, pe_5, po_i5, po_r5, po_n5, po_u5, ps_6, pe_6, po_i6, po_r6, po_n6, po_u6, pw_iload_4, pw_lload_5, pw_lconst, ll_0, pw_lcmp, pw_zne, pw_zeq, pw_lload_n2, pw_lmul, pw_goto, pw_iv3, pw_lstore_n2, ps_2, pe_2, po_i2, po_r2, po_n2, po_u2, ps_3, pe_3, po_i3, po_r3, po_n3, po_u3, kd_123, rf_123_1, rf_123_2, rf_123_3, rf_123_4, rf_123_5, rf_123_7, rf_123_11, rf_123_12, rf_123_15, rf_123_16, rf_123_17, rf_123_26, rf_123_29, rf_123_30, rf_123_32, rf_123_34, rf_123_35, rf_123_45, n_0, n_1, n_37, n_42, n_47, nn_lt, nn_nlt, nn_le, nn_nle, nn_ne, nn_sub, nn_mul, nI_add, nn_neg, nm_eq, mn_eq, mm_eq, mn_lt, nm_lt, mn_le, nm_le, nn_sub0, nn_of, implies_true, nn_c, nn_in, nn_div, nat_rem, Nat.reduceMul, Nat.reduceSub, Nat.reduceDiv, Nat.reduceMod, pf_at, pf_ne, mk_s, mk_1, Classical.not_not, b2i_T, b2i_F, false_imp_iff, true_imp_iff, false_and, and_false, p_sw, Int.reduceAdd, Int.zero_add, Option.some.injEq, Value.int.injEq, Value.long.injEq, Value.ref.injEq, exists_eq_left', mk_I, mk_L, mk_wI, mk_wL, rf_s, rf_n, true_and, and_true, and_self, or_true, true_or, or_false, false_or, not_true_eq_false, not_false_eq_true, Option.toList_some, Option.toList_none, List.cons_append, List.nil_append, List.map_nil, List.map_cons, List.sum_nil, List.sum_cons, cat_i, cat_l, cat_r, cat_n, Nat.reduceLeDiff, Nat.reduceAdd, Nat.reduceEqDiff, Nat.zero_le, p_ent, p_u_ne, p_u_at, reduceIte, if_true, if_false, ev_go, e9, ev_wg, P_ce s2, P_ce (sp_167 (c := 42)), P_ce hp, lI_mul, P_ce b5]; exact H _ _)
  · rw [e] at s2 H
    by_cases y0 : y = 0
    · have b5 := b4 8
      have H : ∀ u w, P_run (d + 1) 189 (p_bk 189 1) 0 0 [.ref 123, .int (bI lv), .long (lI (stV 8 lv b1 x y)), .retAddr 0, .int u, .long w, .retAddr 0] [] (p_mk Ls (EV I (400 * i + k1) (stB 8 lv b1 x y)) L R X) Q := H
      have z1 : stB 8 lv b1 x y = rb lv (b1 || lv) (bd (opx 8 x 1)) := by unfold stB; rw [if_pos ⟨by omega, y0⟩]
      have z2 : stV 8 lv b1 x y = if rb lv (b1 || lv) (bd (opx 8 x 1)) = true then 0 else opx 8 x 1 := by unfold stV; rw [z1, if_pos (show 8 ≤ 8 ∧ y = 0 from ⟨by omega, y0⟩)]
      rw [z1, z2] at H
      have ox : opx 8 x 1 = x.tdiv 1 := rfl
      rw [ox] at b5 H
      cases b1 <;> cases lv <;> simp only [Bool.or_false, Bool.or_true, bI_t, bI_f] at b5 H hp <;> (rcases hr with rfl | ⟨u, w, rfl⟩ <;> (rw [P_run_eq, bk_189_1, pb_189_1]; simp -implicitDefEqProofs (disch := first | omega | decide) only [P_m, ↓P_run_eq _ 189 _ (p_bk 189 2), bk_189_2, pb_189_2, ↓P_run_eq _ 189 _ (p_bk 189 3), bk_189_3, pb_189_3, ↓P_run_eq _ 189 _ (p_bk 189 4), bk_189_4, pb_189_4, ↓P_run_eq _ 189 _ (p_bk 189 5), bk_189_5, pb_189_5, ↓P_run_eq _ 189 _ (p_bk 189 6), bk_189_6, pb_189_6, ↓P_run_eq _ 189 _ (p_bk 189 7), bk_189_7, pb_189_7, ↓P_run_eq _ 189 _ (p_bk 189 8), bk_189_8, pb_189_8, ↓P_run_eq _ 189 _ (p_bk 189 9), bk_189_9, pb_189_9, pw_aload_n0, pw_aloadN_n0, pw_getI, pw_iv2, pw_bipush, bl_42, pw_is1, pw_ceq, bl_47, bl_37, pw_cne, pw_nop, pw_istore, ps_4, pe_4, po_i4, po_r4, po_n4, po_u4, pw_dupi, pw_dupr, pw_iconst, il_1, pw_iadd, pw_putI, pw_iload_n1, pw_lstore, ps_5, pe_5, po_i5, po_r5, po_n5, po_u5, ps_6, pe_6, po_i6, po_r6, po_n6, po_u6, pw_iload_4, pw_lload_5, pw_lconst, ll_0, pw_lcmp, pw_zne, pw_zeq, pw_goto, il_0, pw_putZ, ll_1, pw_lload_n2, pw_lmul, pw_ldiv, pw_lrem, pw_iv3, pw_lstore_n2, ps_2, pe_2, po_i2, po_r2, po_n2, po_u2, ps_3, pe_3, po_i3, po_r3, po_n3, po_u3, kd_123, rf_123_1, rf_123_2, rf_123_3, rf_123_4, rf_123_5, rf_123_7, rf_123_11, rf_123_12, rf_123_15, rf_123_16, rf_123_17, rf_123_26, rf_123_29, rf_123_30, rf_123_32, rf_123_34, rf_123_35, rf_123_45, n_0, n_1, n_37, n_42, n_47, nn_lt, nn_nlt, nn_le, nn_nle, nn_ne, nn_sub, nn_mul, nI_add, nn_neg, nm_eq, mn_eq, mm_eq, mn_lt, nm_lt, mn_le, nm_le, nn_sub0, nn_of, implies_true, nn_c, nn_in, nn_div, nat_rem, Nat.reduceMul, Nat.reduceSub, Nat.reduceDiv, Nat.reduceMod, pf_at, pf_ne, mk_s, mk_1, Classical.not_not, b2i_T, b2i_F, false_imp_iff, true_imp_iff, false_and, and_false, p_sw, Int.reduceAdd, Int.zero_add, Option.some.injEq, Value.int.injEq, Value.long.injEq, Value.ref.injEq, exists_eq_left', mk_I, mk_L, mk_wI, mk_wL, rf_s, rf_n, true_and, and_true, and_self, or_true, true_or, or_false, false_or, not_true_eq_false, not_false_eq_true, Option.toList_some, Option.toList_none, List.cons_append, List.nil_append, List.map_nil, List.map_cons, List.sum_nil, List.sum_cons, cat_i, cat_l, cat_r, cat_n, Nat.reduceLeDiff, Nat.reduceAdd, Nat.reduceEqDiff, Nat.zero_le, p_ent, p_u_ne, p_u_at, reduceIte, if_true, if_false, ev_go, ev_br, e9, ev_wg, ev_w0, ev_w1, bI_t, bI_f, lc_eq, l_0, l_1, c1, y0, e10, P_ce s2, P_ce (sp_167 (c := 42)), P_ce (sp_167 (c := 47)), P_ce (sp_167 (c := 37)), P_ce hp, dv1, rm1, P_ce b5]; exact H _ _))
    · have b5 := b3 8
      have H : ∀ u w, P_run (d + 1) 189 (p_bk 189 1) 0 0 [.ref 123, .int (bI lv), .long (lI (stV 8 lv b1 x y)), .retAddr 0, .int u, .long w, .retAddr 0] [] (p_mk Ls (EV I (400 * i + k1) (stB 8 lv b1 x y)) L R X) Q := H
      have z1 : stB 8 lv b1 x y = rb lv b1 (bd (opx 8 x y)) := by unfold stB; rw [if_neg (fun h => y0 h.2)]
      have z2 : stV 8 lv b1 x y = if rb lv b1 (bd (opx 8 x y)) = true then 0 else opx 8 x y := by unfold stV; rw [z1, if_neg (show ¬ (8 ≤ 8 ∧ y = 0) from fun h => y0 h.2)]
      rw [z1, z2] at H
      have ox : opx 8 x y = x.tdiv y := rfl
      rw [ox] at b5 H
      rcases hr with rfl | ⟨u, w, rfl⟩ <;> (rw [P_run_eq, bk_189_1, pb_189_1]; simp -implicitDefEqProofs (disch := first | omega | decide) only [P_m, ↓P_run_eq _ 189 _ (p_bk 189 2), bk_189_2, pb_189_2, ↓P_run_eq _ 189 _ (p_bk 189 3), bk_189_3, pb_189_3, ↓P_run_eq _ 189 _ (p_bk 189 4), bk_189_4, pb_189_4, ↓P_run_eq _ 189 _ (p_bk 189 5), bk_189_5, pb_189_5, ↓P_run_eq _ 189 _ (p_bk 189 6), bk_189_6, pb_189_6, ↓P_run_eq _ 189 _ (p_bk 189 7), bk_189_7, pb_189_7, ↓P_run_eq _ 189 _ (p_bk 189 8), bk_189_8, pb_189_8, ↓P_run_eq _ 189 _ (p_bk 189 9), bk_189_9, pb_189_9, pw_aload_n0, pw_aloadN_n0, pw_getI, pw_iv2, pw_bipush, bl_42, pw_is1, pw_ceq, bl_47, bl_37, pw_cne, pw_nop, pw_istore, ps_4, pe_4, po_i4, po_r4, po_n4, po_u4, pw_dupi, pw_dupr, pw_iconst, il_1, pw_iadd, pw_putI, pw_iload_n1, pw_lstore, ps_5, pe_5, po_i5, po_r5, po_n5, po_u5, ps_6, pe_6, po_i6, po_r6, po_n6, po_u6, pw_iload_4, pw_lload_5, pw_lconst, ll_0, pw_lcmp, pw_zne, pw_zeq, pw_goto, il_0, pw_putZ, ll_1, pw_lload_n2, pw_lmul, pw_ldiv, pw_lrem, pw_iv3, pw_lstore_n2, ps_2, pe_2, po_i2, po_r2, po_n2, po_u2, ps_3, pe_3, po_i3, po_r3, po_n3, po_u3, kd_123, rf_123_1, rf_123_2, rf_123_3, rf_123_4, rf_123_5, rf_123_7, rf_123_11, rf_123_12, rf_123_15, rf_123_16, rf_123_17, rf_123_26, rf_123_29, rf_123_30, rf_123_32, rf_123_34, rf_123_35, rf_123_45, n_0, n_1, n_37, n_42, n_47, nn_lt, nn_nlt, nn_le, nn_nle, nn_ne, nn_sub, nn_mul, nI_add, nn_neg, nm_eq, mn_eq, mm_eq, mn_lt, nm_lt, mn_le, nm_le, nn_sub0, nn_of, implies_true, nn_c, nn_in, nn_div, nat_rem, Nat.reduceMul, Nat.reduceSub, Nat.reduceDiv, Nat.reduceMod, pf_at, pf_ne, mk_s, mk_1, Classical.not_not, b2i_T, b2i_F, false_imp_iff, true_imp_iff, false_and, and_false, p_sw, Int.reduceAdd, Int.zero_add, Option.some.injEq, Value.int.injEq, Value.long.injEq, Value.ref.injEq, exists_eq_left', mk_I, mk_L, mk_wI, mk_wL, rf_s, rf_n, true_and, and_true, and_self, or_true, true_or, or_false, false_or, not_true_eq_false, not_false_eq_true, Option.toList_some, Option.toList_none, List.cons_append, List.nil_append, List.map_nil, List.map_cons, List.sum_nil, List.sum_cons, cat_i, cat_l, cat_r, cat_n, Nat.reduceLeDiff, Nat.reduceAdd, Nat.reduceEqDiff, Nat.zero_le, p_ent, p_u_ne, p_u_at, reduceIte, if_true, if_false, ev_go, ev_br, e9, ev_wg, lc_eq, l_0, l_1, c1, y0, P_ce s2, P_ce (sp_167 (c := 42)), P_ce (sp_167 (c := 47)), P_ce (sp_167 (c := 37)), P_ce hp, dv, rm, P_ce b5]; exact H _ _)
  · rw [e] at s2 H
    by_cases y0 : y = 0
    · have b5 := b4 9
      have H : ∀ u w, P_run (d + 1) 189 (p_bk 189 1) 0 0 [.ref 123, .int (bI lv), .long (lI (stV 9 lv b1 x y)), .retAddr 0, .int u, .long w, .retAddr 0] [] (p_mk Ls (EV I (400 * i + k1) (stB 9 lv b1 x y)) L R X) Q := H
      have z1 : stB 9 lv b1 x y = rb lv (b1 || lv) (bd (opx 9 x 1)) := by unfold stB; rw [if_pos ⟨by omega, y0⟩]
      have z2 : stV 9 lv b1 x y = if rb lv (b1 || lv) (bd (opx 9 x 1)) = true then 0 else opx 9 x 1 := by unfold stV; rw [z1, if_pos (show 8 ≤ 9 ∧ y = 0 from ⟨by omega, y0⟩)]
      rw [z1, z2] at H
      have ox : opx 9 x 1 = x.tmod 1 := rfl
      rw [ox] at b5 H
      cases b1 <;> cases lv <;> simp only [Bool.or_false, Bool.or_true, bI_t, bI_f] at b5 H hp <;> (rcases hr with rfl | ⟨u, w, rfl⟩ <;> (rw [P_run_eq, bk_189_1, pb_189_1]; simp -implicitDefEqProofs (disch := first | omega | decide) only [P_m, ↓P_run_eq _ 189 _ (p_bk 189 2), bk_189_2, pb_189_2, ↓P_run_eq _ 189 _ (p_bk 189 3), bk_189_3, pb_189_3, ↓P_run_eq _ 189 _ (p_bk 189 4), bk_189_4, pb_189_4, ↓P_run_eq _ 189 _ (p_bk 189 5), bk_189_5, pb_189_5, ↓P_run_eq _ 189 _ (p_bk 189 6), bk_189_6, pb_189_6, ↓P_run_eq _ 189 _ (p_bk 189 7), bk_189_7, pb_189_7, ↓P_run_eq _ 189 _ (p_bk 189 8), bk_189_8, pb_189_8, ↓P_run_eq _ 189 _ (p_bk 189 9), bk_189_9, pb_189_9, pw_aload_n0, pw_aloadN_n0, pw_getI, pw_iv2, pw_bipush, bl_42, pw_is1, pw_ceq, bl_47, bl_37, pw_cne, pw_nop, pw_istore, ps_4, pe_4, po_i4, po_r4, po_n4, po_u4, pw_dupi, pw_dupr, pw_iconst, il_1, pw_iadd, pw_putI, pw_iload_n1, pw_lstore, ps_5, pe_5, po_i5, po_r5, po_n5, po_u5, ps_6, pe_6, po_i6, po_r6, po_n6, po_u6, pw_iload_4, pw_lload_5, pw_lconst, ll_0, pw_lcmp, pw_zne, pw_zeq, pw_goto, il_0, pw_putZ, ll_1, pw_lload_n2, pw_lmul, pw_ldiv, pw_lrem, pw_iv3, pw_lstore_n2, ps_2, pe_2, po_i2, po_r2, po_n2, po_u2, ps_3, pe_3, po_i3, po_r3, po_n3, po_u3, kd_123, rf_123_1, rf_123_2, rf_123_3, rf_123_4, rf_123_5, rf_123_7, rf_123_11, rf_123_12, rf_123_15, rf_123_16, rf_123_17, rf_123_26, rf_123_29, rf_123_30, rf_123_32, rf_123_34, rf_123_35, rf_123_45, n_0, n_1, n_37, n_42, n_47, nn_lt, nn_nlt, nn_le, nn_nle, nn_ne, nn_sub, nn_mul, nI_add, nn_neg, nm_eq, mn_eq, mm_eq, mn_lt, nm_lt, mn_le, nm_le, nn_sub0, nn_of, implies_true, nn_c, nn_in, nn_div, nat_rem, Nat.reduceMul, Nat.reduceSub, Nat.reduceDiv, Nat.reduceMod, pf_at, pf_ne, mk_s, mk_1, Classical.not_not, b2i_T, b2i_F, false_imp_iff, true_imp_iff, false_and, and_false, p_sw, Int.reduceAdd, Int.zero_add, Option.some.injEq, Value.int.injEq, Value.long.injEq, Value.ref.injEq, exists_eq_left', mk_I, mk_L, mk_wI, mk_wL, rf_s, rf_n, true_and, and_true, and_self, or_true, true_or, or_false, false_or, not_true_eq_false, not_false_eq_true, Option.toList_some, Option.toList_none, List.cons_append, List.nil_append, List.map_nil, List.map_cons, List.sum_nil, List.sum_cons, cat_i, cat_l, cat_r, cat_n, Nat.reduceLeDiff, Nat.reduceAdd, Nat.reduceEqDiff, Nat.zero_le, p_ent, p_u_ne, p_u_at, reduceIte, if_true, if_false, ev_go, ev_br, e9, ev_wg, ev_w0, ev_w1, bI_t, bI_f, lc_eq, l_0, l_1, c1, y0, e10, P_ce s2, P_ce (sp_167 (c := 42)), P_ce (sp_167 (c := 47)), P_ce (sp_167 (c := 37)), P_ce hp, rm1, P_ce b5]; exact H _ _))
    · have b5 := b3 9
      have H : ∀ u w, P_run (d + 1) 189 (p_bk 189 1) 0 0 [.ref 123, .int (bI lv), .long (lI (stV 9 lv b1 x y)), .retAddr 0, .int u, .long w, .retAddr 0] [] (p_mk Ls (EV I (400 * i + k1) (stB 9 lv b1 x y)) L R X) Q := H
      have z1 : stB 9 lv b1 x y = rb lv b1 (bd (opx 9 x y)) := by unfold stB; rw [if_neg (fun h => y0 h.2)]
      have z2 : stV 9 lv b1 x y = if rb lv b1 (bd (opx 9 x y)) = true then 0 else opx 9 x y := by unfold stV; rw [z1, if_neg (show ¬ (8 ≤ 9 ∧ y = 0) from fun h => y0 h.2)]
      rw [z1, z2] at H
      have ox : opx 9 x y = x.tmod y := rfl
      rw [ox] at b5 H
      rcases hr with rfl | ⟨u, w, rfl⟩ <;> (rw [P_run_eq, bk_189_1, pb_189_1]; simp -implicitDefEqProofs (disch := first | omega | decide) only [P_m, ↓P_run_eq _ 189 _ (p_bk 189 2), bk_189_2, pb_189_2, ↓P_run_eq _ 189 _ (p_bk 189 3), bk_189_3, pb_189_3, ↓P_run_eq _ 189 _ (p_bk 189 4), bk_189_4, pb_189_4, ↓P_run_eq _ 189 _ (p_bk 189 5), bk_189_5, pb_189_5, ↓P_run_eq _ 189 _ (p_bk 189 6), bk_189_6, pb_189_6, ↓P_run_eq _ 189 _ (p_bk 189 7), bk_189_7, pb_189_7, ↓P_run_eq _ 189 _ (p_bk 189 8), bk_189_8, pb_189_8, ↓P_run_eq _ 189 _ (p_bk 189 9), bk_189_9, pb_189_9, pw_aload_n0, pw_aloadN_n0, pw_getI, pw_iv2, pw_bipush, bl_42, pw_is1, pw_ceq, bl_47, bl_37, pw_cne, pw_nop, pw_istore, ps_4, pe_4, po_i4, po_r4, po_n4, po_u4, pw_dupi, pw_dupr, pw_iconst, il_1, pw_iadd, pw_putI, pw_iload_n1, pw_lstore, ps_5, pe_5, po_i5, po_r5, po_n5, po_u5, ps_6, pe_6, po_i6, po_r6, po_n6, po_u6, pw_iload_4, pw_lload_5, pw_lconst, ll_0, pw_lcmp, pw_zne, pw_zeq, pw_goto, il_0, pw_putZ, ll_1, pw_lload_n2, pw_lmul, pw_ldiv, pw_lrem, pw_iv3, pw_lstore_n2, ps_2, pe_2, po_i2, po_r2, po_n2, po_u2, ps_3, pe_3, po_i3, po_r3, po_n3, po_u3, kd_123, rf_123_1, rf_123_2, rf_123_3, rf_123_4, rf_123_5, rf_123_7, rf_123_11, rf_123_12, rf_123_15, rf_123_16, rf_123_17, rf_123_26, rf_123_29, rf_123_30, rf_123_32, rf_123_34, rf_123_35, rf_123_45, n_0, n_1, n_37, n_42, n_47, nn_lt, nn_nlt, nn_le, nn_nle, nn_ne, nn_sub, nn_mul, nI_add, nn_neg, nm_eq, mn_eq, mm_eq, mn_lt, nm_lt, mn_le, nm_le, nn_sub0, nn_of, implies_true, nn_c, nn_in, nn_div, nat_rem, Nat.reduceMul, Nat.reduceSub, Nat.reduceDiv, Nat.reduceMod, pf_at, pf_ne, mk_s, mk_1, Classical.not_not, b2i_T, b2i_F, false_imp_iff, true_imp_iff, false_and, and_false, p_sw, Int.reduceAdd, Int.zero_add, Option.some.injEq, Value.int.injEq, Value.long.injEq, Value.ref.injEq, exists_eq_left', mk_I, mk_L, mk_wI, mk_wL, rf_s, rf_n, true_and, and_true, and_self, or_true, true_or, or_false, false_or, not_true_eq_false, not_false_eq_true, Option.toList_some, Option.toList_none, List.cons_append, List.nil_append, List.map_nil, List.map_cons, List.sum_nil, List.sum_cons, cat_i, cat_l, cat_r, cat_n, Nat.reduceLeDiff, Nat.reduceAdd, Nat.reduceEqDiff, Nat.zero_le, p_ent, p_u_ne, p_u_at, reduceIte, if_true, if_false, ev_go, ev_br, e9, ev_wg, lc_eq, l_0, l_1, c1, y0, P_ce s2, P_ce (sp_167 (c := 42)), P_ce (sp_167 (c := 47)), P_ce (sp_167 (c := 37)), P_ce hp, rm, P_ce b5]; exact H _ _)
/-- a term ends -/
theorem en_189 {k : Nat} {lv b0 : Bool} {x : Int} {r : List Value} (hr : r = [] ∨ ∃ u w, r = [.int u, .long w, .retAddr 0]) (hE : evH o I i W) (hk : k ≤ 1000) (hc : mulOp (kC (I 125) i k) = 0) (H : Q (some (.long (lI x))) (p_mk Ls (EV I (400 * i + k) b0) L R X)) :
    P_run (d + 1) 189 (p_bk 189 1) 0 0 (.ref 123 :: .int (bI lv) :: .long (lI x) :: .retAddr 0 :: r) [] (p_mk Ls (EV I (400 * i + k) b0) L R X) Q := by
  have h2 := hE.2.1
  have hle := kC_le hE.1 k
  have s2 := sp_185 (d := d) (Ls := Ls) (L := L) (R := R) (X := X) (g := 400 * i + k) (b := b0) hE (k := k) (by omega)
  obtain ⟨n1, n2, n3⟩ : ¬ kC (I 125) i k = 142 ∧ ¬ kC (I 125) i k = 147 ∧ ¬ kC (I 125) i k = 137 := by
    refine ⟨fun e => ?_, fun e => ?_, fun e => ?_⟩ <;> (rw [e] at hc; exact absurd hc (by decide))
  generalize kC (I 125) i k = c at *
  rcases hr with rfl | ⟨u, w, rfl⟩ <;> (rw [P_run_eq, bk_189_1, pb_189_1]; simp -implicitDefEqProofs (disch := first | omega | decide) only [P_m, ↓P_run_eq _ 189 _ (p_bk 189 10), bk_189_10, pb_189_10, pw_aload_n0, pw_aloadN_n0, pw_getI, pw_iv2, pw_bipush, bl_42, pw_is1, pw_ceq, bl_47, bl_37, pw_cne, pw_nop, pw_lload_n2, pw_lret, kd_123, rf_123_1, rf_123_2, rf_123_3, rf_123_4, rf_123_5, rf_123_7, rf_123_11, rf_123_12, rf_123_15, rf_123_16, rf_123_17, rf_123_26, rf_123_29, rf_123_30, rf_123_32, rf_123_34, rf_123_35, rf_123_45, n_0, n_1, n_37, n_42, n_47, nn_lt, nn_nlt, nn_le, nn_nle, nn_ne, nn_sub, nn_mul, nI_add, nn_neg, nm_eq, mn_eq, mm_eq, mn_lt, nm_lt, mn_le, nm_le, nn_sub0, nn_of, implies_true, nn_c, nn_in, nn_div, nat_rem, Nat.reduceMul, Nat.reduceSub, Nat.reduceDiv, Nat.reduceMod, pf_at, pf_ne, mk_s, mk_1, Classical.not_not, b2i_T, b2i_F, false_imp_iff, true_imp_iff, false_and, and_false, p_sw, Int.reduceAdd, Int.zero_add, Option.some.injEq, Value.int.injEq, Value.long.injEq, Value.ref.injEq, exists_eq_left', mk_I, mk_L, mk_wI, mk_wL, rf_s, rf_n, true_and, and_true, and_self, or_true, true_or, or_false, false_or, not_true_eq_false, not_false_eq_true, Option.toList_some, Option.toList_none, List.cons_append, List.nil_append, List.map_nil, List.map_cons, List.sum_nil, List.sum_cons, cat_i, cat_l, cat_r, cat_n, Nat.reduceLeDiff, Nat.reduceAdd, Nat.reduceEqDiff, Nat.zero_le, p_ent, p_u_ne, p_u_at, reduceIte, if_true, if_false, ev_go, P_ce s2, P_ce (sp_167 (c := 42)), P_ce (sp_167 (c := 47)), P_ce (sp_167 (c := 37))]; exact H)
end ST
