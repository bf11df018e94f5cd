section OY
variable {d Ls : Nat} {I : Nat → Nat → Int32} {L : Nat → Nat → Int64} {R : Nat → Nat → Option Nat} {X : List pKd} {CL : List tCl} {cl : tCl} {c : Option (List tCl)} {K0 : Nat → Int32} {Q : Option Value → pHp → Prop}
/-- what stands while the class runs orders -/
def oX (Ls : Nat) (I : Nat → Nat → Int32) (R : Nat → Nat → Option Nat) (X : List pKd) (CL : List tCl) (c : Option (List tCl)) (K0 : Nat → Int32) : Prop := txC I CL ∧ CL.length ≤ 12 ∧ (clCode CL).length ≤ 400 ∧ (∀ j cl, CL[j]? = some cl → clOk true (clB CL j) cl ∧ cjS (cl_f cl) ∧ cjB (cl_g cl)) ∧ txR R X 79 ∧ clw Ls I R X (fRef R 71 K0) c ∧ I 1 0 = 999 ∧ I 1 2 = nI 9999
def clO (J : Nat → Nat → Int32) (s : oS) : Prop := clS J s.1 s.2.1 s.2.2.1
theorem clS_fr {J J' : Nat → Nat → Int32} {K M : Nat → Int32} {k : Nat} (h : clS J K k M) (e : ∀ a, 71 ≤ a → a ≤ 81 → J' a = J a) : clS J' K k M := by
  obtain ⟨h1, n, h2, h3, h4⟩ := h
  exact ⟨hutR_f h1 (fun b b1 b2 => e b (by omega) (by omega)), n, by rw [e 80 (by omega) (by omega)]; exact h2, by rw [e 80 (by omega) (by omega)]; exact h3, by rw [e 81 (by omega) (by omega)]; exact h4⟩
theorem txC_fr {J J' : Nat → Nat → Int32} (h : txC J CL) (e : ∀ a, 36 ≤ a → a ≤ 43 → J' a = J a) : txC J' CL := by
  unfold txC txA at *
  rw [e 36 (by omega) (by omega), e 37 (by omega) (by omega), e 38 (by omega) (by omega), e 39 (by omega) (by omega), e 40 (by omega) (by omega), e 41 (by omega) (by omega), e 42 (by omega) (by omega), e 43 (by omega) (by omega)]
  exact h
theorem n3f : (nI 0 ≤ (-3 : Int32)) = False := eq_false (by decide)
/-- one order run once -/
theorem or_c {j t : Nat} {s : oS} {J : Nat → Nat → Int32} (hX : oX Ls I R X CL c K0) (hcl : CL[j]? = some cl) (ht : t < cl_t cl) (f : frN I J) (hs : clO J s) (ho : oOk c K0 s) (hn : s.2.2.2.1 ≤ 300)
    (H : ∀ s' J', oR c cl s = some s' → frN I J' → clO J' s' → P_run (d + 9) 120 (p_bk 120 2) 0 0 [.ref 32, .ref 36, .int (nI s'.2.2.2.1), .int s'.2.2.2.2, .int (nI j), .int (nI (t + 1))] [] (p_mk Ls J' L R X) Q)
    (HN : oR c cl s = none → ∀ r J', frN I J' → Q (some (.int r)) (p_mk Ls (p_u J' 32 16 (nI j)) L R X)) :
    P_run (d + 9) 120 (p_bk 120 2) 0 0 [.ref 32, .ref 36, .int (nI s.2.2.2.1), .int s.2.2.2.2, .int (nI j), .int (nI t)] [] (p_mk Ls J L R X) Q := by
  obtain ⟨x1, x2, x3, x4, x5, x6, x7, x8⟩ := hX
  obtain ⟨hok, hcs, hcb⟩ := x4 j cl hcl
  have hj := at_lt hcl
  have hV := ho.1
  have ht20 : cl_t cl ≤ 20 := hok.2.2.2.2
  have hk3 : cl_k cl ≤ 3 := hok.2.2.1
  obtain ⟨W, w1, w2, s25⟩ := pl_25 (d := d + 6) (Ls := Ls) (I := J) (L := L) (R := R) (X := X) (K := s.1) (dn := nI s.2.2.2.1) (an := s.2.2.2.2) hV hs.1
  have hw : w14 W (oE s) := w1
  have eg : cl_g cl W = cl_g cl (oE s) := hcb _ _ hw
  have ef : cl_f cl W = cl_f cl (oE s) := hcs _ _ hw
  have bw : bW (nw true) W := fun i h5 hi => by rw [hw i (h5 rfl) hi]; exact oE_bW ho (by omega) i h5 hi
  have t1 : txC (p_fn J 46 W) CL := txC_fr x1 (fun a a1 a2 => by rw [pf_ne (by omega)]; exact f a (by omega) (by omega) (by omega))
  obtain ⟨S1, s29⟩ := sp_29 (d := d + 6) (Ls := Ls) (I := p_fn J 46 W) (L := L) (R := R) (X := X) t1 (by rw [pf_at]; exact bw) hok x2 x3 hcl
  rw [pf_at, eg] at s29
  generalize hJ2 : p_fn (p_fn J 46 W) 47 S1 = J2 at *
  have j2 : ∀ a, ¬ a = 46 → ¬ a = 47 → J2 a = J a := fun a a1 a2 => by rw [← hJ2, pf_ne a2, pf_ne a1]
  have f2 : frN I J2 := fun a a1 a2 a3 => (j2 a a2 a3).trans (f a a1 a2 a3)
  have c2 : clO J2 s := clS_fr hs (fun a a1 a2 => j2 a (by omega) (by omega))
  have r2 : J 38 j = nI (cl_t cl) := by rw [f 38 (by omega) (by omega) (by omega)]; exact (x1.2.2.1 j hj cl hcl).2.1
  by_cases cg : cl_g cl (oE s) = some true
  · have er : oR c cl s = (cl_f cl (oE s)).bind (oA c (cl_k cl) s) := by unfold oR; rw [if_pos cg]
    rw [decide_eq_true cg, bI_t] at s29
    have e46 : J2 46 = W := by rw [← hJ2, pf_ne (by omega), pf_at]
    obtain ⟨S2, s30⟩ := sp_30 (d := d + 6) (Ls := Ls) (I := J2) (L := L) (R := R) (X := X) (txC_fr x1 (fun a a1 a2 => f2 a (by omega) (by omega) (by omega))) (by rw [e46]; exact bw) hok x2 x3 hcl
    rw [e46, ef] at s30
    generalize hJ3 : p_fn J2 47 S2 = J3 at *
    have j3 : ∀ a, ¬ a = 46 → ¬ a = 47 → J3 a = J2 a := fun a a1 a2 => by rw [← hJ3, pf_ne a2]
    have f3 : frN I J3 := fun a a1 a2 a3 => (j3 a a2 a3).trans (f2 a a1 a2 a3)
    have c3 : clO J3 s := clS_fr c2 (fun a a1 a2 => j3 a (by omega) (by omega))
    cases hf : cl_f cl (oE s) with
    | none =>
      rw [hf] at er s30
      have hN := HN er (nI s.2.2.2.1) J3 f3
      clear H HN
      have s30' : P_m (d + 8) 30 [.ref 45, .ref 36, .int (nI j)] (p_mk Ls J2 L R X) (fun v h' => v = some (.int brk) ∧ h' = p_mk Ls J3 L R X) := s30
      generalize cl_t cl = tt at *
      generalize s.2.2.2.1 = nn at *
      generalize s.2.2.2.2 = aa at *
      rw [P_run_eq, bk_120_2, pb_120_2]; simp -implicitDefEqProofs (disch := first | omega | decide) only [P_m, ↓P_run_eq _ 120 _ (p_bk 120 3), bk_120_3, pb_120_3, ↓P_run_eq _ 120 _ (p_bk 120 5), bk_120_5, pb_120_5, pw_iload_5, pw_aload_n1, pw_aloadN_n1, pw_getR, pw_iload_4, pw_iald, pw_cge, pw_aload_n0, pw_aloadN_n0, pw_iload_n2, pw_iload_n3, pw_iv4, pw_iv3, pw_zne, pw_goto, pw_istore, ps_6, pe_6, po_i6, po_r6, po_n6, po_u6, pw_iload_6, pw_ldcw, cn_4, pw_cne, pw_bipush, bl_m3, ps_7, pe_7, po_i7, po_r7, po_n7, po_u7, pw_iload_7, pw_zge, pw_putI, pw_ret0, kd_32, rf_32_0, rf_32_1, rf_32_2, rf_32_3, rf_32_4, rf_32_5, rf_32_6, rf_32_7, rf_32_8, rf_32_9, rf_32_11, rf_32_12, rf_32_13, kd_36, rf_36_1, rf_36_2, rf_36_3, rf_36_4, rf_36_5, rf_36_7, rf_36_8, kd_38, kd_45, rf_45_0, rf_45_1, kd_71, rf_71_1, rf_71_3, rf_71_4, rf_71_5, rf_71_6, rf_71_11, rf_71_12, rf_71_14, n_0, n_1, nn_lt, nn_nlt, nn_le, nn_nle, nn_ne, nn_sub, nn_mul, nI_add, nn_neg, nm_eq, mn_eq, mm_eq, mn_lt, nm_lt, mn_le, nm_le, nn_sub0, nn_of, implies_true, nn_c, nn_in, nn_div, nat_rem, Nat.reduceMul, Nat.reduceSub, Nat.reduceDiv, Nat.reduceMod, pf_at, pf_ne, mk_s, mk_1, Classical.not_not, b2i_T, b2i_F, false_imp_iff, true_imp_iff, false_and, and_false, p_sw, Int.reduceAdd, Int.zero_add, Option.some.injEq, Value.int.injEq, Value.long.injEq, Value.ref.injEq, exists_eq_left', mk_I, mk_L, mk_wI, mk_wL, rf_s, rf_n, true_and, and_true, and_self, or_true, true_or, or_false, false_or, not_true_eq_false, not_false_eq_true, Option.toList_some, Option.toList_none, List.cons_append, List.nil_append, List.map_nil, List.map_cons, List.sum_nil, List.sum_cons, cat_i, cat_l, cat_r, cat_n, Nat.reduceLeDiff, Nat.reduceAdd, Nat.reduceEqDiff, Nat.zero_le, p_ent, p_u_ne, p_u_at, reduceIte, if_true, if_false, r2, P_ce s25, P_ce s29, P_ce s30', brk, n3f]
      exact hN
    | some v =>
      rw [hf] at er s30
      have hvB : inB v := by
        rcases hok.1 with ⟨-, nd, -, gs⟩ | ⟨-, -, e2⟩
        · exact gs.2.1 _ (oE_bW ho (by omega)) v hf
        · rw [e2] at hf; cases hf; unfold inB; omega
      have nb : ¬ zI v = brk := fun e => by have := (oI_brk (x := some v) (fun w hw => by cases hw; exact hvB)).mp e; cases this
      have s30' : P_m (d + 8) 30 [.ref 45, .ref 36, .int (nI j)] (p_mk Ls J2 L R X) (fun v' h' => v' = some (.int (zI v)) ∧ h' = p_mk Ls J3 L R X) := s30
      have e56 : fRef R 71 s.1 = fRef R 71 K0 := by unfold fRef; rw [ho.2.2.2 56 (by omega)]
      obtain ⟨J4, f4, c4, s121⟩ := act_now (Ls := Ls) (I := J3) (L := L) (R := R) (X := X) (c := c) (K := s.1) (M := s.2.2.1) (k := s.2.1) (D := d + 8) (kd := cl_k cl) (zI v) ⟨c3.1, x5, hV, ho.2.1, by rw [e56]; exact clw_fr x6 (fun a ha => f3 a (by omega) (by omega) (by omega))⟩ c3 hk3 (by rw [f3 1 (by omega) (by omega) (by omega)]; exact x7) (by rw [f3 1 (by omega) (by omega) (by omega)]; exact x8) (by omega)
      have f4' : frN I J4 := frN_tr f3 f4
      have r1 : J3 37 j = nI (cl_k cl) := by rw [f3 37 (by omega) (by omega) (by omega)]; exact (x1.2.2.1 j hj cl hcl).1
      have r1' : J4 37 j = nI (cl_k cl) := by rw [f4' 37 (by omega) (by omega) (by omega)]; exact (x1.2.2.1 j hj cl hcl).1
      by_cases hneg : (actW c s.1 (cl_k cl) (zI v)).1 < 0
      · have en : oR c cl s = none := by rw [er]; show oA c (cl_k cl) s v = none; unfold oA; rw [if_pos hneg]
        have hN := HN en (nI s.2.2.2.1) J4 f4'
        clear H HN c4 er en
        have hneg : ¬ nI 0 ≤ (actW c s.1 (cl_k cl) (zI v)).1 := fun h => absurd hneg (Int32.not_lt.mpr h)
        generalize (actW c s.1 (cl_k cl) (zI v)).1 = wv at *
        generalize cl_k cl = kd at *
        generalize cl_t cl = tt at *
        generalize s.2.2.2.1 = nn at *
        generalize s.2.2.2.2 = aa at *
        generalize zI v = zv at *
        have nb : ¬ zv = -2000000000 := nb
        rw [P_run_eq, bk_120_2, pb_120_2]; simp -implicitDefEqProofs (disch := first | omega | decide) only [P_m, ↓P_run_eq _ 120 _ (p_bk 120 3), bk_120_3, pb_120_3, ↓P_run_eq _ 120 _ (p_bk 120 4), bk_120_4, pb_120_4, ↓P_run_eq _ 120 _ (p_bk 120 5), bk_120_5, pb_120_5, pw_iload_5, pw_aload_n1, pw_aloadN_n1, pw_getR, pw_iload_4, pw_iald, pw_cge, pw_aload_n0, pw_aloadN_n0, pw_iload_n2, pw_iload_n3, pw_iv4, pw_iv3, pw_zne, pw_goto, pw_istore, ps_6, pe_6, po_i6, po_r6, po_n6, po_u6, pw_iload_6, pw_ldcw, cn_4, pw_cne, pw_bipush, bl_m3, pw_nop, ps_7, pe_7, po_i7, po_r7, po_n7, po_u7, pw_iload_7, pw_zge, pw_putI, pw_ret0, kd_32, rf_32_0, rf_32_1, rf_32_2, rf_32_3, rf_32_4, rf_32_5, rf_32_6, rf_32_7, rf_32_8, rf_32_9, rf_32_11, rf_32_12, rf_32_13, kd_36, rf_36_1, rf_36_2, rf_36_3, rf_36_4, rf_36_5, rf_36_7, rf_36_8, kd_37, kd_38, kd_45, rf_45_0, rf_45_1, kd_71, rf_71_1, rf_71_3, rf_71_4, rf_71_5, rf_71_6, rf_71_11, rf_71_12, rf_71_14, n_0, n_1, nn_lt, nn_nlt, nn_le, nn_nle, nn_ne, nn_sub, nn_mul, nI_add, nn_neg, nm_eq, mn_eq, mm_eq, mn_lt, nm_lt, mn_le, nm_le, nn_sub0, nn_of, implies_true, nn_c, nn_in, nn_div, nat_rem, Nat.reduceMul, Nat.reduceSub, Nat.reduceDiv, Nat.reduceMod, pf_at, pf_ne, mk_s, mk_1, Classical.not_not, b2i_T, b2i_F, false_imp_iff, true_imp_iff, false_and, and_false, p_sw, Int.reduceAdd, Int.zero_add, Option.some.injEq, Value.int.injEq, Value.long.injEq, Value.ref.injEq, exists_eq_left', mk_I, mk_L, mk_wI, mk_wL, rf_s, rf_n, true_and, and_true, and_self, or_true, true_or, or_false, false_or, not_true_eq_false, not_false_eq_true, Option.toList_some, Option.toList_none, List.cons_append, List.nil_append, List.map_nil, List.map_cons, List.sum_nil, List.sum_cons, cat_i, cat_l, cat_r, cat_n, Nat.reduceLeDiff, Nat.reduceAdd, Nat.reduceEqDiff, Nat.zero_le, p_ent, p_u_ne, p_u_at, reduceIte, if_true, if_false, r1, r2, P_ce s25, P_ce s29, P_ce s30', nb, P_ce s121, hneg]
        exact hN
      · have en := er
        rw [show (some v).bind (oA c (cl_k cl) s) = oA c (cl_k cl) s v from rfl] at en
        unfold oA at en
        rw [if_neg hneg] at en
        have hH := H _ J4 en f4' c4
        clear H HN c4 er en
        have hneg : nI 0 ≤ (actW c s.1 (cl_k cl) (zI v)).1 := Int32.not_lt.mp hneg
        dsimp only at hH
        generalize (actW c s.1 (cl_k cl) (zI v)).1 = wv at *
        by_cases k0 : cl_k cl = 0
        · rw [k0] at r1 r1' s121
          rw [if_pos k0] at hH
          generalize cl_t cl = tt at *
          generalize s.2.2.2.1 = nn at *
          generalize s.2.2.2.2 = aa at *
          generalize zI v = zv at *
          have nb : ¬ zv = -2000000000 := nb
          rw [P_run_eq, bk_120_2, pb_120_2]; simp -implicitDefEqProofs (disch := first | omega | decide) only [P_m, ↓P_run_eq _ 120 _ (p_bk 120 3), bk_120_3, pb_120_3, ↓P_run_eq _ 120 _ (p_bk 120 4), bk_120_4, pb_120_4, ↓P_run_eq _ 120 _ (p_bk 120 5), bk_120_5, pb_120_5, ↓P_run_eq _ 120 _ (p_bk 120 6), bk_120_6, pb_120_6, ↓P_run_eq _ 120 _ (p_bk 120 7), bk_120_7, pb_120_7, pw_iload_5, pw_aload_n1, pw_aloadN_n1, pw_getR, pw_iload_4, pw_iald, pw_cge, pw_aload_n0, pw_aloadN_n0, pw_iload_n2, pw_iload_n3, pw_iv4, pw_iv3, pw_zne, pw_goto, pw_istore, ps_6, pe_6, po_i6, po_r6, po_n6, po_u6, pw_iload_6, pw_ldcw, cn_4, pw_cne, pw_bipush, bl_m3, pw_nop, ps_7, pe_7, po_i7, po_r7, po_n7, po_u7, pw_iload_7, pw_zge, pw_putI, pw_ret0, pw_iinc_2, il_1, po_i2, po_r2, po_n2, po_u2, pw_istore_n3, ps_3, pe_3, po_i3, po_r3, po_n3, po_u3, pw_iinc_5, po_i5, po_r5, po_n5, po_u5, kd_32, rf_32_0, rf_32_1, rf_32_2, rf_32_3, rf_32_4, rf_32_5, rf_32_6, rf_32_7, rf_32_8, rf_32_9, rf_32_11, rf_32_12, rf_32_13, kd_36, rf_36_1, rf_36_2, rf_36_3, rf_36_4, rf_36_5, rf_36_7, rf_36_8, kd_37, kd_38, kd_45, rf_45_0, rf_45_1, kd_71, rf_71_1, rf_71_3, rf_71_4, rf_71_5, rf_71_6, rf_71_11, rf_71_12, rf_71_14, n_0, n_1, nn_lt, nn_nlt, nn_le, nn_nle, nn_ne, nn_sub, nn_mul, nI_add, nn_neg, nm_eq, mn_eq, mm_eq, mn_lt, nm_lt, mn_le, nm_le, nn_sub0, nn_of, implies_true, nn_c, nn_in, nn_div, nat_rem, Nat.reduceMul, Nat.reduceSub, Nat.reduceDiv, Nat.reduceMod, pf_at, pf_ne, mk_s, mk_1, Classical.not_not, b2i_T, b2i_F, false_imp_iff, true_imp_iff, false_and, and_false, p_sw, Int.reduceAdd, Int.zero_add, Option.some.injEq, Value.int.injEq, Value.long.injEq, Value.ref.injEq, exists_eq_left', mk_I, mk_L, mk_wI, mk_wL, rf_s, rf_n, true_and, and_true, and_self, or_true, true_or, or_false, false_or, not_true_eq_false, not_false_eq_true, Option.toList_some, Option.toList_none, List.cons_append, List.nil_append, List.map_nil, List.map_cons, List.sum_nil, List.sum_cons, cat_i, cat_l, cat_r, cat_n, Nat.reduceLeDiff, Nat.reduceAdd, Nat.reduceEqDiff, Nat.zero_le, p_ent, p_u_ne, p_u_at, reduceIte, if_true, if_false, r1, r1', r2, P_ce s25, P_ce s29, P_ce s30', nb, P_ce s121, hneg]
          exact P_ls hH two_l
        · rw [if_neg k0] at hH
          generalize cl_k cl = kd at *
          generalize cl_t cl = tt at *
          generalize s.2.2.2.1 = nn at *
          generalize s.2.2.2.2 = aa at *
          generalize zI v = zv at *
          have nb : ¬ zv = -2000000000 := nb
          rw [P_run_eq, bk_120_2, pb_120_2]; simp -implicitDefEqProofs (disch := first | omega | decide) only [P_m, ↓P_run_eq _ 120 _ (p_bk 120 3), bk_120_3, pb_120_3, ↓P_run_eq _ 120 _ (p_bk 120 4), bk_120_4, pb_120_4, ↓P_run_eq _ 120 _ (p_bk 120 5), bk_120_5, pb_120_5, ↓P_run_eq _ 120 _ (p_bk 120 6), bk_120_6, pb_120_6, ↓P_run_eq _ 120 _ (p_bk 120 7), bk_120_7, pb_120_7, pw_iload_5, pw_aload_n1, pw_aloadN_n1, pw_getR, pw_iload_4, pw_iald, pw_cge, pw_aload_n0, pw_aloadN_n0, pw_iload_n2, pw_iload_n3, pw_iv4, pw_iv3, pw_zne, pw_goto, pw_istore, ps_6, pe_6, po_i6, po_r6, po_n6, po_u6, pw_iload_6, pw_ldcw, cn_4, pw_cne, pw_bipush, bl_m3, pw_nop, ps_7, pe_7, po_i7, po_r7, po_n7, po_u7, pw_iload_7, pw_zge, pw_putI, pw_ret0, pw_iinc_2, il_1, po_i2, po_r2, po_n2, po_u2, pw_istore_n3, ps_3, pe_3, po_i3, po_r3, po_n3, po_u3, pw_iinc_5, po_i5, po_r5, po_n5, po_u5, kd_32, rf_32_0, rf_32_1, rf_32_2, rf_32_3, rf_32_4, rf_32_5, rf_32_6, rf_32_7, rf_32_8, rf_32_9, rf_32_11, rf_32_12, rf_32_13, kd_36, rf_36_1, rf_36_2, rf_36_3, rf_36_4, rf_36_5, rf_36_7, rf_36_8, kd_37, kd_38, kd_45, rf_45_0, rf_45_1, kd_71, rf_71_1, rf_71_3, rf_71_4, rf_71_5, rf_71_6, rf_71_11, rf_71_12, rf_71_14, n_0, n_1, nn_lt, nn_nlt, nn_le, nn_nle, nn_ne, nn_sub, nn_mul, nI_add, nn_neg, nm_eq, mn_eq, mm_eq, mn_lt, nm_lt, mn_le, nm_le, nn_sub0, nn_of, implies_true, nn_c, nn_in, nn_div, nat_rem, Nat.reduceMul, Nat.reduceSub, Nat.reduceDiv, Nat.reduceMod, pf_at, pf_ne, mk_s, mk_1, Classical.not_not, b2i_T, b2i_F, false_imp_iff, true_imp_iff, false_and, and_false, p_sw, Int.reduceAdd, Int.zero_add, Option.some.injEq, Value.int.injEq, Value.long.injEq, Value.ref.injEq, exists_eq_left', mk_I, mk_L, mk_wI, mk_wL, rf_s, rf_n, true_and, and_true, and_self, or_true, true_or, or_false, false_or, not_true_eq_false, not_false_eq_true, Option.toList_some, Option.toList_none, List.cons_append, List.nil_append, List.map_nil, List.map_cons, List.sum_nil, List.sum_cons, cat_i, cat_l, cat_r, cat_n, Nat.reduceLeDiff, Nat.reduceAdd, Nat.reduceEqDiff, Nat.zero_le, p_ent, p_u_ne, p_u_at, reduceIte, if_true, if_false, r1, r1', r2, P_ce s25, P_ce s29, P_ce s30', nb, P_ce s121, hneg, k0]
          exact P_ls hH two_l
  · have er : oR c cl s = some s := by unfold oR; rw [if_neg cg]
    rw [decide_eq_false cg, bI_f] at s29
    have hH := H s J2 er f2 c2
    clear H HN er
    generalize cl_t cl = tt at *
    generalize s.2.2.2.1 = nn at *
    generalize s.2.2.2.2 = aa at *
    rw [P_run_eq, bk_120_2, pb_120_2]; simp -implicitDefEqProofs (disch := first | omega | decide) only [P_m, ↓P_run_eq _ 120 _ (p_bk 120 7), bk_120_7, pb_120_7, pw_iload_5, pw_aload_n1, pw_aloadN_n1, pw_getR, pw_iload_4, pw_iald, pw_cge, pw_aload_n0, pw_aloadN_n0, pw_iload_n2, pw_iload_n3, pw_iv4, pw_iv3, pw_zne, pw_goto, pw_iinc_5, il_1, po_i5, po_r5, po_n5, po_u5, kd_32, rf_32_0, rf_32_1, rf_32_2, rf_32_3, rf_32_4, rf_32_5, rf_32_6, rf_32_7, rf_32_8, rf_32_9, rf_32_11, rf_32_12, rf_32_13, kd_36, rf_36_1, rf_36_2, rf_36_3, rf_36_4, rf_36_5, rf_36_7, rf_36_8, kd_38, kd_45, rf_45_0, rf_45_1, kd_71, rf_71_1, rf_71_3, rf_71_4, rf_71_5, rf_71_6, rf_71_11, rf_71_12, rf_71_14, n_0, n_1, nn_lt, nn_nlt, nn_le, nn_nle, nn_ne, nn_sub, nn_mul, nI_add, nn_neg, nm_eq, mn_eq, mm_eq, mn_lt, nm_lt, mn_le, nm_le, nn_sub0, nn_of, implies_true, nn_c, nn_in, nn_div, nat_rem, Nat.reduceMul, Nat.reduceSub, Nat.reduceDiv, Nat.reduceMod, pf_at, pf_ne, mk_s, mk_1, Classical.not_not, b2i_T, b2i_F, false_imp_iff, true_imp_iff, false_and, and_false, p_sw, Int.reduceAdd, Int.zero_add, Option.some.injEq, Value.int.injEq, Value.long.injEq, Value.ref.injEq, exists_eq_left', mk_I, mk_L, mk_wI, mk_wL, rf_s, rf_n, true_and, and_true, and_self, or_true, true_or, or_false, false_or, not_true_eq_false, not_false_eq_true, Option.toList_some, Option.toList_none, List.cons_append, List.nil_append, List.map_nil, List.map_cons, List.sum_nil, List.sum_cons, cat_i, cat_l, cat_r, cat_n, Nat.reduceLeDiff, Nat.reduceAdd, Nat.reduceEqDiff, Nat.zero_le, p_ent, p_u_ne, p_u_at, reduceIte, if_true, if_false, r2, P_ce s25, P_ce s29]
    exact hH
end OY
