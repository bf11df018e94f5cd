/-! THE REFERENCE READS TESTS -/
section QT
variable {o : Bool} {C V : Nat → Nat}
theorem pB_l : ∀ n md p d k l c g cs r, pB o C V n md p d k l c g cs = some (.ok r) → l ≤ 50 → r.2.1 ≤ 50
  | 0, md, p, d, k, l, c, g, cs, r, h, _ => by cases h
  | n + 1, 0, p, d, k, l, c, g, cs, r, h, hl => by
    have h : (if C k = 7 then pB o C V n 0 (!p) d (k + 1) l c g [] else if C k = 140 then (if 8 ≤ d then some (.error k) else bnd (pB o C V n 1 false (d + 1) (k + 1) l c g []) fun r => if C r.1 = 141 then some (.ok (r.1 + 1, r.2.1, notD p r.2.2.1, r.2.2.2 ++ notC p)) else some (.error r.1)) else bnd (pS o C V n 1 d k l (fun _ => none) []) fun r => if cmpOp (C r.1) = 0 then some (.error r.1) else bnd (pS o C V n 1 d (r.1 + 1) r.2.1 (fun _ => none) []) fun s => some (.ok (s.1, s.2.1, notD p (cmpS (cmpOp (C r.1)) r.2.2.1 s.2.2.1), r.2.2.2 ++ (s.2.2.2 ++ ((cmpOp (C r.1), 0) :: notC p))))) = some (.ok r) := h
    split at h
    · exact pB_l n 0 _ _ _ _ _ _ _ _ h hl
    · split at h
      · split at h
        · cases h
        · obtain ⟨a, h1, h2⟩ := bnd_iok h
          split at h2
          · cases h2
            have := pB_l n 1 _ _ _ _ _ _ _ a h1 hl
            exact this
          · cases h2
      · obtain ⟨a, h1, h2⟩ := bnd_iok h
        split at h2
        · cases h2
        · obtain ⟨s, h3, h4⟩ := bnd_iok h2
          cases h4
          have := pS_l n 1 _ _ _ _ _ s h3 (pS_l n 1 _ _ _ _ _ a h1 hl)
          exact this
  | n + 1, 1, p, d, k, l, c, g, cs, r, h, hl => by
    obtain ⟨a, h1, h2⟩ := bnd_iok h
    obtain ⟨b, h3, h4⟩ := bnd_iok h2
    exact pB_l n 3 _ _ _ _ _ _ _ _ h4 (pB_l n 2 _ _ _ _ _ _ _ _ h3 (pB_l n 0 _ _ _ _ _ _ _ _ h1 hl))
  | n + 1, 2, p, d, k, l, c, g, cs, r, h, hl => by
    have h : (if C k = 6 then bnd (pB o C V n 0 false d (k + 1) l (c + cs.length + 1) g []) fun r => pB o C V n 2 false d r.1 r.2.1 c (andD g r.2.2.1) (cs ++ ((3, c + cs.length + 1 + r.2.2.2.length) :: r.2.2.2)) else some (.ok (k, l, g, cs))) = some (.ok r) := h
    split at h
    · obtain ⟨a, h1, h2⟩ := bnd_iok h
      exact pB_l n 2 _ _ _ _ _ _ _ _ h2 (pB_l n 0 _ _ _ _ _ _ _ _ h1 hl)
    · cases h; exact hl
  | n + 1, md + 3, p, d, k, l, c, g, cs, r, h, hl => by
    have h : (if C k = 5 then bnd (pB o C V n 0 false d (k + 1) l (c + cs.length + 1) g []) fun r => bnd (pB o C V n 2 false d r.1 r.2.1 (c + cs.length + 1) r.2.2.1 r.2.2.2) fun r => pB o C V n 3 false d r.1 r.2.1 c (orD g r.2.2.1) (cs ++ ((4, c + cs.length + 1 + r.2.2.2.length) :: r.2.2.2)) else some (.ok (k, l, g, cs))) = some (.ok r) := h
    split at h
    · obtain ⟨a, h1, h2⟩ := bnd_iok h
      obtain ⟨b, h3, h4⟩ := bnd_iok h2
      exact pB_l n 3 _ _ _ _ _ _ _ _ h4 (pB_l n 2 _ _ _ _ _ _ _ _ h3 (pB_l n 0 _ _ _ _ _ _ _ _ h1 hl))
    · cases h; exact hl
theorem RB_l {md d k l c : Nat} {p : Bool} {g : tDB} {cs : tCd} {r : Nat × Nat × tDB × tCd} (h : RB o C V md p d k l c g cs = some (.ok r)) (hl : l ≤ 50) : r.2.1 ≤ 50 := pB_l 2200 md p d k l c g cs r h hl
end QT
section QU
variable {d Ls : Nat} {I : Nat → Nat → Int32} {L : Nat → Nat → Int64} {R : Nat → Nat → Option Nat} {X : List pKd} {h : pHp} {B : Nat → Nat} {T N : Nat} {o : Bool}
theorem er_174 {k l p : Nat} {x : Int32} (hp : p ≤ 400) : P_m (d + 2) 174 [.ref 123, .int x] (p_mk Ls (mst I k l (nI p)) L R X) (fun v h' => v = none ∧ h' = p_mk Ls (mst I k l (nI p)) L R X) := by
  have s1 := ta_n (d := d) (Ls := Ls) (I := I) (L := L) (R := R) (X := X) (k := k) (l := l) (c := nI 7) hp
  have s2 := fi_n (d := d + 1) (Ls := Ls) (I := I) (L := L) (R := R) (X := X) (k := k) (l := l) hp
  generalize mst I k l (nI p) = J at *
  have n1 : P_run (d + 2) 174 (p_bk 174 1) 0 0 [.ref 123, .int x, .int (nI 0)] [] (p_mk Ls J L R X) (fun v h' => v = none ∧ h' = p_mk Ls J L R X) := by
    rw [P_run_eq, bk_174_1, pb_174_1]; simp -implicitDefEqProofs (disch := first | omega | decide) only [P_m, ↓P_run_eq _ 174 _ (p_bk 174 2), bk_174_2, pb_174_2, pw_iload_n2, pw_zeq, pw_aload_n0, pw_aloadN_n0, pw_bipush, bl_7, pw_iv2, pw_istore_n2, ps_2, pe_2, po_i2, po_r2, po_n2, po_u2, pw_goto, pw_iv1, pw_zne, pw_vret, kd_123, rf_123_1, rf_123_2, rf_123_3, rf_123_4, rf_123_5, rf_123_7, rf_123_11, rf_123_12, rf_123_15, rf_123_16, rf_123_17, rf_123_26, rf_123_29, rf_123_30, rf_123_32, rf_123_34, rf_123_35, rf_123_45, n_0, n_1, n_7, nn_lt, nn_nlt, nn_le, nn_nle, nn_ne, nn_sub, nn_mul, nI_add, nn_neg, nm_eq, mn_eq, mm_eq, mn_lt, nm_lt, mn_le, nm_le, nn_sub0, nn_of, implies_true, nn_c, nn_in, nn_div, nat_rem, Nat.reduceMul, Nat.reduceSub, Nat.reduceDiv, Nat.reduceMod, pf_at, pf_ne, mk_s, mk_1, Classical.not_not, b2i_T, b2i_F, false_imp_iff, true_imp_iff, false_and, and_false, p_sw, Int.reduceAdd, Int.zero_add, Option.some.injEq, Value.int.injEq, Value.long.injEq, Value.ref.injEq, exists_eq_left', mk_I, mk_L, mk_wI, mk_wL, rf_s, rf_n, true_and, and_true, and_self, or_true, true_or, or_false, false_or, not_true_eq_false, not_false_eq_true, Option.toList_some, Option.toList_none, List.cons_append, List.nil_append, List.map_nil, List.map_cons, List.sum_nil, List.sum_cons, cat_i, cat_l, cat_r, cat_n, Nat.reduceLeDiff, Nat.reduceAdd, Nat.reduceEqDiff, Nat.zero_le, p_ent, p_u_ne, p_u_at, reduceIte, if_true, if_false, P_ce s2]
  have n0 : P_run (d + 2) 174 (p_bk 174 1) 0 0 [.ref 123, .int x, .int (nI 1)] [] (p_mk Ls J L R X) (fun v h' => v = none ∧ h' = p_mk Ls J L R X) := by
    rw [P_run_eq, bk_174_1, pb_174_1]; simp -implicitDefEqProofs (disch := first | omega | decide) only [P_m, pw_iload_n2, pw_zeq, pw_aload_n0, pw_aloadN_n0, pw_bipush, bl_7, pw_iv2, pw_istore_n2, ps_2, pe_2, po_i2, po_r2, po_n2, po_u2, pw_goto, kd_123, rf_123_1, rf_123_2, rf_123_3, rf_123_4, rf_123_5, rf_123_7, rf_123_11, rf_123_12, rf_123_15, rf_123_16, rf_123_17, rf_123_26, rf_123_29, rf_123_30, rf_123_32, rf_123_34, rf_123_35, rf_123_45, n_0, n_1, n_7, nn_lt, nn_nlt, nn_le, nn_nle, nn_ne, nn_sub, nn_mul, nI_add, nn_neg, nm_eq, mn_eq, mm_eq, mn_lt, nm_lt, mn_le, nm_le, nn_sub0, nn_of, implies_true, nn_c, nn_in, nn_div, nat_rem, Nat.reduceMul, Nat.reduceSub, Nat.reduceDiv, Nat.reduceMod, pf_at, pf_ne, mk_s, mk_1, Classical.not_not, b2i_T, b2i_F, false_imp_iff, true_imp_iff, false_and, and_false, p_sw, Int.reduceAdd, Int.zero_add, Option.some.injEq, Value.int.injEq, Value.long.injEq, Value.ref.injEq, exists_eq_left', mk_I, mk_L, mk_wI, mk_wL, rf_s, rf_n, true_and, and_true, and_self, or_true, true_or, or_false, false_or, not_true_eq_false, not_false_eq_true, Option.toList_some, Option.toList_none, List.cons_append, List.nil_append, List.map_nil, List.map_cons, List.sum_nil, List.sum_cons, cat_i, cat_l, cat_r, cat_n, Nat.reduceLeDiff, Nat.reduceAdd, Nat.reduceEqDiff, Nat.zero_le, p_ent, p_u_ne, p_u_at, reduceIte, if_true, if_false, P_ce s1]
    exact n1
  simp -implicitDefEqProofs (disch := first | omega | decide) only [P_m, ↓P_run_eq _ 174 _ (p_bk 174 0), bk_174_0, pb_174_0, pw_iconst, il_1, pw_istore_n2, ps_2, pe_2, po_i2, po_r2, po_n2, po_u2, pw_nop, kd_123, rf_123_1, rf_123_2, rf_123_3, rf_123_4, rf_123_5, rf_123_7, rf_123_11, rf_123_12, rf_123_15, rf_123_16, rf_123_17, rf_123_26, rf_123_29, rf_123_30, rf_123_32, rf_123_34, rf_123_35, rf_123_45, n_0, n_1, nn_lt, nn_nlt, nn_le, nn_nle, nn_ne, nn_sub, nn_mul, nI_add, nn_neg, nm_eq, mn_eq, mm_eq, mn_lt, nm_lt, mn_le, nm_le, nn_sub0, nn_of, implies_true, nn_c, nn_in, nn_div, nat_rem, Nat.reduceMul, Nat.reduceSub, Nat.reduceDiv, Nat.reduceMod, pf_at, pf_ne, mk_s, mk_1, Classical.not_not, b2i_T, b2i_F, false_imp_iff, true_imp_iff, false_and, and_false, p_sw, Int.reduceAdd, Int.zero_add, Option.some.injEq, Value.int.injEq, Value.long.injEq, Value.ref.injEq, exists_eq_left', mk_I, mk_L, mk_wI, mk_wL, rf_s, rf_n, true_and, and_true, and_self, or_true, true_or, or_false, false_or, not_true_eq_false, not_false_eq_true, Option.toList_some, Option.toList_none, List.cons_append, List.nil_append, List.map_nil, List.map_cons, List.sum_nil, List.sum_cons, cat_i, cat_l, cat_r, cat_n, Nat.reduceLeDiff, Nat.reduceAdd, Nat.reduceEqDiff, Nat.zero_le, p_ent, p_u_ne, p_u_at, reduceIte, if_true, if_false]
  exact n0
theorem er_173b {k l p : Nat} {x : Int32} (hp : p ≤ 400) : P_run (d + 2) 173 (p_bk 173 1) 0 0 [.ref 123, .int x] [] (p_mk Ls (mst I k l (nI p)) L R X) (fun v h' => v = none ∧ h' = p_mk Ls (mst I k l (nI p)) L R X) := by
  have s1 := ta_n (d := d) (Ls := Ls) (I := I) (L := L) (R := R) (X := X) (k := k) (l := l) (c := nI 6) hp
  generalize mst I k l (nI p) = J at *
  rw [P_run_eq, bk_173_1, pb_173_1]; simp -implicitDefEqProofs (disch := first | omega | decide) only [P_m, ↓P_run_eq _ 173 _ (p_bk 173 2), bk_173_2, pb_173_2, pw_aload_n0, pw_aloadN_n0, pw_bipush, bl_6, pw_iv2, pw_zeq, pw_iload_n1, pw_goto, pw_vret, kd_123, rf_123_1, rf_123_2, rf_123_3, rf_123_4, rf_123_5, rf_123_7, rf_123_11, rf_123_12, rf_123_15, rf_123_16, rf_123_17, rf_123_26, rf_123_29, rf_123_30, rf_123_32, rf_123_34, rf_123_35, rf_123_45, n_0, n_1, n_6, nn_lt, nn_nlt, nn_le, nn_nle, nn_ne, nn_sub, nn_mul, nI_add, nn_neg, nm_eq, mn_eq, mm_eq, mn_lt, nm_lt, mn_le, nm_le, nn_sub0, nn_of, implies_true, nn_c, nn_in, nn_div, nat_rem, Nat.reduceMul, Nat.reduceSub, Nat.reduceDiv, Nat.reduceMod, pf_at, pf_ne, mk_s, mk_1, Classical.not_not, b2i_T, b2i_F, false_imp_iff, true_imp_iff, false_and, and_false, p_sw, Int.reduceAdd, Int.zero_add, Option.some.injEq, Value.int.injEq, Value.long.injEq, Value.ref.injEq, exists_eq_left', mk_I, mk_L, mk_wI, mk_wL, rf_s, rf_n, true_and, and_true, and_self, or_true, true_or, or_false, false_or, not_true_eq_false, not_false_eq_true, Option.toList_some, Option.toList_none, List.cons_append, List.nil_append, List.map_nil, List.map_cons, List.sum_nil, List.sum_cons, cat_i, cat_l, cat_r, cat_n, Nat.reduceLeDiff, Nat.reduceAdd, Nat.reduceEqDiff, Nat.zero_le, p_ent, p_u_ne, p_u_at, reduceIte, if_true, if_false, P_ce s1]
theorem er_172b {k l p : Nat} {x : Int32} (hp : p ≤ 400) : P_run (d + 2) 172 (p_bk 172 1) 0 0 [.ref 123, .int x] [] (p_mk Ls (mst I k l (nI p)) L R X) (fun v h' => v = none ∧ h' = p_mk Ls (mst I k l (nI p)) L R X) := by
  have s1 := ta_n (d := d) (Ls := Ls) (I := I) (L := L) (R := R) (X := X) (k := k) (l := l) (c := nI 5) hp
  generalize mst I k l (nI p) = J at *
  rw [P_run_eq, bk_172_1, pb_172_1]; simp -implicitDefEqProofs (disch := first | omega | decide) only [P_m, ↓P_run_eq _ 172 _ (p_bk 172 2), bk_172_2, pb_172_2, pw_aload_n0, pw_aloadN_n0, pw_iconst, il_5, pw_iv2, pw_zeq, pw_iload_n1, pw_goto, pw_vret, kd_123, rf_123_1, rf_123_2, rf_123_3, rf_123_4, rf_123_5, rf_123_7, rf_123_11, rf_123_12, rf_123_15, rf_123_16, rf_123_17, rf_123_26, rf_123_29, rf_123_30, rf_123_32, rf_123_34, rf_123_35, rf_123_45, n_0, n_1, n_5, nn_lt, nn_nlt, nn_le, nn_nle, nn_ne, nn_sub, nn_mul, nI_add, nn_neg, nm_eq, mn_eq, mm_eq, mn_lt, nm_lt, mn_le, nm_le, nn_sub0, nn_of, implies_true, nn_c, nn_in, nn_div, nat_rem, Nat.reduceMul, Nat.reduceSub, Nat.reduceDiv, Nat.reduceMod, pf_at, pf_ne, mk_s, mk_1, Classical.not_not, b2i_T, b2i_F, false_imp_iff, true_imp_iff, false_and, and_false, p_sw, Int.reduceAdd, Int.zero_add, Option.some.injEq, Value.int.injEq, Value.long.injEq, Value.ref.injEq, exists_eq_left', mk_I, mk_L, mk_wI, mk_wL, rf_s, rf_n, true_and, and_true, and_self, or_true, true_or, or_false, false_or, not_true_eq_false, not_false_eq_true, Option.toList_some, Option.toList_none, List.cons_append, List.nil_append, List.map_nil, List.map_cons, List.sum_nil, List.sum_cons, cat_i, cat_l, cat_r, cat_n, Nat.reduceLeDiff, Nat.reduceAdd, Nat.reduceEqDiff, Nat.zero_le, p_ent, p_u_ne, p_u_at, reduceIte, if_true, if_false, P_ce s1]
end QU
section QV
variable (o : Bool) (B : Nat → Nat) (T Ls : Nat) (I : Nat → Nat → Int32) (L : Nat → Nat → Int64) (R : Nat → Nat → Option Nat) (X : List pKd)
def okTm (k : Nat) : Prop := ∀ x d l c p g cs r, d ≤ 8 → l ≤ 50 → RB o (tC B T) (tV B T) 1 p d k l c g cs = some r → ∃ J, mR B T I J r ∧ P_m (x + 3 * (8 - d) + 9) 172 [.ref 123, .int (nI d)] (p_mk Ls (mst I k l (mI 1)) L R X) (fun v h' => v = none ∧ h' = p_mk Ls J L R X)
def okPl (k : Nat) : Prop := ∀ x d l c p g cs r, d ≤ 8 → l ≤ 50 → RB o (tC B T) (tV B T) 0 p d k l c g cs = some r → ∃ J, mR B T I J r ∧ P_m (x + 3 * (8 - d) + 7) 174 [.ref 123, .int (nI d)] (p_mk Ls (mst I k l (mI 1)) L R X) (fun v h' => v = none ∧ h' = p_mk Ls J L R X)
end QV
section QW
variable {d Ls : Nat} {I : Nat → Nat → Int32} {L : Nat → Nat → Int64} {R : Nat → Nat → Option Nat} {X : List pKd} {h : pHp} {B : Nat → Nat} {T N : Nat} {o : Bool}
/-- behind the nots -/
theorem tl_174 {x d k l c : Nat} {p : Bool} {g : tDB} {cs : tCd} {r : Except Nat (Nat × Nat × tDB × tCd)} (hM : mF B T N o I) (hC : ∀ k, tC B T k < 356) (hN : ∀ k, N ≤ k → tC B T k = 0) (d8 : d ≤ 8) (l5 : l ≤ 50) (hk : k ≤ N) (hT : k < N → okTm o B T Ls I L R X (k + 1)) (h7 : ¬ tC B T k = 7) (hr : RB o (tC B T) (tV B T) 0 p d k l c g cs = some r) : P_run (x + 3 * (8 - d) + 6 + 1) 174 (p_bk 174 2) 0 0 [.ref 123, .int (nI d), .int (nI 0)] [] (p_mk Ls (mst I k l (mI 1)) L R X) (fun v h' => v = none ∧ ∃ J, mR B T I J r ∧ h' = p_mk Ls J L R X) := by
  have h4 := hM.2.1
  have T4 := hM.2.2.2.2.2.2
  have tb := tS_b (B := B) (T := T) k
  have cl := hC k
  rw [RB_0 hN h4 hk, if_neg h7] at hr
  have e19 := mst_19 (I := I) (k := k) (l := l) (b := mI 1)
  obtain ⟨t1, t2, t3⟩ := hM.1 k (by omega)
  have e132 : mst I k l (mI 1) 132 k = nI (tC B T k) := by rw [mst_ne (by omega)]; exact t1
  have s1 := fi_y (d := x + 3 * (8 - d) + 6) (Ls := Ls) (I := I) (L := L) (R := R) (X := X) (k := k) (l := l)
  by_cases c1 : tC B T k = 140
  · have kN := kN_of hN (show ¬ tC B T k = 0 by omega)
    rw [if_pos c1] at hr
    rw [c1] at e132
    by_cases c8 : 8 ≤ d
    · rw [if_pos c8] at hr
      cases hr
      have d8' : d = 8 := by omega
      subst d8'
      have sf := fa_y (d := x + 3 * (8 - 8) + 5) (Ls := Ls) (L := L) (R := R) (X := X) (l := l) hM hk
      have sn := fi_n (d := x + 3 * (8 - 8) + 6) (Ls := Ls) (I := I) (L := L) (R := R) (X := X) (k := k) (l := l) (p := tS B T k) (by omega)
      have fin : mR B T I (mst I k l (nI (tS B T k))) (.error k : Except Nat (Nat × Nat × tDB × tCd)) := ⟨k, l, rfl⟩
      generalize mst I k l (nI (tS B T k)) = J1 at *
      generalize mst I k l (mI 1) = J at *
      rw [P_run_eq, bk_174_2, pb_174_2]; simp -implicitDefEqProofs (disch := first | omega | decide) only [P_m, ↓P_run_eq _ 174 _ (p_bk 174 3), bk_174_3, pb_174_3, ↓P_run_eq _ 174 _ (p_bk 174 4), bk_174_4, pb_174_4, pw_aload_n0, pw_aloadN_n0, pw_iv1, pw_zne, pw_vret, pw_getR, pw_getI, pw_iald, pw_istore_n3, ps_3, pe_3, po_i3, po_r3, po_n3, po_u3, pw_iload_n3, pw_bipush, bl_40, pw_is1, pw_cne, pw_iload_n1, bl_8, pw_nop, kd_123, rf_123_1, rf_123_2, rf_123_3, rf_123_4, rf_123_5, rf_123_7, rf_123_11, rf_123_12, rf_123_15, rf_123_16, rf_123_17, rf_123_26, rf_123_29, rf_123_30, rf_123_32, rf_123_34, rf_123_35, rf_123_45, kd_132, n_0, n_1, n_8, n_40, nn_lt, nn_nlt, nn_le, nn_nle, nn_ne, nn_sub, nn_mul, nI_add, nn_neg, nm_eq, mn_eq, mm_eq, mn_lt, nm_lt, mn_le, nm_le, nn_sub0, nn_of, implies_true, nn_c, nn_in, nn_div, nat_rem, Nat.reduceMul, Nat.reduceSub, Nat.reduceDiv, Nat.reduceMod, pf_at, pf_ne, mk_s, mk_1, Classical.not_not, b2i_T, b2i_F, false_imp_iff, true_imp_iff, false_and, and_false, p_sw, Int.reduceAdd, Int.zero_add, Option.some.injEq, Value.int.injEq, Value.long.injEq, Value.ref.injEq, exists_eq_left', mk_I, mk_L, mk_wI, mk_wL, rf_s, rf_n, true_and, and_true, and_self, or_true, true_or, or_false, false_or, not_true_eq_false, not_false_eq_true, Option.toList_some, Option.toList_none, List.cons_append, List.nil_append, List.map_nil, List.map_cons, List.sum_nil, List.sum_cons, cat_i, cat_l, cat_r, cat_n, Nat.reduceLeDiff, Nat.reduceAdd, Nat.reduceEqDiff, Nat.zero_le, p_ent, p_u_ne, p_u_at, reduceIte, if_true, if_false, e19, e132, P_ce (sp_167), P_ce s1, P_ce sf, P_ce sn]
      exact ⟨J1, fin, rfl⟩
    · rw [if_neg c8] at hr
      have w := mst_w19 (I := I) (k := k) (l := l) (b := mI 1) (k' := k + 1)
      obtain ⟨q, hq⟩ := RB_t (o := o) (V := tV B T) (md := 1) (d := d + 1) (l := l) (c := c) (p := false) (g := g) (cs := []) hN h4 (show k + 1 ≤ N by omega) (by omega)
      obtain ⟨J, o1, s172⟩ := hT kN x (d + 1) l c false g [] q (by omega) l5 hq
      rw [show x + 3 * (8 - (d + 1)) + 9 = x + 3 * (8 - d) + 6 by omega] at s172
      rw [hq] at hr
      match q, hq, o1, hr with
      | .error e, hq, o1, hr =>
        cases hr
        obtain ⟨k', l', rfl⟩ := o1
        have te := tS_b (B := B) (T := T) e
        have s165 := mu_n (d := x + 3 * (8 - d) + 4) (Ls := Ls) (I := I) (L := L) (R := R) (X := X) (k := k') (l := l') (p := tS B T e) (c := nI 141) (by omega)
        have fin : mR B T I (mst I k' l' (nI (tS B T e))) (.error e : Except Nat (Nat × Nat × tDB × tCd)) := ⟨k', l', rfl⟩
        generalize mst I k' l' (nI (tS B T e)) = J1 at *
        generalize mst I (k + 1) l (mI 1) = J2 at *
        generalize mst I k l (mI 1) = J at *
        rw [P_run_eq, bk_174_2, pb_174_2]; simp -implicitDefEqProofs (disch := first | omega | decide) only [P_m, ↓P_run_eq _ 174 _ (p_bk 174 3), bk_174_3, pb_174_3, ↓P_run_eq _ 174 _ (p_bk 174 4), bk_174_4, pb_174_4, ↓P_run_eq _ 174 _ (p_bk 174 5), bk_174_5, pb_174_5, ↓P_run_eq _ 174 _ (p_bk 174 8), bk_174_8, pb_174_8, pw_aload_n0, pw_aloadN_n0, pw_iv1, pw_zne, pw_vret, pw_getR, pw_getI, pw_iald, pw_istore_n3, ps_3, pe_3, po_i3, po_r3, po_n3, po_u3, pw_iload_n3, pw_bipush, bl_40, pw_is1, pw_cne, pw_iload_n1, bl_8, pw_nop, pw_dupi, pw_dupr, pw_iconst, il_1, pw_iadd, pw_putI, pw_iv2, bl_41, pw_goto, kd_123, rf_123_1, rf_123_2, rf_123_3, rf_123_4, rf_123_5, rf_123_7, rf_123_11, rf_123_12, rf_123_15, rf_123_16, rf_123_17, rf_123_26, rf_123_29, rf_123_30, rf_123_32, rf_123_34, rf_123_35, rf_123_45, kd_132, n_0, n_1, n_8, n_40, n_41, nn_lt, nn_nlt, nn_le, nn_nle, nn_ne, nn_sub, nn_mul, nI_add, nn_neg, nm_eq, mn_eq, mm_eq, mn_lt, nm_lt, mn_le, nm_le, nn_sub0, nn_of, implies_true, nn_c, nn_in, nn_div, nat_rem, Nat.reduceMul, Nat.reduceSub, Nat.reduceDiv, Nat.reduceMod, pf_at, pf_ne, mk_s, mk_1, Classical.not_not, b2i_T, b2i_F, false_imp_iff, true_imp_iff, false_and, and_false, p_sw, Int.reduceAdd, Int.zero_add, Option.some.injEq, Value.int.injEq, Value.long.injEq, Value.ref.injEq, exists_eq_left', mk_I, mk_L, mk_wI, mk_wL, rf_s, rf_n, true_and, and_true, and_self, or_true, true_or, or_false, false_or, not_true_eq_false, not_false_eq_true, Option.toList_some, Option.toList_none, List.cons_append, List.nil_append, List.map_nil, List.map_cons, List.sum_nil, List.sum_cons, cat_i, cat_l, cat_r, cat_n, Nat.reduceLeDiff, Nat.reduceAdd, Nat.reduceEqDiff, Nat.zero_le, p_ent, p_u_ne, p_u_at, reduceIte, if_true, if_false, e19, e132, w, P_ce (sp_167), P_ce s1, P_ce s172, P_ce s165]
        exact ⟨J1, fin, rfl⟩
      | .ok q, hq, o1, hr =>
        rw [bnd_ok] at hr
        obtain ⟨q1, -⟩ := RB_pr hN hq (show k + 1 ≤ N by omega)
        have o1 : J = mst I q.1 q.2.1 (mI 1) := o1
        subst o1
        have s165 := mu_y (d := x + 3 * (8 - d) + 4) (Ls := Ls) (L := L) (R := R) (X := X) (l := q.2.1) (c := 141) hM q1 (by omega) (hC _)
        by_cases c3 : tC B T q.1 = 141
        · rw [if_pos c3] at hr s165
          cases hr
          have fin : mR B T I (mst I (q.1 + 1) q.2.1 (mI 1)) (.ok (q.1 + 1, q.2.1, notD p q.2.2.1, q.2.2.2 ++ notC p) : Except Nat (Nat × Nat × tDB × tCd)) := rfl
          generalize (Except.ok (q.1 + 1, q.2.1, notD p q.2.2.1, q.2.2.2 ++ notC p) : Except Nat (Nat × Nat × tDB × tCd)) = RR at *
          generalize mst I (q.1 + 1) q.2.1 (mI 1) = J3 at *
          generalize mst I q.1 q.2.1 (mI 1) = J1 at *
          generalize mst I (k + 1) l (mI 1) = J2 at *
          generalize mst I k l (mI 1) = J at *
          rw [P_run_eq, bk_174_2, pb_174_2]; simp -implicitDefEqProofs (disch := first | omega | decide) only [P_m, ↓P_run_eq _ 174 _ (p_bk 174 3), bk_174_3, pb_174_3, ↓P_run_eq _ 174 _ (p_bk 174 4), bk_174_4, pb_174_4, ↓P_run_eq _ 174 _ (p_bk 174 5), bk_174_5, pb_174_5, ↓P_run_eq _ 174 _ (p_bk 174 8), bk_174_8, pb_174_8, pw_aload_n0, pw_aloadN_n0, pw_iv1, pw_zne, pw_vret, pw_getR, pw_getI, pw_iald, pw_istore_n3, ps_3, pe_3, po_i3, po_r3, po_n3, po_u3, pw_iload_n3, pw_bipush, bl_40, pw_is1, pw_cne, pw_iload_n1, bl_8, pw_nop, pw_dupi, pw_dupr, pw_iconst, il_1, pw_iadd, pw_putI, pw_iv2, bl_41, pw_goto, kd_123, rf_123_1, rf_123_2, rf_123_3, rf_123_4, rf_123_5, rf_123_7, rf_123_11, rf_123_12, rf_123_15, rf_123_16, rf_123_17, rf_123_26, rf_123_29, rf_123_30, rf_123_32, rf_123_34, rf_123_35, rf_123_45, kd_132, n_0, n_1, n_8, n_40, n_41, nn_lt, nn_nlt, nn_le, nn_nle, nn_ne, nn_sub, nn_mul, nI_add, nn_neg, nm_eq, mn_eq, mm_eq, mn_lt, nm_lt, mn_le, nm_le, nn_sub0, nn_of, implies_true, nn_c, nn_in, nn_div, nat_rem, Nat.reduceMul, Nat.reduceSub, Nat.reduceDiv, Nat.reduceMod, pf_at, pf_ne, mk_s, mk_1, Classical.not_not, b2i_T, b2i_F, false_imp_iff, true_imp_iff, false_and, and_false, p_sw, Int.reduceAdd, Int.zero_add, Option.some.injEq, Value.int.injEq, Value.long.injEq, Value.ref.injEq, exists_eq_left', mk_I, mk_L, mk_wI, mk_wL, rf_s, rf_n, true_and, and_true, and_self, or_true, true_or, or_false, false_or, not_true_eq_false, not_false_eq_true, Option.toList_some, Option.toList_none, List.cons_append, List.nil_append, List.map_nil, List.map_cons, List.sum_nil, List.sum_cons, cat_i, cat_l, cat_r, cat_n, Nat.reduceLeDiff, Nat.reduceAdd, Nat.reduceEqDiff, Nat.zero_le, p_ent, p_u_ne, p_u_at, reduceIte, if_true, if_false, e19, e132, w, P_ce (sp_167), P_ce s1, P_ce s172, P_ce s165]
          exact ⟨J3, fin, rfl⟩
        · rw [if_neg c3] at hr s165
          cases hr
          have fin : mR B T I (mst I q.1 q.2.1 (nI (tS B T q.1))) (.error q.1 : Except Nat (Nat × Nat × tDB × tCd)) := ⟨q.1, q.2.1, rfl⟩
          generalize mst I q.1 q.2.1 (nI (tS B T q.1)) = J3 at *
          generalize mst I q.1 q.2.1 (mI 1) = J1 at *
          generalize mst I (k + 1) l (mI 1) = J2 at *
          generalize mst I k l (mI 1) = J at *
          rw [P_run_eq, bk_174_2, pb_174_2]; simp -implicitDefEqProofs (disch := first | omega | decide) only [P_m, ↓P_run_eq _ 174 _ (p_bk 174 3), bk_174_3, pb_174_3, ↓P_run_eq _ 174 _ (p_bk 174 4), bk_174_4, pb_174_4, ↓P_run_eq _ 174 _ (p_bk 174 5), bk_174_5, pb_174_5, ↓P_run_eq _ 174 _ (p_bk 174 8), bk_174_8, pb_174_8, pw_aload_n0, pw_aloadN_n0, pw_iv1, pw_zne, pw_vret, pw_getR, pw_getI, pw_iald, pw_istore_n3, ps_3, pe_3, po_i3, po_r3, po_n3, po_u3, pw_iload_n3, pw_bipush, bl_40, pw_is1, pw_cne, pw_iload_n1, bl_8, pw_nop, pw_dupi, pw_dupr, pw_iconst, il_1, pw_iadd, pw_putI, pw_iv2, bl_41, pw_goto, kd_123, rf_123_1, rf_123_2, rf_123_3, rf_123_4, rf_123_5, rf_123_7, rf_123_11, rf_123_12, rf_123_15, rf_123_16, rf_123_17, rf_123_26, rf_123_29, rf_123_30, rf_123_32, rf_123_34, rf_123_35, rf_123_45, kd_132, n_0, n_1, n_8, n_40, n_41, nn_lt, nn_nlt, nn_le, nn_nle, nn_ne, nn_sub, nn_mul, nI_add, nn_neg, nm_eq, mn_eq, mm_eq, mn_lt, nm_lt, mn_le, nm_le, nn_sub0, nn_of, implies_true, nn_c, nn_in, nn_div, nat_rem, Nat.reduceMul, Nat.reduceSub, Nat.reduceDiv, Nat.reduceMod, pf_at, pf_ne, mk_s, mk_1, Classical.not_not, b2i_T, b2i_F, false_imp_iff, true_imp_iff, false_and, and_false, p_sw, Int.reduceAdd, Int.zero_add, Option.some.injEq, Value.int.injEq, Value.long.injEq, Value.ref.injEq, exists_eq_left', mk_I, mk_L, mk_wI, mk_wL, rf_s, rf_n, true_and, and_true, and_self, or_true, true_or, or_false, false_or, not_true_eq_false, not_false_eq_true, Option.toList_some, Option.toList_none, List.cons_append, List.nil_append, List.map_nil, List.map_cons, List.sum_nil, List.sum_cons, cat_i, cat_l, cat_r, cat_n, Nat.reduceLeDiff, Nat.reduceAdd, Nat.reduceEqDiff, Nat.zero_le, p_ent, p_u_ne, p_u_at, reduceIte, if_true, if_false, e19, e132, w, P_ce (sp_167), P_ce s1, P_ce s172, P_ce s165]
          exact ⟨J3, fin, rfl⟩
  · rw [if_neg c1] at hr
    obtain ⟨q, hq⟩ := RS_t (o := o) (V := tV B T) (md := 1) (d := d) (l := l) (f := fun _ => none) (cs := []) hN h4 hk (by omega)
    obtain ⟨J, o1, s175⟩ := sums_m (Ls := Ls) (L := L) (R := R) (X := X) hM hC hN k hk x d l _ [] q d8 l5 hq
    rw [hq] at hr
    match q, hq, o1, hr with
    | .error e, hq, o1, hr =>
      cases hr
      obtain ⟨k', l', rfl⟩ := o1
      have te := tS_b (B := B) (T := T) e
      have z1 := ta_n (d := x + 3 * (8 - d) + 5) (Ls := Ls) (I := I) (L := L) (R := R) (X := X) (k := k') (l := l') (p := tS B T e) (c := nI 160) (by omega)
      have z2 := ta_n (d := x + 3 * (8 - d) + 5) (Ls := Ls) (I := I) (L := L) (R := R) (X := X) (k := k') (l := l') (p := tS B T e) (c := nI 162) (by omega)
      have z3 := mu_n (d := x + 3 * (8 - d) + 4) (Ls := Ls) (I := I) (L := L) (R := R) (X := X) (k := k') (l := l') (p := tS B T e) (c := nI 161) (by omega)
      have z4 := er_175 (d := x + 3 * (8 - d) + 3) (Ls := Ls) (I := I) (L := L) (R := R) (X := X) (k := k') (l := l') (p := tS B T e) (x := nI d) (by omega)
      have fin : mR B T I (mst I k' l' (nI (tS B T e))) (.error e : Except Nat (Nat × Nat × tDB × tCd)) := ⟨k', l', rfl⟩
      generalize mst I k' l' (nI (tS B T e)) = J1 at *
      generalize mst I k l (mI 1) = J at *
      generalize tC B T k = cc at *
      rw [P_run_eq, bk_174_2, pb_174_2]; simp -implicitDefEqProofs (disch := first | omega | decide) only [P_m, ↓P_run_eq _ 174 _ (p_bk 174 3), bk_174_3, pb_174_3, ↓P_run_eq _ 174 _ (p_bk 174 6), bk_174_6, pb_174_6, ↓P_run_eq _ 174 _ (p_bk 174 7), bk_174_7, pb_174_7, ↓P_run_eq _ 174 _ (p_bk 174 8), bk_174_8, pb_174_8, pw_aload_n0, pw_aloadN_n0, pw_iv1, pw_zne, pw_vret, pw_getR, pw_getI, pw_iald, pw_istore_n3, ps_3, pe_3, po_i3, po_r3, po_n3, po_u3, pw_iload_n3, pw_bipush, bl_40, pw_is1, pw_cne, pw_iload_n1, bl_8, pw_nop, pw_iv2, bl_60, bl_62, bl_61, kd_123, rf_123_1, rf_123_2, rf_123_3, rf_123_4, rf_123_5, rf_123_7, rf_123_11, rf_123_12, rf_123_15, rf_123_16, rf_123_17, rf_123_26, rf_123_29, rf_123_30, rf_123_32, rf_123_34, rf_123_35, rf_123_45, kd_132, n_0, n_1, n_8, n_40, n_60, n_61, n_62, nn_lt, nn_nlt, nn_le, nn_nle, nn_ne, nn_sub, nn_mul, nI_add, nn_neg, nm_eq, mn_eq, mm_eq, mn_lt, nm_lt, mn_le, nm_le, nn_sub0, nn_of, implies_true, nn_c, nn_in, nn_div, nat_rem, Nat.reduceMul, Nat.reduceSub, Nat.reduceDiv, Nat.reduceMod, pf_at, pf_ne, mk_s, mk_1, Classical.not_not, b2i_T, b2i_F, false_imp_iff, true_imp_iff, false_and, and_false, p_sw, Int.reduceAdd, Int.zero_add, Option.some.injEq, Value.int.injEq, Value.long.injEq, Value.ref.injEq, exists_eq_left', mk_I, mk_L, mk_wI, mk_wL, rf_s, rf_n, true_and, and_true, and_self, or_true, true_or, or_false, false_or, not_true_eq_false, not_false_eq_true, Option.toList_some, Option.toList_none, List.cons_append, List.nil_append, List.map_nil, List.map_cons, List.sum_nil, List.sum_cons, cat_i, cat_l, cat_r, cat_n, Nat.reduceLeDiff, Nat.reduceAdd, Nat.reduceEqDiff, Nat.zero_le, p_ent, p_u_ne, p_u_at, reduceIte, if_true, if_false, e19, e132, P_ce (sp_167), P_ce s1, P_ce s175, P_ce z1, P_ce z2, P_ce z3, P_ce z4]
      exact ⟨J1, fin, rfl⟩
    | .ok q, hq, o1, hr =>
      rw [bnd_ok] at hr
      obtain ⟨q1, q2, -⟩ := RS_pr hN hq hk
      have ql := RS_l hq l5
      have o1 : J = mst I q.1 q.2.1 (mI 1) := o1
      subst o1
      obtain ⟨cm, m1, m2, m3, m4⟩ := cmp_cs (tC B T q.1)
      have z1 := ta_y (d := x + 3 * (8 - d) + 5) (Ls := Ls) (L := L) (R := R) (X := X) (l := q.2.1) (c := 160) hM q1 (by omega) (hC _)
      have z2 := ta_y (d := x + 3 * (8 - d) + 5) (Ls := Ls) (L := L) (R := R) (X := X) (l := q.2.1) (c := 162) hM q1 (by omega) (hC _)
      have z3 := mu_y (d := x + 3 * (8 - d) + 4) (Ls := Ls) (L := L) (R := R) (X := X) (l := q.2.1) (c := 161) hM q1 (by omega) (hC _)
      have tq := tS_b (B := B) (T := T) q.1
      by_cases c0 : cmpOp (tC B T q.1) = 0
      · rw [if_pos c0] at hr
        cases hr
        have n1 : ¬ tC B T q.1 = 160 := fun h => by rw [m1 h] at c0; cases c0
        have n2 : ¬ tC B T q.1 = 162 := fun h => by rw [m2 h] at c0; cases c0
        have n3 : ¬ tC B T q.1 = 161 := fun h => by rw [m3 h] at c0; cases c0
        rw [decide_eq_false n1, bN_f, if_neg n1] at z1
        rw [decide_eq_false n2, bN_f, if_neg n2] at z2
        rw [if_neg n3] at z3
        have z4 := er_175 (d := x + 3 * (8 - d) + 3) (Ls := Ls) (I := I) (L := L) (R := R) (X := X) (k := q.1) (l := q.2.1) (p := tS B T q.1) (x := nI d) (by omega)
        have fin : mR B T I (mst I q.1 q.2.1 (nI (tS B T q.1))) (.error q.1 : Except Nat (Nat × Nat × tDB × tCd)) := ⟨q.1, q.2.1, rfl⟩
        generalize mst I q.1 q.2.1 (nI (tS B T q.1)) = J3 at *
        generalize mst I q.1 q.2.1 (mI 1) = J1 at *
        generalize mst I k l (mI 1) = J at *
        generalize tC B T k = cc at *
        rw [P_run_eq, bk_174_2, pb_174_2]; simp -implicitDefEqProofs (disch := first | omega | decide) only [P_m, ↓P_run_eq _ 174 _ (p_bk 174 3), bk_174_3, pb_174_3, ↓P_run_eq _ 174 _ (p_bk 174 6), bk_174_6, pb_174_6, ↓P_run_eq _ 174 _ (p_bk 174 7), bk_174_7, pb_174_7, ↓P_run_eq _ 174 _ (p_bk 174 8), bk_174_8, pb_174_8, pw_aload_n0, pw_aloadN_n0, pw_iv1, pw_zne, pw_vret, pw_getR, pw_getI, pw_iald, pw_istore_n3, ps_3, pe_3, po_i3, po_r3, po_n3, po_u3, pw_iload_n3, pw_bipush, bl_40, pw_is1, pw_cne, pw_iload_n1, bl_8, pw_nop, pw_iv2, bl_60, bl_62, bl_61, kd_123, rf_123_1, rf_123_2, rf_123_3, rf_123_4, rf_123_5, rf_123_7, rf_123_11, rf_123_12, rf_123_15, rf_123_16, rf_123_17, rf_123_26, rf_123_29, rf_123_30, rf_123_32, rf_123_34, rf_123_35, rf_123_45, kd_132, n_0, n_1, n_8, n_40, n_60, n_61, n_62, nn_lt, nn_nlt, nn_le, nn_nle, nn_ne, nn_sub, nn_mul, nI_add, nn_neg, nm_eq, mn_eq, mm_eq, mn_lt, nm_lt, mn_le, nm_le, nn_sub0, nn_of, implies_true, nn_c, nn_in, nn_div, nat_rem, Nat.reduceMul, Nat.reduceSub, Nat.reduceDiv, Nat.reduceMod, pf_at, pf_ne, mk_s, mk_1, Classical.not_not, b2i_T, b2i_F, false_imp_iff, true_imp_iff, false_and, and_false, p_sw, Int.reduceAdd, Int.zero_add, Option.some.injEq, Value.int.injEq, Value.long.injEq, Value.ref.injEq, exists_eq_left', mk_I, mk_L, mk_wI, mk_wL, rf_s, rf_n, true_and, and_true, and_self, or_true, true_or, or_false, false_or, not_true_eq_false, not_false_eq_true, Option.toList_some, Option.toList_none, List.cons_append, List.nil_append, List.map_nil, List.map_cons, List.sum_nil, List.sum_cons, cat_i, cat_l, cat_r, cat_n, Nat.reduceLeDiff, Nat.reduceAdd, Nat.reduceEqDiff, Nat.zero_le, p_ent, p_u_ne, p_u_at, reduceIte, if_true, if_false, e19, e132, P_ce (sp_167), P_ce s1, P_ce s175, P_ce z1, P_ce z2, P_ce z3, P_ce z4]
        exact ⟨J3, fin, rfl⟩
      · rw [if_neg c0] at hr
        have qN := kN_of hN (show ¬ tC B T q.1 = 0 from fun h => c0 (by rw [h]; rfl))
        obtain ⟨s, hs⟩ := RS_t (o := o) (V := tV B T) (md := 1) (d := d) (l := q.2.1) (f := fun _ => none) (cs := []) hN h4 (show q.1 + 1 ≤ N by omega) (by omega)
        obtain ⟨J2, o2, s175b⟩ := sums_m (Ls := Ls) (L := L) (R := R) (X := X) hM hC hN (q.1 + 1) (by omega) x d q.2.1 _ [] s d8 ql hs
        have fin : mR B T I J2 r := by
          rw [hs] at hr
          match s, hs, o2, hr with
          | .error e, hs, o2, hr => cases hr; exact o2
          | .ok s, hs, o2, hr => cases hr; exact o2
        -- the second sum
        have n7 : P_run (x + 3 * (8 - d) + 6 + 1) 174 (p_bk 174 7) 0 0 [.ref 123, .int (nI d), .int (nI 0), .int (nI (tC B T k))] [] (p_mk Ls (mst I (q.1 + 1) q.2.1 (mI 1)) L R X) (fun v h' => v = none ∧ ∃ J, mR B T I J r ∧ h' = p_mk Ls J L R X) := by
          clear hr o2
          generalize mst I (q.1 + 1) q.2.1 (mI 1) = J1 at *
          generalize tC B T k = cc at *
          rw [P_run_eq, bk_174_7, pb_174_7]; simp -implicitDefEqProofs (disch := first | omega | decide) only [P_m, ↓P_run_eq _ 174 _ (p_bk 174 8), bk_174_8, pb_174_8, pw_aload_n0, pw_aloadN_n0, pw_iload_n1, pw_iv2, pw_nop, pw_vret, kd_123, rf_123_1, rf_123_2, rf_123_3, rf_123_4, rf_123_5, rf_123_7, rf_123_11, rf_123_12, rf_123_15, rf_123_16, rf_123_17, rf_123_26, rf_123_29, rf_123_30, rf_123_32, rf_123_34, rf_123_35, rf_123_45, n_0, n_1, nn_lt, nn_nlt, nn_le, nn_nle, nn_ne, nn_sub, nn_mul, nI_add, nn_neg, nm_eq, mn_eq, mm_eq, mn_lt, nm_lt, mn_le, nm_le, nn_sub0, nn_of, implies_true, nn_c, nn_in, nn_div, nat_rem, Nat.reduceMul, Nat.reduceSub, Nat.reduceDiv, Nat.reduceMod, pf_at, pf_ne, mk_s, mk_1, Classical.not_not, b2i_T, b2i_F, false_imp_iff, true_imp_iff, false_and, and_false, p_sw, Int.reduceAdd, Int.zero_add, Option.some.injEq, Value.int.injEq, Value.long.injEq, Value.ref.injEq, exists_eq_left', mk_I, mk_L, mk_wI, mk_wL, rf_s, rf_n, true_and, and_true, and_self, or_true, true_or, or_false, false_or, not_true_eq_false, not_false_eq_true, Option.toList_some, Option.toList_none, List.cons_append, List.nil_append, List.map_nil, List.map_cons, List.sum_nil, List.sum_cons, cat_i, cat_l, cat_r, cat_n, Nat.reduceLeDiff, Nat.reduceAdd, Nat.reduceEqDiff, Nat.zero_le, p_ent, p_u_ne, p_u_at, reduceIte, if_true, if_false, P_ce s175b]
          exact ⟨J2, fin, rfl⟩
        clear hr o2 fin s175b
        by_cases n1 : tC B T q.1 = 160
        · rw [decide_eq_true n1, bN_t, if_pos n1] at z1
          clear z2 z3
          generalize mst I (q.1 + 1) q.2.1 (mI 1) = J3 at *
          generalize mst I q.1 q.2.1 (mI 1) = J1 at *
          generalize mst I k l (mI 1) = J at *
          generalize tC B T k = cc at *
          rw [P_run_eq, bk_174_2, pb_174_2]; simp -implicitDefEqProofs (disch := first | omega | decide) only [P_m, ↓P_run_eq _ 174 _ (p_bk 174 3), bk_174_3, pb_174_3, ↓P_run_eq _ 174 _ (p_bk 174 6), bk_174_6, pb_174_6, pw_aload_n0, pw_aloadN_n0, pw_iv1, pw_zne, pw_vret, pw_getR, pw_getI, pw_iald, pw_istore_n3, ps_3, pe_3, po_i3, po_r3, po_n3, po_u3, pw_iload_n3, pw_bipush, bl_40, pw_is1, pw_cne, pw_iload_n1, bl_8, pw_nop, pw_iv2, bl_60, bl_62, bl_61, kd_123, rf_123_1, rf_123_2, rf_123_3, rf_123_4, rf_123_5, rf_123_7, rf_123_11, rf_123_12, rf_123_15, rf_123_16, rf_123_17, rf_123_26, rf_123_29, rf_123_30, rf_123_32, rf_123_34, rf_123_35, rf_123_45, kd_132, n_0, n_1, n_8, n_40, n_60, n_61, n_62, nn_lt, nn_nlt, nn_le, nn_nle, nn_ne, nn_sub, nn_mul, nI_add, nn_neg, nm_eq, mn_eq, mm_eq, mn_lt, nm_lt, mn_le, nm_le, nn_sub0, nn_of, implies_true, nn_c, nn_in, nn_div, nat_rem, Nat.reduceMul, Nat.reduceSub, Nat.reduceDiv, Nat.reduceMod, pf_at, pf_ne, mk_s, mk_1, Classical.not_not, b2i_T, b2i_F, false_imp_iff, true_imp_iff, false_and, and_false, p_sw, Int.reduceAdd, Int.zero_add, Option.some.injEq, Value.int.injEq, Value.long.injEq, Value.ref.injEq, exists_eq_left', mk_I, mk_L, mk_wI, mk_wL, rf_s, rf_n, true_and, and_true, and_self, or_true, true_or, or_false, false_or, not_true_eq_false, not_false_eq_true, Option.toList_some, Option.toList_none, List.cons_append, List.nil_append, List.map_nil, List.map_cons, List.sum_nil, List.sum_cons, cat_i, cat_l, cat_r, cat_n, Nat.reduceLeDiff, Nat.reduceAdd, Nat.reduceEqDiff, Nat.zero_le, p_ent, p_u_ne, p_u_at, reduceIte, if_true, if_false, e19, e132, P_ce (sp_167), P_ce s1, P_ce s175, P_ce z1]
          exact n7
        · rw [decide_eq_false n1, bN_f, if_neg n1] at z1
          by_cases n2 : tC B T q.1 = 162
          · rw [decide_eq_true n2, bN_t, if_pos n2] at z2
            clear z3
            generalize mst I (q.1 + 1) q.2.1 (mI 1) = J3 at *
            generalize mst I q.1 q.2.1 (mI 1) = J1 at *
            generalize mst I k l (mI 1) = J at *
            generalize tC B T k = cc at *
            rw [P_run_eq, bk_174_2, pb_174_2]; simp -implicitDefEqProofs (disch := first | omega | decide) only [P_m, ↓P_run_eq _ 174 _ (p_bk 174 3), bk_174_3, pb_174_3, ↓P_run_eq _ 174 _ (p_bk 174 6), bk_174_6, pb_174_6, pw_aload_n0, pw_aloadN_n0, pw_iv1, pw_zne, pw_vret, pw_getR, pw_getI, pw_iald, pw_istore_n3, ps_3, pe_3, po_i3, po_r3, po_n3, po_u3, pw_iload_n3, pw_bipush, bl_40, pw_is1, pw_cne, pw_iload_n1, bl_8, pw_nop, pw_iv2, bl_60, bl_62, bl_61, kd_123, rf_123_1, rf_123_2, rf_123_3, rf_123_4, rf_123_5, rf_123_7, rf_123_11, rf_123_12, rf_123_15, rf_123_16, rf_123_17, rf_123_26, rf_123_29, rf_123_30, rf_123_32, rf_123_34, rf_123_35, rf_123_45, kd_132, n_0, n_1, n_8, n_40, n_60, n_61, n_62, nn_lt, nn_nlt, nn_le, nn_nle, nn_ne, nn_sub, nn_mul, nI_add, nn_neg, nm_eq, mn_eq, mm_eq, mn_lt, nm_lt, mn_le, nm_le, nn_sub0, nn_of, implies_true, nn_c, nn_in, nn_div, nat_rem, Nat.reduceMul, Nat.reduceSub, Nat.reduceDiv, Nat.reduceMod, pf_at, pf_ne, mk_s, mk_1, Classical.not_not, b2i_T, b2i_F, false_imp_iff, true_imp_iff, false_and, and_false, p_sw, Int.reduceAdd, Int.zero_add, Option.some.injEq, Value.int.injEq, Value.long.injEq, Value.ref.injEq, exists_eq_left', mk_I, mk_L, mk_wI, mk_wL, rf_s, rf_n, true_and, and_true, and_self, or_true, true_or, or_false, false_or, not_true_eq_false, not_false_eq_true, Option.toList_some, Option.toList_none, List.cons_append, List.nil_append, List.map_nil, List.map_cons, List.sum_nil, List.sum_cons, cat_i, cat_l, cat_r, cat_n, Nat.reduceLeDiff, Nat.reduceAdd, Nat.reduceEqDiff, Nat.zero_le, p_ent, p_u_ne, p_u_at, reduceIte, if_true, if_false, e19, e132, P_ce (sp_167), P_ce s1, P_ce s175, P_ce z1, P_ce z2]
            exact n7
          · rw [decide_eq_false n2, bN_f, if_neg n2] at z2
            have n3 : tC B T q.1 = 161 := Decidable.byContradiction (fun h => c0 (m4 n1 n2 h))
            rw [if_pos n3] at z3
            generalize mst I (q.1 + 1) q.2.1 (mI 1) = J3 at *
            generalize mst I q.1 q.2.1 (mI 1) = J1 at *
            generalize mst I k l (mI 1) = J at *
            generalize tC B T k = cc at *
            rw [P_run_eq, bk_174_2, pb_174_2]; simp -implicitDefEqProofs (disch := first | omega | decide) only [P_m, ↓P_run_eq _ 174 _ (p_bk 174 3), bk_174_3, pb_174_3, ↓P_run_eq _ 174 _ (p_bk 174 6), bk_174_6, pb_174_6, pw_aload_n0, pw_aloadN_n0, pw_iv1, pw_zne, pw_vret, pw_getR, pw_getI, pw_iald, pw_istore_n3, ps_3, pe_3, po_i3, po_r3, po_n3, po_u3, pw_iload_n3, pw_bipush, bl_40, pw_is1, pw_cne, pw_iload_n1, bl_8, pw_nop, pw_iv2, bl_60, bl_62, bl_61, kd_123, rf_123_1, rf_123_2, rf_123_3, rf_123_4, rf_123_5, rf_123_7, rf_123_11, rf_123_12, rf_123_15, rf_123_16, rf_123_17, rf_123_26, rf_123_29, rf_123_30, rf_123_32, rf_123_34, rf_123_35, rf_123_45, kd_132, n_0, n_1, n_8, n_40, n_60, n_61, n_62, nn_lt, nn_nlt, nn_le, nn_nle, nn_ne, nn_sub, nn_mul, nI_add, nn_neg, nm_eq, mn_eq, mm_eq, mn_lt, nm_lt, mn_le, nm_le, nn_sub0, nn_of, implies_true, nn_c, nn_in, nn_div, nat_rem, Nat.reduceMul, Nat.reduceSub, Nat.reduceDiv, Nat.reduceMod, pf_at, pf_ne, mk_s, mk_1, Classical.not_not, b2i_T, b2i_F, false_imp_iff, true_imp_iff, false_and, and_false, p_sw, Int.reduceAdd, Int.zero_add, Option.some.injEq, Value.int.injEq, Value.long.injEq, Value.ref.injEq, exists_eq_left', mk_I, mk_L, mk_wI, mk_wL, rf_s, rf_n, true_and, and_true, and_self, or_true, true_or, or_false, false_or, not_true_eq_false, not_false_eq_true, Option.toList_some, Option.toList_none, List.cons_append, List.nil_append, List.map_nil, List.map_cons, List.sum_nil, List.sum_cons, cat_i, cat_l, cat_r, cat_n, Nat.reduceLeDiff, Nat.reduceAdd, Nat.reduceEqDiff, Nat.zero_le, p_ent, p_u_ne, p_u_at, reduceIte, if_true, if_false, e19, e132, P_ce (sp_167), P_ce s1, P_ce s175, P_ce z1, P_ce z2, P_ce z3]
            exact n7
theorem plainm_s {k0 : Nat} (hM : mF B T N o I) (hC : ∀ k, tC B T k < 356) (hN : ∀ k, N ≤ k → tC B T k = 0) (hk0 : k0 ≤ N) (hT : ∀ k, k0 ≤ k → k < N → okTm o B T Ls I L R X (k + 1)) : okPl o B T Ls I L R X k0 := by
  intro x d l c p g cs r d8 l5 hr
  have h4 := hM.2.1
  have loop : ∀ M k, N - k ≤ M → k0 ≤ k → k ≤ N → ∀ p cs, RB o (tC B T) (tV B T) 0 p d k l c g cs = some r → P_run (x + 3 * (8 - d) + 6 + 1) 174 (p_bk 174 1) 0 0 [.ref 123, .int (nI d), .int (nI 1)] [] (p_mk Ls (mst I k l (mI 1)) L R X) (fun v h' => v = none ∧ ∃ J, mR B T I J r ∧ h' = p_mk Ls J L R X) := by
    intro M
    induction M with
    | zero =>
      intro k hMk hk1 hk p cs hr
      have c0 := hN k (by omega)
      have n7 : ¬ tC B T k = 7 := by omega
      have nx := tl_174 (x := x) (Ls := Ls) (L := L) (R := R) (X := X) hM hC hN d8 l5 hk (hT k hk1) n7 hr
      have s1 := ta_y (d := x + 3 * (8 - d) + 5) (Ls := Ls) (L := L) (R := R) (X := X) (l := l) (c := 7) hM hk (by omega) (hC k)
      rw [decide_eq_false n7, bN_f, if_neg n7] at s1
      clear hr
      generalize mst I k l (mI 1) = J at *
      have n1 : P_run (x + 3 * (8 - d) + 6 + 1) 174 (p_bk 174 1) 0 0 [.ref 123, .int (nI d), .int (nI 0)] [] (p_mk Ls J L R X) (fun v h' => v = none ∧ ∃ J, mR B T I J r ∧ h' = p_mk Ls J L R X) := by
        rw [P_run_eq, bk_174_1, pb_174_1]; simp -implicitDefEqProofs (disch := first | omega | decide) only [P_m, pw_iload_n2, pw_zeq, pw_aload_n0, pw_aloadN_n0, pw_bipush, bl_7, pw_iv2, pw_istore_n2, ps_2, pe_2, po_i2, po_r2, po_n2, po_u2, pw_goto, kd_123, rf_123_1, rf_123_2, rf_123_3, rf_123_4, rf_123_5, rf_123_7, rf_123_11, rf_123_12, rf_123_15, rf_123_16, rf_123_17, rf_123_26, rf_123_29, rf_123_30, rf_123_32, rf_123_34, rf_123_35, rf_123_45, n_0, n_1, n_7, nn_lt, nn_nlt, nn_le, nn_nle, nn_ne, nn_sub, nn_mul, nI_add, nn_neg, nm_eq, mn_eq, mm_eq, mn_lt, nm_lt, mn_le, nm_le, nn_sub0, nn_of, implies_true, nn_c, nn_in, nn_div, nat_rem, Nat.reduceMul, Nat.reduceSub, Nat.reduceDiv, Nat.reduceMod, pf_at, pf_ne, mk_s, mk_1, Classical.not_not, b2i_T, b2i_F, false_imp_iff, true_imp_iff, false_and, and_false, p_sw, Int.reduceAdd, Int.zero_add, Option.some.injEq, Value.int.injEq, Value.long.injEq, Value.ref.injEq, exists_eq_left', mk_I, mk_L, mk_wI, mk_wL, rf_s, rf_n, true_and, and_true, and_self, or_true, true_or, or_false, false_or, not_true_eq_false, not_false_eq_true, Option.toList_some, Option.toList_none, List.cons_append, List.nil_append, List.map_nil, List.map_cons, List.sum_nil, List.sum_cons, cat_i, cat_l, cat_r, cat_n, Nat.reduceLeDiff, Nat.reduceAdd, Nat.reduceEqDiff, Nat.zero_le, p_ent, p_u_ne, p_u_at, reduceIte, if_true, if_false]
        exact nx
      rw [P_run_eq, bk_174_1, pb_174_1]; simp -implicitDefEqProofs (disch := first | omega | decide) only [P_m, pw_iload_n2, pw_zeq, pw_aload_n0, pw_aloadN_n0, pw_bipush, bl_7, pw_iv2, pw_istore_n2, ps_2, pe_2, po_i2, po_r2, po_n2, po_u2, pw_goto, kd_123, rf_123_1, rf_123_2, rf_123_3, rf_123_4, rf_123_5, rf_123_7, rf_123_11, rf_123_12, rf_123_15, rf_123_16, rf_123_17, rf_123_26, rf_123_29, rf_123_30, rf_123_32, rf_123_34, rf_123_35, rf_123_45, n_0, n_1, n_7, nn_lt, nn_nlt, nn_le, nn_nle, nn_ne, nn_sub, nn_mul, nI_add, nn_neg, nm_eq, mn_eq, mm_eq, mn_lt, nm_lt, mn_le, nm_le, nn_sub0, nn_of, implies_true, nn_c, nn_in, nn_div, nat_rem, Nat.reduceMul, Nat.reduceSub, Nat.reduceDiv, Nat.reduceMod, pf_at, pf_ne, mk_s, mk_1, Classical.not_not, b2i_T, b2i_F, false_imp_iff, true_imp_iff, false_and, and_false, p_sw, Int.reduceAdd, Int.zero_add, Option.some.injEq, Value.int.injEq, Value.long.injEq, Value.ref.injEq, exists_eq_left', mk_I, mk_L, mk_wI, mk_wL, rf_s, rf_n, true_and, and_true, and_self, or_true, true_or, or_false, false_or, not_true_eq_false, not_false_eq_true, Option.toList_some, Option.toList_none, List.cons_append, List.nil_append, List.map_nil, List.map_cons, List.sum_nil, List.sum_cons, cat_i, cat_l, cat_r, cat_n, Nat.reduceLeDiff, Nat.reduceAdd, Nat.reduceEqDiff, Nat.zero_le, p_ent, p_u_ne, p_u_at, reduceIte, if_true, if_false, P_ce s1]
      exact n1
    | succ M ih =>
      intro k hMk hk1 hk p cs hr
      have s1 := ta_y (d := x + 3 * (8 - d) + 5) (Ls := Ls) (L := L) (R := R) (X := X) (l := l) (c := 7) hM hk (by omega) (hC k)
      by_cases n7 : tC B T k = 7
      · have kN := kN_of hN (show ¬ tC B T k = 0 by omega)
        rw [RB_0 hN h4 hk, if_pos n7] at hr
        have nx := ih (k + 1) (by omega) (by omega) (by omega) _ _ hr
        rw [decide_eq_true n7, bN_t, if_pos n7] at s1
        clear ih hr
        generalize mst I (k + 1) l (mI 1) = J1 at *
        generalize mst I k l (mI 1) = J at *
        rw [P_run_eq, bk_174_1, pb_174_1]; simp -implicitDefEqProofs (disch := first | omega | decide) only [P_m, pw_iload_n2, pw_zeq, pw_aload_n0, pw_aloadN_n0, pw_bipush, bl_7, pw_iv2, pw_istore_n2, ps_2, pe_2, po_i2, po_r2, po_n2, po_u2, pw_goto, kd_123, rf_123_1, rf_123_2, rf_123_3, rf_123_4, rf_123_5, rf_123_7, rf_123_11, rf_123_12, rf_123_15, rf_123_16, rf_123_17, rf_123_26, rf_123_29, rf_123_30, rf_123_32, rf_123_34, rf_123_35, rf_123_45, n_0, n_1, n_7, nn_lt, nn_nlt, nn_le, nn_nle, nn_ne, nn_sub, nn_mul, nI_add, nn_neg, nm_eq, mn_eq, mm_eq, mn_lt, nm_lt, mn_le, nm_le, nn_sub0, nn_of, implies_true, nn_c, nn_in, nn_div, nat_rem, Nat.reduceMul, Nat.reduceSub, Nat.reduceDiv, Nat.reduceMod, pf_at, pf_ne, mk_s, mk_1, Classical.not_not, b2i_T, b2i_F, false_imp_iff, true_imp_iff, false_and, and_false, p_sw, Int.reduceAdd, Int.zero_add, Option.some.injEq, Value.int.injEq, Value.long.injEq, Value.ref.injEq, exists_eq_left', mk_I, mk_L, mk_wI, mk_wL, rf_s, rf_n, true_and, and_true, and_self, or_true, true_or, or_false, false_or, not_true_eq_false, not_false_eq_true, Option.toList_some, Option.toList_none, List.cons_append, List.nil_append, List.map_nil, List.map_cons, List.sum_nil, List.sum_cons, cat_i, cat_l, cat_r, cat_n, Nat.reduceLeDiff, Nat.reduceAdd, Nat.reduceEqDiff, Nat.zero_le, p_ent, p_u_ne, p_u_at, reduceIte, if_true, if_false, P_ce s1]
        exact nx
      · have nx := tl_174 (x := x) (Ls := Ls) (L := L) (R := R) (X := X) hM hC hN d8 l5 hk (hT k hk1) n7 hr
        rw [decide_eq_false n7, bN_f, if_neg n7] at s1
        clear hr ih
        generalize mst I k l (mI 1) = J at *
        have n1 : P_run (x + 3 * (8 - d) + 6 + 1) 174 (p_bk 174 1) 0 0 [.ref 123, .int (nI d), .int (nI 0)] [] (p_mk Ls J L R X) (fun v h' => v = none ∧ ∃ J, mR B T I J r ∧ h' = p_mk Ls J L R X) := by
          rw [P_run_eq, bk_174_1, pb_174_1]; simp -implicitDefEqProofs (disch := first | omega | decide) only [P_m, pw_iload_n2, pw_zeq, pw_aload_n0, pw_aloadN_n0, pw_bipush, bl_7, pw_iv2, pw_istore_n2, ps_2, pe_2, po_i2, po_r2, po_n2, po_u2, pw_goto, kd_123, rf_123_1, rf_123_2, rf_123_3, rf_123_4, rf_123_5, rf_123_7, rf_123_11, rf_123_12, rf_123_15, rf_123_16, rf_123_17, rf_123_26, rf_123_29, rf_123_30, rf_123_32, rf_123_34, rf_123_35, rf_123_45, n_0, n_1, n_7, nn_lt, nn_nlt, nn_le, nn_nle, nn_ne, nn_sub, nn_mul, nI_add, nn_neg, nm_eq, mn_eq, mm_eq, mn_lt, nm_lt, mn_le, nm_le, nn_sub0, nn_of, implies_true, nn_c, nn_in, nn_div, nat_rem, Nat.reduceMul, Nat.reduceSub, Nat.reduceDiv, Nat.reduceMod, pf_at, pf_ne, mk_s, mk_1, Classical.not_not, b2i_T, b2i_F, false_imp_iff, true_imp_iff, false_and, and_false, p_sw, Int.reduceAdd, Int.zero_add, Option.some.injEq, Value.int.injEq, Value.long.injEq, Value.ref.injEq, exists_eq_left', mk_I, mk_L, mk_wI, mk_wL, rf_s, rf_n, true_and, and_true, and_self, or_true, true_or, or_false, false_or, not_true_eq_false, not_false_eq_true, Option.toList_some, Option.toList_none, List.cons_append, List.nil_append, List.map_nil, List.map_cons, List.sum_nil, List.sum_cons, cat_i, cat_l, cat_r, cat_n, Nat.reduceLeDiff, Nat.reduceAdd, Nat.reduceEqDiff, Nat.zero_le, p_ent, p_u_ne, p_u_at, reduceIte, if_true, if_false]
          exact nx
        rw [P_run_eq, bk_174_1, pb_174_1]; simp -implicitDefEqProofs (disch := first | omega | decide) only [P_m, pw_iload_n2, pw_zeq, pw_aload_n0, pw_aloadN_n0, pw_bipush, bl_7, pw_iv2, pw_istore_n2, ps_2, pe_2, po_i2, po_r2, po_n2, po_u2, pw_goto, kd_123, rf_123_1, rf_123_2, rf_123_3, rf_123_4, rf_123_5, rf_123_7, rf_123_11, rf_123_12, rf_123_15, rf_123_16, rf_123_17, rf_123_26, rf_123_29, rf_123_30, rf_123_32, rf_123_34, rf_123_35, rf_123_45, n_0, n_1, n_7, nn_lt, nn_nlt, nn_le, nn_nle, nn_ne, nn_sub, nn_mul, nI_add, nn_neg, nm_eq, mn_eq, mm_eq, mn_lt, nm_lt, mn_le, nm_le, nn_sub0, nn_of, implies_true, nn_c, nn_in, nn_div, nat_rem, Nat.reduceMul, Nat.reduceSub, Nat.reduceDiv, Nat.reduceMod, pf_at, pf_ne, mk_s, mk_1, Classical.not_not, b2i_T, b2i_F, false_imp_iff, true_imp_iff, false_and, and_false, p_sw, Int.reduceAdd, Int.zero_add, Option.some.injEq, Value.int.injEq, Value.long.injEq, Value.ref.injEq, exists_eq_left', mk_I, mk_L, mk_wI, mk_wL, rf_s, rf_n, true_and, and_true, and_self, or_true, true_or, or_false, false_or, not_true_eq_false, not_false_eq_true, Option.toList_some, Option.toList_none, List.cons_append, List.nil_append, List.map_nil, List.map_cons, List.sum_nil, List.sum_cons, cat_i, cat_l, cat_r, cat_n, Nat.reduceLeDiff, Nat.reduceAdd, Nat.reduceEqDiff, Nat.zero_le, p_ent, p_u_ne, p_u_at, reduceIte, if_true, if_false, P_ce s1]
        exact n1
  have st := loop (N - k0) k0 (Nat.le_refl _) (Nat.le_refl _) hk0 p cs hr
  have all : P_m (x + 3 * (8 - d) + 7) 174 [.ref 123, .int (nI d)] (p_mk Ls (mst I k0 l (mI 1)) L R X) (fun v h' => v = none ∧ ∃ J, mR B T I J r ∧ h' = p_mk Ls J L R X) := by
    clear loop hr
    generalize mst I k0 l (mI 1) = J at *
    simp -implicitDefEqProofs (disch := first | omega | decide) only [P_m, ↓P_run_eq _ 174 _ (p_bk 174 0), bk_174_0, pb_174_0, pw_iconst, il_1, pw_istore_n2, ps_2, pe_2, po_i2, po_r2, po_n2, po_u2, pw_nop, kd_123, rf_123_1, rf_123_2, rf_123_3, rf_123_4, rf_123_5, rf_123_7, rf_123_11, rf_123_12, rf_123_15, rf_123_16, rf_123_17, rf_123_26, rf_123_29, rf_123_30, rf_123_32, rf_123_34, rf_123_35, rf_123_45, n_0, n_1, nn_lt, nn_nlt, nn_le, nn_nle, nn_ne, nn_sub, nn_mul, nI_add, nn_neg, nm_eq, mn_eq, mm_eq, mn_lt, nm_lt, mn_le, nm_le, nn_sub0, nn_of, implies_true, nn_c, nn_in, nn_div, nat_rem, Nat.reduceMul, Nat.reduceSub, Nat.reduceDiv, Nat.reduceMod, pf_at, pf_ne, mk_s, mk_1, Classical.not_not, b2i_T, b2i_F, false_imp_iff, true_imp_iff, false_and, and_false, p_sw, Int.reduceAdd, Int.zero_add, Option.some.injEq, Value.int.injEq, Value.long.injEq, Value.ref.injEq, exists_eq_left', mk_I, mk_L, mk_wI, mk_wL, rf_s, rf_n, true_and, and_true, and_self, or_true, true_or, or_false, false_or, not_true_eq_false, not_false_eq_true, Option.toList_some, Option.toList_none, List.cons_append, List.nil_append, List.map_nil, List.map_cons, List.sum_nil, List.sum_cons, cat_i, cat_l, cat_r, cat_n, Nat.reduceLeDiff, Nat.reduceAdd, Nat.reduceEqDiff, Nat.zero_le, p_ent, p_u_ne, p_u_at, reduceIte, if_true, if_false]
    exact st
  obtain ⟨v, g', ⟨rfl, J', f1, rfl⟩, s⟩ := P_mex all
  exact ⟨J', f1, s⟩
end QW
