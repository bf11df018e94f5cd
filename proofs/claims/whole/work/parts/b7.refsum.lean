/-! THE REFERENCE READS SUMS -/
section RT
variable {o : Bool} {C V : Nat → Nat}
theorem pLf_l {k l : Nat} {r : Nat × Nat × tDS × tCd} (h : pLf o C V k l = some (.ok r)) : r.2.1 ≤ 50 := by
  unfold pLf at h
  split at h
  · cases h
  · split at h
    · cases h
    · split at h
      · cases h; show l + 1 ≤ 50; omega
      · split at h
        · split at h
          · cases h; show l + 1 ≤ 50; omega
          · cases h
        · cases h; show l + 1 ≤ 50; omega
theorem pS_l : ∀ n md d k l f cs r, pS o C V n md d k l f cs = some (.ok r) → l ≤ 50 → r.2.1 ≤ 50
  | 0, md, d, k, l, f, cs, r, h, _ => by cases h
  | n + 1, 0, d, k, l, f, cs, r, h, hl => by
    have h : (if C k = 191 then (if 8 ≤ d then some (.error k) else bnd (pS o C V n 1 (d + 1) (k + 1) l f []) fun r => if C r.1 = 193 then some (.ok (r.1 + 1, r.2)) else some (.error r.1)) else pLf o C V k l) = some (.ok r) := h
    split at h
    · split at h
      · cases h
      · obtain ⟨a, h1, h2⟩ := bnd_iok h
        split at h2
        · cases h2
          have := pS_l n 1 _ _ _ _ _ a h1 hl
          exact this
        · cases h2
    · exact pLf_l h
  | n + 1, 1, d, k, l, f, cs, r, h, hl => by
    obtain ⟨a, h1, h2⟩ := bnd_iok h
    obtain ⟨b, h3, h4⟩ := bnd_iok h2
    exact pS_l n 3 _ _ _ _ _ _ h4 (pS_l n 2 _ _ _ _ _ _ h3 (pS_l n 0 _ _ _ _ _ _ h1 hl))
  | n + 1, 2, d, k, l, f, cs, r, h, hl => by
    have h : (if mulOp (C k) = 0 then some (.ok (k, l, f, cs)) else bnd (pS o C V n 0 d (k + 1) l f []) fun r => pS o C V n 2 d r.1 r.2.1 (opS (mulOp (C k)) f r.2.2.1) (cs ++ (r.2.2.2 ++ [(mulOp (C k), 0)]))) = some (.ok r) := h
    split at h
    · cases h; exact hl
    · obtain ⟨a, h1, h2⟩ := bnd_iok h
      exact pS_l n 2 _ _ _ _ _ _ h2 (pS_l n 0 _ _ _ _ _ _ h1 hl)
  | n + 1, md + 3, d, k, l, f, cs, r, h, hl => by
    have h : (if addOp (C k) = 0 then some (.ok (k, l, f, cs)) else bnd (pS o C V n 0 d (k + 1) l f []) fun r => bnd (pS o C V n 2 d r.1 r.2.1 r.2.2.1 r.2.2.2) fun r => pS o C V n 3 d r.1 r.2.1 (opS (addOp (C k)) f r.2.2.1) (cs ++ (r.2.2.2 ++ [(addOp (C k), 0)]))) = some (.ok r) := h
    split at h
    · cases h; exact hl
    · obtain ⟨a, h1, h2⟩ := bnd_iok h
      obtain ⟨b, h3, h4⟩ := bnd_iok h2
      exact pS_l n 3 _ _ _ _ _ _ h4 (pS_l n 2 _ _ _ _ _ _ h3 (pS_l n 0 _ _ _ _ _ _ h1 hl))
theorem RS_l {md d k l : Nat} {f : tDS} {cs : tCd} {r : Nat × Nat × tDS × tCd} (h : RS o C V md d k l f cs = some (.ok r)) (hl : l ≤ 50) : r.2.1 ≤ 50 := pS_l 2200 md d k l f cs r h hl
end RT
section RU
variable {d Ls : Nat} {I : Nat → Nat → Int32} {L : Nat → Nat → Int64} {R : Nat → Nat → Option Nat} {X : List pKd} {h : pHp} {B : Nat → Nat} {T N : Nat} {o : Bool}
theorem er_177 {k l p : Nat} {x : Int32} (hp : p ≤ 400) : P_m (d + 1) 177 [.ref 123, .int x] (p_mk Ls (mst I k l (nI p)) L R X) (fun v h' => v = none ∧ h' = p_mk Ls (mst I k l (nI p)) L R X) := by
  have s := fi_n (d := d) (Ls := Ls) (I := I) (L := L) (R := R) (X := X) (k := k) (l := l) hp
  generalize mst I k l (nI p) = J at *
  simp -implicitDefEqProofs (disch := first | omega | decide) only [P_m, ↓P_run_eq _ 177 _ (p_bk 177 0), bk_177_0, pb_177_0, pw_aload_n0, pw_aloadN_n0, pw_iv1, pw_zne, pw_vret, kd_123, rf_123_1, rf_123_2, rf_123_3, rf_123_4, rf_123_5, rf_123_7, rf_123_11, rf_123_12, rf_123_15, rf_123_16, rf_123_17, rf_123_26, rf_123_29, rf_123_30, rf_123_32, rf_123_34, rf_123_35, rf_123_45, n_0, n_1, nn_lt, nn_nlt, nn_le, nn_nle, nn_ne, nn_sub, nn_mul, nI_add, nn_neg, nm_eq, mn_eq, mm_eq, mn_lt, nm_lt, mn_le, nm_le, nn_sub0, nn_of, implies_true, nn_c, nn_in, nn_div, nat_rem, Nat.reduceMul, Nat.reduceSub, Nat.reduceDiv, Nat.reduceMod, pf_at, pf_ne, mk_s, mk_1, Classical.not_not, b2i_T, b2i_F, false_imp_iff, true_imp_iff, false_and, and_false, p_sw, Int.reduceAdd, Int.zero_add, Option.some.injEq, Value.int.injEq, Value.long.injEq, Value.ref.injEq, exists_eq_left', mk_I, mk_L, mk_wI, mk_wL, rf_s, rf_n, true_and, and_true, and_self, or_true, true_or, or_false, false_or, not_true_eq_false, not_false_eq_true, Option.toList_some, Option.toList_none, List.cons_append, List.nil_append, List.map_nil, List.map_cons, List.sum_nil, List.sum_cons, cat_i, cat_l, cat_r, cat_n, Nat.reduceLeDiff, Nat.reduceAdd, Nat.reduceEqDiff, Nat.zero_le, p_ent, p_u_ne, p_u_at, reduceIte, if_true, if_false, P_ce s]
theorem er_176b {k l p : Nat} {x : Int32} (hp : p ≤ 400) : P_run (d + 2) 176 (p_bk 176 1) 0 0 [.ref 123, .int x] [] (p_mk Ls (mst I k l (nI p)) L R X) (fun v h' => v = none ∧ h' = p_mk Ls (mst I k l (nI p)) L R X) := by
  have s := fun c => ta_n (d := d) (Ls := Ls) (I := I) (L := L) (R := R) (X := X) (k := k) (l := l) (c := c) hp
  have s1 := s (nI 142)
  have s2 := s (nI 147)
  have s3 := s (nI 137)
  clear s
  generalize mst I k l (nI p) = J at *
  rw [P_run_eq, bk_176_1, pb_176_1]; simp -implicitDefEqProofs (disch := first | omega | decide) only [P_m, ↓P_run_eq _ 176 _ (p_bk 176 3), bk_176_3, pb_176_3, pw_aload_n0, pw_aloadN_n0, pw_bipush, bl_42, pw_is1, pw_iv2, pw_zne, bl_47, bl_37, pw_zeq, pw_nop, pw_vret, kd_123, rf_123_1, rf_123_2, rf_123_3, rf_123_4, rf_123_5, rf_123_7, rf_123_11, rf_123_12, rf_123_15, rf_123_16, rf_123_17, rf_123_26, rf_123_29, rf_123_30, rf_123_32, rf_123_34, rf_123_35, rf_123_45, n_0, n_1, n_37, n_42, n_47, nn_lt, nn_nlt, nn_le, nn_nle, nn_ne, nn_sub, nn_mul, nI_add, nn_neg, nm_eq, mn_eq, mm_eq, mn_lt, nm_lt, mn_le, nm_le, nn_sub0, nn_of, implies_true, nn_c, nn_in, nn_div, nat_rem, Nat.reduceMul, Nat.reduceSub, Nat.reduceDiv, Nat.reduceMod, pf_at, pf_ne, mk_s, mk_1, Classical.not_not, b2i_T, b2i_F, false_imp_iff, true_imp_iff, false_and, and_false, p_sw, Int.reduceAdd, Int.zero_add, Option.some.injEq, Value.int.injEq, Value.long.injEq, Value.ref.injEq, exists_eq_left', mk_I, mk_L, mk_wI, mk_wL, rf_s, rf_n, true_and, and_true, and_self, or_true, true_or, or_false, false_or, not_true_eq_false, not_false_eq_true, Option.toList_some, Option.toList_none, List.cons_append, List.nil_append, List.map_nil, List.map_cons, List.sum_nil, List.sum_cons, cat_i, cat_l, cat_r, cat_n, Nat.reduceLeDiff, Nat.reduceAdd, Nat.reduceEqDiff, Nat.zero_le, p_ent, p_u_ne, p_u_at, reduceIte, if_true, if_false, P_ce (sp_167), P_ce s1, P_ce s2, P_ce s3]
theorem er_176 {k l p : Nat} {x : Int32} (hp : p ≤ 400) : P_m (d + 2) 176 [.ref 123, .int x] (p_mk Ls (mst I k l (nI p)) L R X) (fun v h' => v = none ∧ h' = p_mk Ls (mst I k l (nI p)) L R X) := by
  have s := er_177 (d := d) (Ls := Ls) (I := I) (L := L) (R := R) (X := X) (k := k) (l := l) (x := x) hp
  have nx := er_176b (d := d) (Ls := Ls) (I := I) (L := L) (R := R) (X := X) (k := k) (l := l) (x := x) hp
  generalize mst I k l (nI p) = J at *
  simp -implicitDefEqProofs (disch := first | omega | decide) only [P_m, ↓P_run_eq _ 176 _ (p_bk 176 0), bk_176_0, pb_176_0, pw_aload_n0, pw_aloadN_n0, pw_iload_n1, pw_iv2, pw_nop, kd_123, rf_123_1, rf_123_2, rf_123_3, rf_123_4, rf_123_5, rf_123_7, rf_123_11, rf_123_12, rf_123_15, rf_123_16, rf_123_17, rf_123_26, rf_123_29, rf_123_30, rf_123_32, rf_123_34, rf_123_35, rf_123_45, n_0, n_1, nn_lt, nn_nlt, nn_le, nn_nle, nn_ne, nn_sub, nn_mul, nI_add, nn_neg, nm_eq, mn_eq, mm_eq, mn_lt, nm_lt, mn_le, nm_le, nn_sub0, nn_of, implies_true, nn_c, nn_in, nn_div, nat_rem, Nat.reduceMul, Nat.reduceSub, Nat.reduceDiv, Nat.reduceMod, pf_at, pf_ne, mk_s, mk_1, Classical.not_not, b2i_T, b2i_F, false_imp_iff, true_imp_iff, false_and, and_false, p_sw, Int.reduceAdd, Int.zero_add, Option.some.injEq, Value.int.injEq, Value.long.injEq, Value.ref.injEq, exists_eq_left', mk_I, mk_L, mk_wI, mk_wL, rf_s, rf_n, true_and, and_true, and_self, or_true, true_or, or_false, false_or, not_true_eq_false, not_false_eq_true, Option.toList_some, Option.toList_none, List.cons_append, List.nil_append, List.map_nil, List.map_cons, List.sum_nil, List.sum_cons, cat_i, cat_l, cat_r, cat_n, Nat.reduceLeDiff, Nat.reduceAdd, Nat.reduceEqDiff, Nat.zero_le, p_ent, p_u_ne, p_u_at, reduceIte, if_true, if_false, P_ce s]
  exact nx
theorem er_175b {k l p : Nat} {x : Int32} (hp : p ≤ 400) : P_run (d + 2) 175 (p_bk 175 1) 0 0 [.ref 123, .int x] [] (p_mk Ls (mst I k l (nI p)) L R X) (fun v h' => v = none ∧ h' = p_mk Ls (mst I k l (nI p)) L R X) := by
  have s := fun c => ta_n (d := d) (Ls := Ls) (I := I) (L := L) (R := R) (X := X) (k := k) (l := l) (c := c) hp
  have s1 := s (nI 143)
  have s2 := s (nI 145)
  clear s
  generalize mst I k l (nI p) = J at *
  rw [P_run_eq, bk_175_1, pb_175_1]; simp -implicitDefEqProofs (disch := first | omega | decide) only [P_m, ↓P_run_eq _ 175 _ (p_bk 175 3), bk_175_3, pb_175_3, pw_aload_n0, pw_aloadN_n0, pw_bipush, bl_43, pw_is1, pw_iv2, pw_zne, bl_45, pw_zeq, pw_nop, pw_vret, kd_123, rf_123_1, rf_123_2, rf_123_3, rf_123_4, rf_123_5, rf_123_7, rf_123_11, rf_123_12, rf_123_15, rf_123_16, rf_123_17, rf_123_26, rf_123_29, rf_123_30, rf_123_32, rf_123_34, rf_123_35, rf_123_45, n_0, n_1, n_43, n_45, nn_lt, nn_nlt, nn_le, nn_nle, nn_ne, nn_sub, nn_mul, nI_add, nn_neg, nm_eq, mn_eq, mm_eq, mn_lt, nm_lt, mn_le, nm_le, nn_sub0, nn_of, implies_true, nn_c, nn_in, nn_div, nat_rem, Nat.reduceMul, Nat.reduceSub, Nat.reduceDiv, Nat.reduceMod, pf_at, pf_ne, mk_s, mk_1, Classical.not_not, b2i_T, b2i_F, false_imp_iff, true_imp_iff, false_and, and_false, p_sw, Int.reduceAdd, Int.zero_add, Option.some.injEq, Value.int.injEq, Value.long.injEq, Value.ref.injEq, exists_eq_left', mk_I, mk_L, mk_wI, mk_wL, rf_s, rf_n, true_and, and_true, and_self, or_true, true_or, or_false, false_or, not_true_eq_false, not_false_eq_true, Option.toList_some, Option.toList_none, List.cons_append, List.nil_append, List.map_nil, List.map_cons, List.sum_nil, List.sum_cons, cat_i, cat_l, cat_r, cat_n, Nat.reduceLeDiff, Nat.reduceAdd, Nat.reduceEqDiff, Nat.zero_le, p_ent, p_u_ne, p_u_at, reduceIte, if_true, if_false, P_ce (sp_167), P_ce s1, P_ce s2]
theorem er_175 {k l p : Nat} {x : Int32} (hp : p ≤ 400) : P_m (d + 3) 175 [.ref 123, .int x] (p_mk Ls (mst I k l (nI p)) L R X) (fun v h' => v = none ∧ h' = p_mk Ls (mst I k l (nI p)) L R X) := by
  have s := er_176 (d := d) (Ls := Ls) (I := I) (L := L) (R := R) (X := X) (k := k) (l := l) (x := x) hp
  have nx := er_175b (d := d + 1) (Ls := Ls) (I := I) (L := L) (R := R) (X := X) (k := k) (l := l) (x := x) hp
  generalize mst I k l (nI p) = J at *
  simp -implicitDefEqProofs (disch := first | omega | decide) only [P_m, ↓P_run_eq _ 175 _ (p_bk 175 0), bk_175_0, pb_175_0, pw_aload_n0, pw_aloadN_n0, pw_iload_n1, pw_iv2, pw_nop, kd_123, rf_123_1, rf_123_2, rf_123_3, rf_123_4, rf_123_5, rf_123_7, rf_123_11, rf_123_12, rf_123_15, rf_123_16, rf_123_17, rf_123_26, rf_123_29, rf_123_30, rf_123_32, rf_123_34, rf_123_35, rf_123_45, n_0, n_1, nn_lt, nn_nlt, nn_le, nn_nle, nn_ne, nn_sub, nn_mul, nI_add, nn_neg, nm_eq, mn_eq, mm_eq, mn_lt, nm_lt, mn_le, nm_le, nn_sub0, nn_of, implies_true, nn_c, nn_in, nn_div, nat_rem, Nat.reduceMul, Nat.reduceSub, Nat.reduceDiv, Nat.reduceMod, pf_at, pf_ne, mk_s, mk_1, Classical.not_not, b2i_T, b2i_F, false_imp_iff, true_imp_iff, false_and, and_false, p_sw, Int.reduceAdd, Int.zero_add, Option.some.injEq, Value.int.injEq, Value.long.injEq, Value.ref.injEq, exists_eq_left', mk_I, mk_L, mk_wI, mk_wL, rf_s, rf_n, true_and, and_true, and_self, or_true, true_or, or_false, false_or, not_true_eq_false, not_false_eq_true, Option.toList_some, Option.toList_none, List.cons_append, List.nil_append, List.map_nil, List.map_cons, List.sum_nil, List.sum_cons, cat_i, cat_l, cat_r, cat_n, Nat.reduceLeDiff, Nat.reduceAdd, Nat.reduceEqDiff, Nat.zero_le, p_ent, p_u_ne, p_u_at, reduceIte, if_true, if_false, P_ce s]
  exact nx
end RU
section RV
variable (o : Bool) (B : Nat → Nat) (T Ls : Nat) (I : Nat → Nat → Int32) (L : Nat → Nat → Int64) (R : Nat → Nat → Option Nat) (X : List pKd)
def okPm (k : Nat) : Prop := ∀ x d l f cs r, d ≤ 8 → l ≤ 50 → RS o (tC B T) (tV B T) 0 d k l f cs = some r → ∃ J, mR B T I J r ∧ P_m (x + 3 * (8 - d) + 4) 177 [.ref 123, .int (nI d)] (p_mk Ls (mst I k l (mI 1)) L R X) (fun v h' => v = none ∧ h' = p_mk Ls J L R X)
def okSm (k : Nat) : Prop := ∀ x d l f cs r, d ≤ 8 → l ≤ 50 → RS o (tC B T) (tV B T) 1 d k l f cs = some r → ∃ J, mR B T I J r ∧ P_m (x + 3 * (8 - d) + 6) 175 [.ref 123, .int (nI d)] (p_mk Ls (mst I k l (mI 1)) L R X) (fun v h' => v = none ∧ h' = p_mk Ls J L R X)
end RV
section RW
variable {d Ls : Nat} {I : Nat → Nat → Int32} {L : Nat → Nat → Int64} {R : Nat → Nat → Option Nat} {X : List pKd} {h : pHp} {B : Nat → Nat} {T N : Nat} {o : Bool}
theorem partm_s {k : Nat} (hM : mF B T N o I) (hC : ∀ k, tC B T k < 356) (hN : ∀ k, N ≤ k → tC B T k = 0) (hk : k ≤ N) (hS : k < N → okSm o B T Ls I L R X (k + 1)) : okPm o B T Ls I L R X k := by
  intro x d l f cs r d8 l5 hr
  have h4 := hM.2.1
  have T4 := hM.2.2.2.2.2.2
  have tb := tS_b (B := B) (T := T) k
  have cl := hC k
  rw [RS_0 hN h4] at hr
  have e19 := mst_19 (I := I) (k := k) (l := l) (b := mI 1)
  obtain ⟨t1, t2, t3⟩ := hM.1 k (by omega)
  have e132 : mst I k l (mI 1) 132 k = nI (tC B T k) := by rw [mst_ne (by omega)]; exact t1
  have e133 : mst I k l (mI 1) 133 k = nI (tV B T k) := by rw [mst_ne (by omega)]; exact t2
  have s1 := fi_y (d := x + 3 * (8 - d) + 3) (Ls := Ls) (I := I) (L := L) (R := R) (X := X) (k := k) (l := l)
  have sf := fa_y (d := x + 3 * (8 - d) + 2) (Ls := Ls) (L := L) (R := R) (X := X) (l := l) hM hk
  have sn := fi_n (d := x + 3 * (8 - d) + 3) (Ls := Ls) (I := I) (L := L) (R := R) (X := X) (k := k) (l := l) (p := tS B T k) (by omega)
  by_cases c : tC B T k = 191
  · have kN := kN_of hN (show ¬ tC B T k = 0 by omega)
    rw [if_pos c] at hr
    rw [c] at e132
    by_cases c8 : 8 ≤ d
    · rw [if_pos c8] at hr
      cases hr
      have d8' : d = 8 := by omega
      subst d8'
      refine ⟨_, ⟨k, l, rfl⟩, ?_⟩
      generalize mst I k l (nI (tS B T k)) = J1 at *
      generalize mst I k l (mI 1) = J at *
      simp -implicitDefEqProofs (disch := first | omega | decide) only [P_m, ↓P_run_eq _ 177 _ (p_bk 177 0), bk_177_0, pb_177_0, ↓P_run_eq _ 177 _ (p_bk 177 1), bk_177_1, pb_177_1, ↓P_run_eq _ 177 _ (p_bk 177 2), bk_177_2, pb_177_2, pw_aload_n0, pw_aloadN_n0, pw_iv1, pw_zne, pw_vret, pw_getR, pw_getI, pw_iald, pw_istore_n2, ps_2, pe_2, po_i2, po_r2, po_n2, po_u2, pw_iload_n2, pw_bipush, bl_91, pw_is1, pw_cne, pw_iload_n1, bl_8, pw_nop, kd_123, rf_123_1, rf_123_2, rf_123_3, rf_123_4, rf_123_5, rf_123_7, rf_123_11, rf_123_12, rf_123_15, rf_123_16, rf_123_17, rf_123_26, rf_123_29, rf_123_30, rf_123_32, rf_123_34, rf_123_35, rf_123_45, kd_132, n_0, n_1, n_8, n_91, nn_lt, nn_nlt, nn_le, nn_nle, nn_ne, nn_sub, nn_mul, nI_add, nn_neg, nm_eq, mn_eq, mm_eq, mn_lt, nm_lt, mn_le, nm_le, nn_sub0, nn_of, implies_true, nn_c, nn_in, nn_div, nat_rem, Nat.reduceMul, Nat.reduceSub, Nat.reduceDiv, Nat.reduceMod, pf_at, pf_ne, mk_s, mk_1, Classical.not_not, b2i_T, b2i_F, false_imp_iff, true_imp_iff, false_and, and_false, p_sw, Int.reduceAdd, Int.zero_add, Option.some.injEq, Value.int.injEq, Value.long.injEq, Value.ref.injEq, exists_eq_left', mk_I, mk_L, mk_wI, mk_wL, rf_s, rf_n, true_and, and_true, and_self, or_true, true_or, or_false, false_or, not_true_eq_false, not_false_eq_true, Option.toList_some, Option.toList_none, List.cons_append, List.nil_append, List.map_nil, List.map_cons, List.sum_nil, List.sum_cons, cat_i, cat_l, cat_r, cat_n, Nat.reduceLeDiff, Nat.reduceAdd, Nat.reduceEqDiff, Nat.zero_le, p_ent, p_u_ne, p_u_at, reduceIte, if_true, if_false, e19, e132, P_ce (sp_167), P_ce s1, P_ce sf, P_ce sn]
    · rw [if_neg c8] at hr
      have w := mst_w19 (I := I) (k := k) (l := l) (b := mI 1) (k' := k + 1)
      obtain ⟨q, hq⟩ := RS_t (o := o) (V := tV B T) (md := 1) (d := d + 1) (l := l) (f := f) (cs := []) hN h4 (show k + 1 ≤ N by omega) (by omega)
      obtain ⟨J, o1, s175⟩ := hS kN x (d + 1) l f [] q (by omega) l5 hq
      rw [show x + 3 * (8 - (d + 1)) + 6 = x + 3 * (8 - d) + 3 by omega] at s175
      rw [hq] at hr
      match q, hq, o1, hr with
      | .error e, hq, o1, hr =>
        cases hr
        obtain ⟨k', l', rfl⟩ := o1
        have te := tS_b (B := B) (T := T) e
        have s165 := mu_n (d := x + 3 * (8 - d) + 1) (Ls := Ls) (I := I) (L := L) (R := R) (X := X) (k := k') (l := l') (p := tS B T e) (c := nI 193) (by omega)
        refine ⟨_, ⟨k', l', rfl⟩, ?_⟩
        generalize mst I k' l' (nI (tS B T e)) = J1 at *
        generalize mst I (k + 1) l (mI 1) = J2 at *
        generalize mst I k l (mI 1) = J at *
        simp -implicitDefEqProofs (disch := first | omega | decide) only [P_m, ↓P_run_eq _ 177 _ (p_bk 177 0), bk_177_0, pb_177_0, ↓P_run_eq _ 177 _ (p_bk 177 1), bk_177_1, pb_177_1, ↓P_run_eq _ 177 _ (p_bk 177 2), bk_177_2, pb_177_2, ↓P_run_eq _ 177 _ (p_bk 177 3), bk_177_3, pb_177_3, ↓P_run_eq _ 177 _ (p_bk 177 8), bk_177_8, pb_177_8, pw_aload_n0, pw_aloadN_n0, pw_iv1, pw_zne, pw_vret, pw_getR, pw_getI, pw_iald, pw_istore_n2, ps_2, pe_2, po_i2, po_r2, po_n2, po_u2, pw_iload_n2, pw_bipush, bl_91, pw_is1, pw_cne, pw_iload_n1, bl_8, pw_nop, pw_dupi, pw_dupr, pw_iconst, il_1, pw_iadd, pw_putI, pw_iv2, bl_93, pw_goto, kd_123, rf_123_1, rf_123_2, rf_123_3, rf_123_4, rf_123_5, rf_123_7, rf_123_11, rf_123_12, rf_123_15, rf_123_16, rf_123_17, rf_123_26, rf_123_29, rf_123_30, rf_123_32, rf_123_34, rf_123_35, rf_123_45, kd_132, n_0, n_1, n_8, n_91, n_93, nn_lt, nn_nlt, nn_le, nn_nle, nn_ne, nn_sub, nn_mul, nI_add, nn_neg, nm_eq, mn_eq, mm_eq, mn_lt, nm_lt, mn_le, nm_le, nn_sub0, nn_of, implies_true, nn_c, nn_in, nn_div, nat_rem, Nat.reduceMul, Nat.reduceSub, Nat.reduceDiv, Nat.reduceMod, pf_at, pf_ne, mk_s, mk_1, Classical.not_not, b2i_T, b2i_F, false_imp_iff, true_imp_iff, false_and, and_false, p_sw, Int.reduceAdd, Int.zero_add, Option.some.injEq, Value.int.injEq, Value.long.injEq, Value.ref.injEq, exists_eq_left', mk_I, mk_L, mk_wI, mk_wL, rf_s, rf_n, true_and, and_true, and_self, or_true, true_or, or_false, false_or, not_true_eq_false, not_false_eq_true, Option.toList_some, Option.toList_none, List.cons_append, List.nil_append, List.map_nil, List.map_cons, List.sum_nil, List.sum_cons, cat_i, cat_l, cat_r, cat_n, Nat.reduceLeDiff, Nat.reduceAdd, Nat.reduceEqDiff, Nat.zero_le, p_ent, p_u_ne, p_u_at, reduceIte, if_true, if_false, e19, e132, w, P_ce (sp_167), P_ce s1, P_ce s175, P_ce s165]
      | .ok q, hq, o1, hr =>
        rw [bnd_ok] at hr
        obtain ⟨q1, q2, -⟩ := RS_pr hN hq (show k + 1 ≤ N by omega)
        have o1 : J = mst I q.1 q.2.1 (mI 1) := o1
        subst o1
        have s165 := mu_y (d := x + 3 * (8 - d) + 1) (Ls := Ls) (L := L) (R := R) (X := X) (l := q.2.1) (c := 193) hM q1 (by omega) (hC _)
        by_cases c3 : tC B T q.1 = 193
        · rw [if_pos c3] at hr s165
          cases hr
          refine ⟨mst I (q.1 + 1) q.2.1 (mI 1), rfl, ?_⟩
          clear sf sn
          generalize mst I (q.1 + 1) q.2.1 (mI 1) = J3 at *
          generalize mst I q.1 q.2.1 (mI 1) = J1 at *
          generalize mst I (k + 1) l (mI 1) = J2 at *
          generalize mst I k l (mI 1) = J at *
          simp -implicitDefEqProofs (disch := first | omega | decide) only [P_m, ↓P_run_eq _ 177 _ (p_bk 177 0), bk_177_0, pb_177_0, ↓P_run_eq _ 177 _ (p_bk 177 1), bk_177_1, pb_177_1, ↓P_run_eq _ 177 _ (p_bk 177 2), bk_177_2, pb_177_2, ↓P_run_eq _ 177 _ (p_bk 177 3), bk_177_3, pb_177_3, ↓P_run_eq _ 177 _ (p_bk 177 8), bk_177_8, pb_177_8, pw_aload_n0, pw_aloadN_n0, pw_iv1, pw_zne, pw_vret, pw_getR, pw_getI, pw_iald, pw_istore_n2, ps_2, pe_2, po_i2, po_r2, po_n2, po_u2, pw_iload_n2, pw_bipush, bl_91, pw_is1, pw_cne, pw_iload_n1, bl_8, pw_nop, pw_dupi, pw_dupr, pw_iconst, il_1, pw_iadd, pw_putI, pw_iv2, bl_93, pw_goto, kd_123, rf_123_1, rf_123_2, rf_123_3, rf_123_4, rf_123_5, rf_123_7, rf_123_11, rf_123_12, rf_123_15, rf_123_16, rf_123_17, rf_123_26, rf_123_29, rf_123_30, rf_123_32, rf_123_34, rf_123_35, rf_123_45, kd_132, n_0, n_1, n_8, n_91, n_93, nn_lt, nn_nlt, nn_le, nn_nle, nn_ne, nn_sub, nn_mul, nI_add, nn_neg, nm_eq, mn_eq, mm_eq, mn_lt, nm_lt, mn_le, nm_le, nn_sub0, nn_of, implies_true, nn_c, nn_in, nn_div, nat_rem, Nat.reduceMul, Nat.reduceSub, Nat.reduceDiv, Nat.reduceMod, pf_at, pf_ne, mk_s, mk_1, Classical.not_not, b2i_T, b2i_F, false_imp_iff, true_imp_iff, false_and, and_false, p_sw, Int.reduceAdd, Int.zero_add, Option.some.injEq, Value.int.injEq, Value.long.injEq, Value.ref.injEq, exists_eq_left', mk_I, mk_L, mk_wI, mk_wL, rf_s, rf_n, true_and, and_true, and_self, or_true, true_or, or_false, false_or, not_true_eq_false, not_false_eq_true, Option.toList_some, Option.toList_none, List.cons_append, List.nil_append, List.map_nil, List.map_cons, List.sum_nil, List.sum_cons, cat_i, cat_l, cat_r, cat_n, Nat.reduceLeDiff, Nat.reduceAdd, Nat.reduceEqDiff, Nat.zero_le, p_ent, p_u_ne, p_u_at, reduceIte, if_true, if_false, e19, e132, w, P_ce (sp_167), P_ce s1, P_ce s175, P_ce s165]
        · rw [if_neg c3] at hr s165
          cases hr
          refine ⟨_, ⟨q.1, q.2.1, rfl⟩, ?_⟩
          clear sf sn
          generalize mst I q.1 q.2.1 (nI (tS B T q.1)) = J3 at *
          generalize mst I q.1 q.2.1 (mI 1) = J1 at *
          generalize mst I (k + 1) l (mI 1) = J2 at *
          generalize mst I k l (mI 1) = J at *
          simp -implicitDefEqProofs (disch := first | omega | decide) only [P_m, ↓P_run_eq _ 177 _ (p_bk 177 0), bk_177_0, pb_177_0, ↓P_run_eq _ 177 _ (p_bk 177 1), bk_177_1, pb_177_1, ↓P_run_eq _ 177 _ (p_bk 177 2), bk_177_2, pb_177_2, ↓P_run_eq _ 177 _ (p_bk 177 3), bk_177_3, pb_177_3, ↓P_run_eq _ 177 _ (p_bk 177 8), bk_177_8, pb_177_8, pw_aload_n0, pw_aloadN_n0, pw_iv1, pw_zne, pw_vret, pw_getR, pw_getI, pw_iald, pw_istore_n2, ps_2, pe_2, po_i2, po_r2, po_n2, po_u2, pw_iload_n2, pw_bipush, bl_91, pw_is1, pw_cne, pw_iload_n1, bl_8, pw_nop, pw_dupi, pw_dupr, pw_iconst, il_1, pw_iadd, pw_putI, pw_iv2, bl_93, pw_goto, kd_123, rf_123_1, rf_123_2, rf_123_3, rf_123_4, rf_123_5, rf_123_7, rf_123_11, rf_123_12, rf_123_15, rf_123_16, rf_123_17, rf_123_26, rf_123_29, rf_123_30, rf_123_32, rf_123_34, rf_123_35, rf_123_45, kd_132, n_0, n_1, n_8, n_91, n_93, nn_lt, nn_nlt, nn_le, nn_nle, nn_ne, nn_sub, nn_mul, nI_add, nn_neg, nm_eq, mn_eq, mm_eq, mn_lt, nm_lt, mn_le, nm_le, nn_sub0, nn_of, implies_true, nn_c, nn_in, nn_div, nat_rem, Nat.reduceMul, Nat.reduceSub, Nat.reduceDiv, Nat.reduceMod, pf_at, pf_ne, mk_s, mk_1, Classical.not_not, b2i_T, b2i_F, false_imp_iff, true_imp_iff, false_and, and_false, p_sw, Int.reduceAdd, Int.zero_add, Option.some.injEq, Value.int.injEq, Value.long.injEq, Value.ref.injEq, exists_eq_left', mk_I, mk_L, mk_wI, mk_wL, rf_s, rf_n, true_and, and_true, and_self, or_true, true_or, or_false, false_or, not_true_eq_false, not_false_eq_true, Option.toList_some, Option.toList_none, List.cons_append, List.nil_append, List.map_nil, List.map_cons, List.sum_nil, List.sum_cons, cat_i, cat_l, cat_r, cat_n, Nat.reduceLeDiff, Nat.reduceAdd, Nat.reduceEqDiff, Nat.zero_le, p_ent, p_u_ne, p_u_at, reduceIte, if_true, if_false, e19, e132, w, P_ce (sp_167), P_ce s1, P_ce s175, P_ce s165]
  · rw [if_neg c] at hr
    unfold pLf at hr
    have e8 : mst I k l (mI 1) 123 8 = nI (if o = true then 12 else 8) := by rw [mst_at (by omega) (by omega) (by omega)]; exact hM.2.2.2.1
    have e9 : mst I k l (mI 1) 123 9 = nI (if o = true then 18 else 16) := by rw [mst_at (by omega) (by omega) (by omega)]; exact hM.2.2.2.2.1
    have vl := tV_le (B := B) (T := T) (i := k)
    by_cases lf : isLf o (tC B T k) (tV B T k) = false
    · rw [if_pos lf] at hr
      cases hr
      refine ⟨_, ⟨k, l, rfl⟩, ?_⟩
      unfold isLf at lf
      rw [Bool.or_eq_false_iff] at lf
      obtain ⟨l1, l2⟩ := lf
      have l1 : tC B T k = 50 → ¬ tV B T k ≤ 1000 := fun h1 h2 => by rw [decide_eq_true h1, decide_eq_true h2] at l1; cases l1
      have lw : ¬ ((if o = true then 12 else 8) ≤ tC B T k ∧ tC B T k ≤ (if o = true then 18 else 16)) := by cases o <;> simpa using l2
      have fb : (if o = true then 12 else 8) ≤ 12 := by split <;> omega
      have fb2 : (if o = true then 18 else 16) ≤ 18 := by split <;> omega
      clear l2 sn
      generalize (if o = true then 12 else 8) = fw at *
      generalize (if o = true then 18 else 16) = lw2 at *
      generalize mst I k l (nI (tS B T k)) = J1 at *
      generalize mst I k l (mI 1) = J at *
      generalize tC B T k = cc at *
      generalize tV B T k = vv at *
      by_cases c50 : cc = 50
      · have l1 := l1 c50
        subst c50
        by_cases z : fw ≤ 50
        · have z2 : lw2 < 50 := by omega
          simp -implicitDefEqProofs (disch := first | omega | decide) only [P_m, ↓P_run_eq _ 177 _ (p_bk 177 0), bk_177_0, pb_177_0, ↓P_run_eq _ 177 _ (p_bk 177 1), bk_177_1, pb_177_1, ↓P_run_eq _ 177 _ (p_bk 177 4), bk_177_4, pb_177_4, ↓P_run_eq _ 177 _ (p_bk 177 5), bk_177_5, pb_177_5, ↓P_run_eq _ 177 _ (p_bk 177 7), bk_177_7, pb_177_7, ↓P_run_eq _ 177 _ (p_bk 177 8), bk_177_8, pb_177_8, pw_aload_n0, pw_aloadN_n0, pw_iv1, pw_zne, pw_vret, pw_getR, pw_getI, pw_iald, pw_istore_n2, ps_2, pe_2, po_i2, po_r2, po_n2, po_u2, pw_iload_n2, pw_bipush, bl_91, pw_is1, pw_cne, pw_iload_n1, bl_8, pw_nop, bl_50, pw_sipush, sl_1000, pw_cle, pw_clt, pw_cgt, kd_123, rf_123_1, rf_123_2, rf_123_3, rf_123_4, rf_123_5, rf_123_7, rf_123_11, rf_123_12, rf_123_15, rf_123_16, rf_123_17, rf_123_26, rf_123_29, rf_123_30, rf_123_32, rf_123_34, rf_123_35, rf_123_45, kd_132, kd_133, n_0, n_1, n_8, n_50, n_91, n_1000, nn_lt, nn_nlt, nn_le, nn_nle, nn_ne, nn_sub, nn_mul, nI_add, nn_neg, nm_eq, mn_eq, mm_eq, mn_lt, nm_lt, mn_le, nm_le, nn_sub0, nn_of, implies_true, nn_c, nn_in, nn_div, nat_rem, Nat.reduceMul, Nat.reduceSub, Nat.reduceDiv, Nat.reduceMod, pf_at, pf_ne, mk_s, mk_1, Classical.not_not, b2i_T, b2i_F, false_imp_iff, true_imp_iff, false_and, and_false, p_sw, Int.reduceAdd, Int.zero_add, Option.some.injEq, Value.int.injEq, Value.long.injEq, Value.ref.injEq, exists_eq_left', mk_I, mk_L, mk_wI, mk_wL, rf_s, rf_n, true_and, and_true, and_self, or_true, true_or, or_false, false_or, not_true_eq_false, not_false_eq_true, Option.toList_some, Option.toList_none, List.cons_append, List.nil_append, List.map_nil, List.map_cons, List.sum_nil, List.sum_cons, cat_i, cat_l, cat_r, cat_n, Nat.reduceLeDiff, Nat.reduceAdd, Nat.reduceEqDiff, Nat.zero_le, p_ent, p_u_ne, p_u_at, reduceIte, if_true, if_false, e19, e132, e133, e8, e9, P_ce (sp_167), P_ce s1, P_ce sf]
        · exfalso; omega
      · by_cases z : fw ≤ cc
        · have z2 : lw2 < cc := by omega
          simp -implicitDefEqProofs (disch := first | omega | decide) only [P_m, ↓P_run_eq _ 177 _ (p_bk 177 0), bk_177_0, pb_177_0, ↓P_run_eq _ 177 _ (p_bk 177 1), bk_177_1, pb_177_1, ↓P_run_eq _ 177 _ (p_bk 177 4), bk_177_4, pb_177_4, ↓P_run_eq _ 177 _ (p_bk 177 5), bk_177_5, pb_177_5, ↓P_run_eq _ 177 _ (p_bk 177 7), bk_177_7, pb_177_7, ↓P_run_eq _ 177 _ (p_bk 177 8), bk_177_8, pb_177_8, pw_aload_n0, pw_aloadN_n0, pw_iv1, pw_zne, pw_vret, pw_getR, pw_getI, pw_iald, pw_istore_n2, ps_2, pe_2, po_i2, po_r2, po_n2, po_u2, pw_iload_n2, pw_bipush, bl_91, pw_is1, pw_cne, pw_iload_n1, bl_8, pw_nop, bl_50, pw_sipush, sl_1000, pw_cle, pw_clt, pw_cgt, kd_123, rf_123_1, rf_123_2, rf_123_3, rf_123_4, rf_123_5, rf_123_7, rf_123_11, rf_123_12, rf_123_15, rf_123_16, rf_123_17, rf_123_26, rf_123_29, rf_123_30, rf_123_32, rf_123_34, rf_123_35, rf_123_45, kd_132, kd_133, n_0, n_1, n_8, n_50, n_91, n_1000, nn_lt, nn_nlt, nn_le, nn_nle, nn_ne, nn_sub, nn_mul, nI_add, nn_neg, nm_eq, mn_eq, mm_eq, mn_lt, nm_lt, mn_le, nm_le, nn_sub0, nn_of, implies_true, nn_c, nn_in, nn_div, nat_rem, Nat.reduceMul, Nat.reduceSub, Nat.reduceDiv, Nat.reduceMod, pf_at, pf_ne, mk_s, mk_1, Classical.not_not, b2i_T, b2i_F, false_imp_iff, true_imp_iff, false_and, and_false, p_sw, Int.reduceAdd, Int.zero_add, Option.some.injEq, Value.int.injEq, Value.long.injEq, Value.ref.injEq, exists_eq_left', mk_I, mk_L, mk_wI, mk_wL, rf_s, rf_n, true_and, and_true, and_self, or_true, true_or, or_false, false_or, not_true_eq_false, not_false_eq_true, Option.toList_some, Option.toList_none, List.cons_append, List.nil_append, List.map_nil, List.map_cons, List.sum_nil, List.sum_cons, cat_i, cat_l, cat_r, cat_n, Nat.reduceLeDiff, Nat.reduceAdd, Nat.reduceEqDiff, Nat.zero_le, p_ent, p_u_ne, p_u_at, reduceIte, if_true, if_false, e19, e132, e133, e8, e9, P_ce (sp_167), P_ce s1, P_ce sf]
        · simp -implicitDefEqProofs (disch := first | omega | decide) only [P_m, ↓P_run_eq _ 177 _ (p_bk 177 0), bk_177_0, pb_177_0, ↓P_run_eq _ 177 _ (p_bk 177 1), bk_177_1, pb_177_1, ↓P_run_eq _ 177 _ (p_bk 177 4), bk_177_4, pb_177_4, ↓P_run_eq _ 177 _ (p_bk 177 5), bk_177_5, pb_177_5, ↓P_run_eq _ 177 _ (p_bk 177 7), bk_177_7, pb_177_7, ↓P_run_eq _ 177 _ (p_bk 177 8), bk_177_8, pb_177_8, pw_aload_n0, pw_aloadN_n0, pw_iv1, pw_zne, pw_vret, pw_getR, pw_getI, pw_iald, pw_istore_n2, ps_2, pe_2, po_i2, po_r2, po_n2, po_u2, pw_iload_n2, pw_bipush, bl_91, pw_is1, pw_cne, pw_iload_n1, bl_8, pw_nop, bl_50, pw_sipush, sl_1000, pw_cle, pw_clt, pw_cgt, kd_123, rf_123_1, rf_123_2, rf_123_3, rf_123_4, rf_123_5, rf_123_7, rf_123_11, rf_123_12, rf_123_15, rf_123_16, rf_123_17, rf_123_26, rf_123_29, rf_123_30, rf_123_32, rf_123_34, rf_123_35, rf_123_45, kd_132, kd_133, n_0, n_1, n_8, n_50, n_91, n_1000, nn_lt, nn_nlt, nn_le, nn_nle, nn_ne, nn_sub, nn_mul, nI_add, nn_neg, nm_eq, mn_eq, mm_eq, mn_lt, nm_lt, mn_le, nm_le, nn_sub0, nn_of, implies_true, nn_c, nn_in, nn_div, nat_rem, Nat.reduceMul, Nat.reduceSub, Nat.reduceDiv, Nat.reduceMod, pf_at, pf_ne, mk_s, mk_1, Classical.not_not, b2i_T, b2i_F, false_imp_iff, true_imp_iff, false_and, and_false, p_sw, Int.reduceAdd, Int.zero_add, Option.some.injEq, Value.int.injEq, Value.long.injEq, Value.ref.injEq, exists_eq_left', mk_I, mk_L, mk_wI, mk_wL, rf_s, rf_n, true_and, and_true, and_self, or_true, true_or, or_false, false_or, not_true_eq_false, not_false_eq_true, Option.toList_some, Option.toList_none, List.cons_append, List.nil_append, List.map_nil, List.map_cons, List.sum_nil, List.sum_cons, cat_i, cat_l, cat_r, cat_n, Nat.reduceLeDiff, Nat.reduceAdd, Nat.reduceEqDiff, Nat.zero_le, p_ent, p_u_ne, p_u_at, reduceIte, if_true, if_false, e19, e132, e133, e8, e9, P_ce (sp_167), P_ce s1, P_ce sf]
    · rw [if_neg lf] at hr
      have lf : isLf o (tC B T k) (tV B T k) = true := by simpa using lf
      have s166 := lf_y (d := x + 3 * (8 - d) + 1) (Ls := Ls) (L := L) (R := R) (X := X) hM hk l5
      unfold isLf at lf
      rw [Bool.or_eq_true] at lf
      have lf1 : (tC B T k = 50 ∧ tV B T k ≤ 1000) ∨ (¬ tC B T k = 50 ∧ (if o = true then 12 else 8) ≤ tC B T k ∧ tC B T k ≤ (if o = true then 18 else 16)) := by
        by_cases c5 : tC B T k = 50
        · rcases lf with h | h
          · left; simpa [c5] using h
          · rw [c5] at h; cases o <;> simp at h
        · rcases lf with h | h
          · simp [c5] at h
          · right; refine ⟨c5, ?_⟩; cases o <;> simpa using h
      have fb : (if o = true then 12 else 8) ≤ 12 := by split <;> omega
      have fb2 : (if o = true then 18 else 16) ≤ 18 := by split <;> omega
      -- from the leaf on
      have tail : P_run (x + 3 * (8 - d) + 3 + 1) 177 (p_bk 177 6) 0 0 [.ref 123, .int (nI d), .int (nI (tC B T k))] [] (p_mk Ls (mst I k l (mI 1)) L R X) (fun v h' => v = none ∧ ∃ J, mR B T I J r ∧ h' = p_mk Ls J L R X) := by
        by_cases l50 : 50 ≤ l
        · have l5' : l = 50 := by omega
          rw [if_pos l50] at hr
          cases hr
          rw [if_pos l5'] at s166
          have e10 : mst I k 51 (nI (tS B T k)) 123 10 = nI (bN o) := by rw [mst_at (by omega) (by omega) (by omega)]; exact hM.2.2.1
          have s168 := nu_n (d := x + 3 * (8 - d) + 1) (Ls := Ls) (I := I) (L := L) (R := R) (X := X) (k := k) (l := 51) (p := tS B T k) (lo := nI 0) (hi := nI 7) (by omega)
          have fin : mR B T I (mst I k 51 (nI (tS B T k))) (.error k : Except Nat (Nat × Nat × tDS × tCd)) := ⟨k, 51, rfl⟩
          clear s1 sf sn lf lf1
          generalize mst I k 51 (nI (tS B T k)) = J1 at *
          generalize mst I k l (mI 1) = J at *
          generalize tC B T k = cc at *
          cases o with
          | false =>
            rw [bN_f] at e10
            rw [P_run_eq, bk_177_6, pb_177_6]; simp -implicitDefEqProofs (disch := first | omega | decide) only [P_m, ↓P_run_eq _ 177 _ (p_bk 177 8), bk_177_8, pb_177_8, pw_aload_n0, pw_aloadN_n0, pw_iv1, pw_getI, pw_zeq, pw_iload_n2, pw_bipush, bl_12, pw_cne, pw_iconst, il_0, bl_7, pw_iv3, pw_goto, pw_vret, kd_123, rf_123_1, rf_123_2, rf_123_3, rf_123_4, rf_123_5, rf_123_7, rf_123_11, rf_123_12, rf_123_15, rf_123_16, rf_123_17, rf_123_26, rf_123_29, rf_123_30, rf_123_32, rf_123_34, rf_123_35, rf_123_45, n_0, n_1, n_7, n_12, nn_lt, nn_nlt, nn_le, nn_nle, nn_ne, nn_sub, nn_mul, nI_add, nn_neg, nm_eq, mn_eq, mm_eq, mn_lt, nm_lt, mn_le, nm_le, nn_sub0, nn_of, implies_true, nn_c, nn_in, nn_div, nat_rem, Nat.reduceMul, Nat.reduceSub, Nat.reduceDiv, Nat.reduceMod, pf_at, pf_ne, mk_s, mk_1, Classical.not_not, b2i_T, b2i_F, false_imp_iff, true_imp_iff, false_and, and_false, p_sw, Int.reduceAdd, Int.zero_add, Option.some.injEq, Value.int.injEq, Value.long.injEq, Value.ref.injEq, exists_eq_left', mk_I, mk_L, mk_wI, mk_wL, rf_s, rf_n, true_and, and_true, and_self, or_true, true_or, or_false, false_or, not_true_eq_false, not_false_eq_true, Option.toList_some, Option.toList_none, List.cons_append, List.nil_append, List.map_nil, List.map_cons, List.sum_nil, List.sum_cons, cat_i, cat_l, cat_r, cat_n, Nat.reduceLeDiff, Nat.reduceAdd, Nat.reduceEqDiff, Nat.zero_le, p_ent, p_u_ne, p_u_at, reduceIte, if_true, if_false, e10, P_ce s166]
            exact ⟨J1, fin, rfl⟩
          | true =>
            rw [bN_t] at e10
            by_cases c12 : cc = 12
            · subst c12
              rw [P_run_eq, bk_177_6, pb_177_6]; simp -implicitDefEqProofs (disch := first | omega | decide) only [P_m, ↓P_run_eq _ 177 _ (p_bk 177 8), bk_177_8, pb_177_8, pw_aload_n0, pw_aloadN_n0, pw_iv1, pw_getI, pw_zeq, pw_iload_n2, pw_bipush, bl_12, pw_cne, pw_iconst, il_0, bl_7, pw_iv3, pw_goto, pw_vret, kd_123, rf_123_1, rf_123_2, rf_123_3, rf_123_4, rf_123_5, rf_123_7, rf_123_11, rf_123_12, rf_123_15, rf_123_16, rf_123_17, rf_123_26, rf_123_29, rf_123_30, rf_123_32, rf_123_34, rf_123_35, rf_123_45, n_0, n_1, n_7, n_12, nn_lt, nn_nlt, nn_le, nn_nle, nn_ne, nn_sub, nn_mul, nI_add, nn_neg, nm_eq, mn_eq, mm_eq, mn_lt, nm_lt, mn_le, nm_le, nn_sub0, nn_of, implies_true, nn_c, nn_in, nn_div, nat_rem, Nat.reduceMul, Nat.reduceSub, Nat.reduceDiv, Nat.reduceMod, pf_at, pf_ne, mk_s, mk_1, Classical.not_not, b2i_T, b2i_F, false_imp_iff, true_imp_iff, false_and, and_false, p_sw, Int.reduceAdd, Int.zero_add, Option.some.injEq, Value.int.injEq, Value.long.injEq, Value.ref.injEq, exists_eq_left', mk_I, mk_L, mk_wI, mk_wL, rf_s, rf_n, true_and, and_true, and_self, or_true, true_or, or_false, false_or, not_true_eq_false, not_false_eq_true, Option.toList_some, Option.toList_none, List.cons_append, List.nil_append, List.map_nil, List.map_cons, List.sum_nil, List.sum_cons, cat_i, cat_l, cat_r, cat_n, Nat.reduceLeDiff, Nat.reduceAdd, Nat.reduceEqDiff, Nat.zero_le, p_ent, p_u_ne, p_u_at, reduceIte, if_true, if_false, e10, P_ce s166, P_ce s168]
              exact ⟨J1, fin, rfl⟩
            · rw [P_run_eq, bk_177_6, pb_177_6]; simp -implicitDefEqProofs (disch := first | omega | decide) only [P_m, ↓P_run_eq _ 177 _ (p_bk 177 8), bk_177_8, pb_177_8, pw_aload_n0, pw_aloadN_n0, pw_iv1, pw_getI, pw_zeq, pw_iload_n2, pw_bipush, bl_12, pw_cne, pw_iconst, il_0, bl_7, pw_iv3, pw_goto, pw_vret, kd_123, rf_123_1, rf_123_2, rf_123_3, rf_123_4, rf_123_5, rf_123_7, rf_123_11, rf_123_12, rf_123_15, rf_123_16, rf_123_17, rf_123_26, rf_123_29, rf_123_30, rf_123_32, rf_123_34, rf_123_35, rf_123_45, n_0, n_1, n_7, n_12, nn_lt, nn_nlt, nn_le, nn_nle, nn_ne, nn_sub, nn_mul, nI_add, nn_neg, nm_eq, mn_eq, mm_eq, mn_lt, nm_lt, mn_le, nm_le, nn_sub0, nn_of, implies_true, nn_c, nn_in, nn_div, nat_rem, Nat.reduceMul, Nat.reduceSub, Nat.reduceDiv, Nat.reduceMod, pf_at, pf_ne, mk_s, mk_1, Classical.not_not, b2i_T, b2i_F, false_imp_iff, true_imp_iff, false_and, and_false, p_sw, Int.reduceAdd, Int.zero_add, Option.some.injEq, Value.int.injEq, Value.long.injEq, Value.ref.injEq, exists_eq_left', mk_I, mk_L, mk_wI, mk_wL, rf_s, rf_n, true_and, and_true, and_self, or_true, true_or, or_false, false_or, not_true_eq_false, not_false_eq_true, Option.toList_some, Option.toList_none, List.cons_append, List.nil_append, List.map_nil, List.map_cons, List.sum_nil, List.sum_cons, cat_i, cat_l, cat_r, cat_n, Nat.reduceLeDiff, Nat.reduceAdd, Nat.reduceEqDiff, Nat.zero_le, p_ent, p_u_ne, p_u_at, reduceIte, if_true, if_false, e10, P_ce s166]
              exact ⟨J1, fin, rfl⟩
        · rw [if_neg l50] at hr
          rw [if_neg (show ¬ l = 50 by omega)] at s166
          have kN : k < N := kN_of hN (fun hz => by
            rw [hz] at lf1
            rcases lf1 with h | h
            · omega
            · have := h.2.1; split at this <;> omega)
          have e10 : mst I (k + 1) (l + 1) (mI 1) 123 10 = nI (bN o) := by rw [mst_at (by omega) (by omega) (by omega)]; exact hM.2.2.1
          have plain : (¬ (o = true ∧ tC B T k = 12)) → mR B T I (mst I (k + 1) (l + 1) (mI 1)) r → P_run (x + 3 * (8 - d) + 3 + 1) 177 (p_bk 177 6) 0 0 [.ref 123, .int (nI d), .int (nI (tC B T k))] [] (p_mk Ls (mst I k l (mI 1)) L R X) (fun v h' => v = none ∧ ∃ J, mR B T I J r ∧ h' = p_mk Ls J L R X) := by
            intro hn fin
            clear s1 sf sn lf lf1 hr
            generalize mst I (k + 1) (l + 1) (mI 1) = J1 at *
            generalize mst I k l (mI 1) = J at *
            generalize tC B T k = cc at *
            cases o with
            | false =>
              rw [bN_f] at e10
              rw [P_run_eq, bk_177_6, pb_177_6]; simp -implicitDefEqProofs (disch := first | omega | decide) only [P_m, ↓P_run_eq _ 177 _ (p_bk 177 8), bk_177_8, pb_177_8, pw_aload_n0, pw_aloadN_n0, pw_iv1, pw_getI, pw_zeq, pw_iload_n2, pw_bipush, bl_12, pw_cne, pw_iconst, il_0, bl_7, pw_iv3, pw_goto, pw_vret, kd_123, rf_123_1, rf_123_2, rf_123_3, rf_123_4, rf_123_5, rf_123_7, rf_123_11, rf_123_12, rf_123_15, rf_123_16, rf_123_17, rf_123_26, rf_123_29, rf_123_30, rf_123_32, rf_123_34, rf_123_35, rf_123_45, n_0, n_1, n_7, n_12, nn_lt, nn_nlt, nn_le, nn_nle, nn_ne, nn_sub, nn_mul, nI_add, nn_neg, nm_eq, mn_eq, mm_eq, mn_lt, nm_lt, mn_le, nm_le, nn_sub0, nn_of, implies_true, nn_c, nn_in, nn_div, nat_rem, Nat.reduceMul, Nat.reduceSub, Nat.reduceDiv, Nat.reduceMod, pf_at, pf_ne, mk_s, mk_1, Classical.not_not, b2i_T, b2i_F, false_imp_iff, true_imp_iff, false_and, and_false, p_sw, Int.reduceAdd, Int.zero_add, Option.some.injEq, Value.int.injEq, Value.long.injEq, Value.ref.injEq, exists_eq_left', mk_I, mk_L, mk_wI, mk_wL, rf_s, rf_n, true_and, and_true, and_self, or_true, true_or, or_false, false_or, not_true_eq_false, not_false_eq_true, Option.toList_some, Option.toList_none, List.cons_append, List.nil_append, List.map_nil, List.map_cons, List.sum_nil, List.sum_cons, cat_i, cat_l, cat_r, cat_n, Nat.reduceLeDiff, Nat.reduceAdd, Nat.reduceEqDiff, Nat.zero_le, p_ent, p_u_ne, p_u_at, reduceIte, if_true, if_false, e10, P_ce s166]
              exact ⟨J1, fin, rfl⟩
            | true =>
              rw [bN_t] at e10
              have c12 : ¬ cc = 12 := fun h => hn ⟨rfl, h⟩
              rw [P_run_eq, bk_177_6, pb_177_6]; simp -implicitDefEqProofs (disch := first | omega | decide) only [P_m, ↓P_run_eq _ 177 _ (p_bk 177 8), bk_177_8, pb_177_8, pw_aload_n0, pw_aloadN_n0, pw_iv1, pw_getI, pw_zeq, pw_iload_n2, pw_bipush, bl_12, pw_cne, pw_iconst, il_0, bl_7, pw_iv3, pw_goto, pw_vret, kd_123, rf_123_1, rf_123_2, rf_123_3, rf_123_4, rf_123_5, rf_123_7, rf_123_11, rf_123_12, rf_123_15, rf_123_16, rf_123_17, rf_123_26, rf_123_29, rf_123_30, rf_123_32, rf_123_34, rf_123_35, rf_123_45, n_0, n_1, n_7, n_12, nn_lt, nn_nlt, nn_le, nn_nle, nn_ne, nn_sub, nn_mul, nI_add, nn_neg, nm_eq, mn_eq, mm_eq, mn_lt, nm_lt, mn_le, nm_le, nn_sub0, nn_of, implies_true, nn_c, nn_in, nn_div, nat_rem, Nat.reduceMul, Nat.reduceSub, Nat.reduceDiv, Nat.reduceMod, pf_at, pf_ne, mk_s, mk_1, Classical.not_not, b2i_T, b2i_F, false_imp_iff, true_imp_iff, false_and, and_false, p_sw, Int.reduceAdd, Int.zero_add, Option.some.injEq, Value.int.injEq, Value.long.injEq, Value.ref.injEq, exists_eq_left', mk_I, mk_L, mk_wI, mk_wL, rf_s, rf_n, true_and, and_true, and_self, or_true, true_or, or_false, false_or, not_true_eq_false, not_false_eq_true, Option.toList_some, Option.toList_none, List.cons_append, List.nil_append, List.map_nil, List.map_cons, List.sum_nil, List.sum_cons, cat_i, cat_l, cat_r, cat_n, Nat.reduceLeDiff, Nat.reduceAdd, Nat.reduceEqDiff, Nat.zero_le, p_ent, p_u_ne, p_u_at, reduceIte, if_true, if_false, e10, P_ce s166]
              exact ⟨J1, fin, rfl⟩
          by_cases c50 : tC B T k = 50
          · rw [if_pos c50] at hr
            cases hr
            exact plain (fun h => by omega) rfl
          · rw [if_neg c50] at hr
            by_cases c12 : o = true ∧ tC B T k = 12
            · rw [if_pos c12] at hr
              obtain ⟨ho, c12⟩ := c12
              subst ho
              rw [bN_t] at e10
              have s168 := nu_y (d := x + 3 * (8 - d) + 1) (Ls := Ls) (L := L) (R := R) (X := X) (k := k + 1) (l := l + 1) (lo := 0) (hi := 7) hM (by omega) (by omega) (by omega) (hC _)
              by_cases cq : tC B T (k + 1) = 50 ∧ tV B T (k + 1) ≤ 7
              · rw [if_pos cq] at hr
                rw [if_pos ⟨cq.1, Nat.zero_le _, cq.2⟩] at s168
                cases hr
                clear s1 sf sn lf lf1 plain
                rw [c12]
                have fin : mR B T I (mst I (k + 1 + 1) (l + 1) (mI 1)) (.ok (k + 2, l + 1, (fun W => some (W (11 + tV B T (k + 1))).toInt), [(1, 11 + tV B T (k + 1))]) : Except Nat (Nat × Nat × tDS × tCd)) := rfl
                generalize (Except.ok (k + 2, l + 1, (fun W => some (W (11 + tV B T (k + 1))).toInt), [(1, 11 + tV B T (k + 1))]) : Except Nat (Nat × Nat × tDS × tCd)) = RR at *
                generalize mst I (k + 1 + 1) (l + 1) (mI 1) = J2 at *
                generalize mst I (k + 1) (l + 1) (mI 1) = J1 at *
                generalize mst I k l (mI 1) = J at *
                rw [P_run_eq, bk_177_6, pb_177_6]; simp -implicitDefEqProofs (disch := first | omega | decide) only [P_m, ↓P_run_eq _ 177 _ (p_bk 177 8), bk_177_8, pb_177_8, pw_aload_n0, pw_aloadN_n0, pw_iv1, pw_getI, pw_zeq, pw_iload_n2, pw_bipush, bl_12, pw_cne, pw_iconst, il_0, bl_7, pw_iv3, pw_goto, pw_vret, kd_123, rf_123_1, rf_123_2, rf_123_3, rf_123_4, rf_123_5, rf_123_7, rf_123_11, rf_123_12, rf_123_15, rf_123_16, rf_123_17, rf_123_26, rf_123_29, rf_123_30, rf_123_32, rf_123_34, rf_123_35, rf_123_45, n_0, n_1, n_7, n_12, nn_lt, nn_nlt, nn_le, nn_nle, nn_ne, nn_sub, nn_mul, nI_add, nn_neg, nm_eq, mn_eq, mm_eq, mn_lt, nm_lt, mn_le, nm_le, nn_sub0, nn_of, implies_true, nn_c, nn_in, nn_div, nat_rem, Nat.reduceMul, Nat.reduceSub, Nat.reduceDiv, Nat.reduceMod, pf_at, pf_ne, mk_s, mk_1, Classical.not_not, b2i_T, b2i_F, false_imp_iff, true_imp_iff, false_and, and_false, p_sw, Int.reduceAdd, Int.zero_add, Option.some.injEq, Value.int.injEq, Value.long.injEq, Value.ref.injEq, exists_eq_left', mk_I, mk_L, mk_wI, mk_wL, rf_s, rf_n, true_and, and_true, and_self, or_true, true_or, or_false, false_or, not_true_eq_false, not_false_eq_true, Option.toList_some, Option.toList_none, List.cons_append, List.nil_append, List.map_nil, List.map_cons, List.sum_nil, List.sum_cons, cat_i, cat_l, cat_r, cat_n, Nat.reduceLeDiff, Nat.reduceAdd, Nat.reduceEqDiff, Nat.zero_le, p_ent, p_u_ne, p_u_at, reduceIte, if_true, if_false, e10, P_ce s166, P_ce s168]
                exact ⟨J2, fin, rfl⟩
              · rw [if_neg cq] at hr
                rw [if_neg (fun h => cq ⟨h.1, h.2.2⟩)] at s168
                cases hr
                clear s1 sf sn lf lf1 plain
                rw [c12]
                have fin : mR B T I (mst I (k + 1) (l + 1) (nI (tS B T (k + 1)))) (.error (k + 1) : Except Nat (Nat × Nat × tDS × tCd)) := ⟨k + 1, l + 1, rfl⟩
                generalize mst I (k + 1) (l + 1) (nI (tS B T (k + 1))) = J2 at *
                generalize mst I (k + 1) (l + 1) (mI 1) = J1 at *
                generalize mst I k l (mI 1) = J at *
                rw [P_run_eq, bk_177_6, pb_177_6]; simp -implicitDefEqProofs (disch := first | omega | decide) only [P_m, ↓P_run_eq _ 177 _ (p_bk 177 8), bk_177_8, pb_177_8, pw_aload_n0, pw_aloadN_n0, pw_iv1, pw_getI, pw_zeq, pw_iload_n2, pw_bipush, bl_12, pw_cne, pw_iconst, il_0, bl_7, pw_iv3, pw_goto, pw_vret, kd_123, rf_123_1, rf_123_2, rf_123_3, rf_123_4, rf_123_5, rf_123_7, rf_123_11, rf_123_12, rf_123_15, rf_123_16, rf_123_17, rf_123_26, rf_123_29, rf_123_30, rf_123_32, rf_123_34, rf_123_35, rf_123_45, n_0, n_1, n_7, n_12, nn_lt, nn_nlt, nn_le, nn_nle, nn_ne, nn_sub, nn_mul, nI_add, nn_neg, nm_eq, mn_eq, mm_eq, mn_lt, nm_lt, mn_le, nm_le, nn_sub0, nn_of, implies_true, nn_c, nn_in, nn_div, nat_rem, Nat.reduceMul, Nat.reduceSub, Nat.reduceDiv, Nat.reduceMod, pf_at, pf_ne, mk_s, mk_1, Classical.not_not, b2i_T, b2i_F, false_imp_iff, true_imp_iff, false_and, and_false, p_sw, Int.reduceAdd, Int.zero_add, Option.some.injEq, Value.int.injEq, Value.long.injEq, Value.ref.injEq, exists_eq_left', mk_I, mk_L, mk_wI, mk_wL, rf_s, rf_n, true_and, and_true, and_self, or_true, true_or, or_false, false_or, not_true_eq_false, not_false_eq_true, Option.toList_some, Option.toList_none, List.cons_append, List.nil_append, List.map_nil, List.map_cons, List.sum_nil, List.sum_cons, cat_i, cat_l, cat_r, cat_n, Nat.reduceLeDiff, Nat.reduceAdd, Nat.reduceEqDiff, Nat.zero_le, p_ent, p_u_ne, p_u_at, reduceIte, if_true, if_false, e10, P_ce s166, P_ce s168]
                exact ⟨J2, fin, rfl⟩
            · rw [if_neg c12] at hr
              cases hr
              exact plain c12 rfl
      have all : P_m (x + 3 * (8 - d) + 4) 177 [.ref 123, .int (nI d)] (p_mk Ls (mst I k l (mI 1)) L R X) (fun v h' => v = none ∧ ∃ J, mR B T I J r ∧ h' = p_mk Ls J L R X) := by
        clear sf sn lf hr s166
        generalize mst I k l (mI 1) = J at *
        rcases lf1 with ⟨z1, z2⟩ | ⟨z0, z1, z2⟩
        · rw [z1] at e132 tail
          generalize tV B T k = vv at *
          simp -implicitDefEqProofs (disch := first | omega | decide) only [P_m, ↓P_run_eq _ 177 _ (p_bk 177 0), bk_177_0, pb_177_0, ↓P_run_eq _ 177 _ (p_bk 177 1), bk_177_1, pb_177_1, ↓P_run_eq _ 177 _ (p_bk 177 4), bk_177_4, pb_177_4, pw_aload_n0, pw_aloadN_n0, pw_iv1, pw_zne, pw_vret, pw_getR, pw_getI, pw_iald, pw_istore_n2, ps_2, pe_2, po_i2, po_r2, po_n2, po_u2, pw_iload_n2, pw_bipush, bl_91, pw_is1, pw_cne, pw_iload_n1, bl_8, pw_nop, bl_50, pw_sipush, sl_1000, pw_cle, kd_123, rf_123_1, rf_123_2, rf_123_3, rf_123_4, rf_123_5, rf_123_7, rf_123_11, rf_123_12, rf_123_15, rf_123_16, rf_123_17, rf_123_26, rf_123_29, rf_123_30, rf_123_32, rf_123_34, rf_123_35, rf_123_45, kd_132, kd_133, n_0, n_1, n_8, n_50, n_91, n_1000, nn_lt, nn_nlt, nn_le, nn_nle, nn_ne, nn_sub, nn_mul, nI_add, nn_neg, nm_eq, mn_eq, mm_eq, mn_lt, nm_lt, mn_le, nm_le, nn_sub0, nn_of, implies_true, nn_c, nn_in, nn_div, nat_rem, Nat.reduceMul, Nat.reduceSub, Nat.reduceDiv, Nat.reduceMod, pf_at, pf_ne, mk_s, mk_1, Classical.not_not, b2i_T, b2i_F, false_imp_iff, true_imp_iff, false_and, and_false, p_sw, Int.reduceAdd, Int.zero_add, Option.some.injEq, Value.int.injEq, Value.long.injEq, Value.ref.injEq, exists_eq_left', mk_I, mk_L, mk_wI, mk_wL, rf_s, rf_n, true_and, and_true, and_self, or_true, true_or, or_false, false_or, not_true_eq_false, not_false_eq_true, Option.toList_some, Option.toList_none, List.cons_append, List.nil_append, List.map_nil, List.map_cons, List.sum_nil, List.sum_cons, cat_i, cat_l, cat_r, cat_n, Nat.reduceLeDiff, Nat.reduceAdd, Nat.reduceEqDiff, Nat.zero_le, p_ent, p_u_ne, p_u_at, reduceIte, if_true, if_false, e19, e132, e133, e8, e9, P_ce (sp_167), P_ce s1]
          exact tail
        · generalize (if o = true then 12 else 8) = fw at *
          generalize (if o = true then 18 else 16) = lw2 at *
          generalize tC B T k = cc at *
          simp -implicitDefEqProofs (disch := first | omega | decide) only [P_m, ↓P_run_eq _ 177 _ (p_bk 177 0), bk_177_0, pb_177_0, ↓P_run_eq _ 177 _ (p_bk 177 1), bk_177_1, pb_177_1, ↓P_run_eq _ 177 _ (p_bk 177 4), bk_177_4, pb_177_4, ↓P_run_eq _ 177 _ (p_bk 177 5), bk_177_5, pb_177_5, pw_aload_n0, pw_aloadN_n0, pw_iv1, pw_zne, pw_vret, pw_getR, pw_getI, pw_iald, pw_istore_n2, ps_2, pe_2, po_i2, po_r2, po_n2, po_u2, pw_iload_n2, pw_bipush, bl_91, pw_is1, pw_cne, pw_iload_n1, bl_8, pw_nop, bl_50, pw_sipush, sl_1000, pw_cle, pw_clt, pw_cgt, kd_123, rf_123_1, rf_123_2, rf_123_3, rf_123_4, rf_123_5, rf_123_7, rf_123_11, rf_123_12, rf_123_15, rf_123_16, rf_123_17, rf_123_26, rf_123_29, rf_123_30, rf_123_32, rf_123_34, rf_123_35, rf_123_45, kd_132, kd_133, n_0, n_1, n_8, n_50, n_91, n_1000, nn_lt, nn_nlt, nn_le, nn_nle, nn_ne, nn_sub, nn_mul, nI_add, nn_neg, nm_eq, mn_eq, mm_eq, mn_lt, nm_lt, mn_le, nm_le, nn_sub0, nn_of, implies_true, nn_c, nn_in, nn_div, nat_rem, Nat.reduceMul, Nat.reduceSub, Nat.reduceDiv, Nat.reduceMod, pf_at, pf_ne, mk_s, mk_1, Classical.not_not, b2i_T, b2i_F, false_imp_iff, true_imp_iff, false_and, and_false, p_sw, Int.reduceAdd, Int.zero_add, Option.some.injEq, Value.int.injEq, Value.long.injEq, Value.ref.injEq, exists_eq_left', mk_I, mk_L, mk_wI, mk_wL, rf_s, rf_n, true_and, and_true, and_self, or_true, true_or, or_false, false_or, not_true_eq_false, not_false_eq_true, Option.toList_some, Option.toList_none, List.cons_append, List.nil_append, List.map_nil, List.map_cons, List.sum_nil, List.sum_cons, cat_i, cat_l, cat_r, cat_n, Nat.reduceLeDiff, Nat.reduceAdd, Nat.reduceEqDiff, Nat.zero_le, p_ent, p_u_ne, p_u_at, reduceIte, if_true, if_false, e19, e132, e133, e8, e9, P_ce (sp_167), P_ce s1]
          exact tail
      obtain ⟨v, g', ⟨rfl, J', f1, rfl⟩, s⟩ := P_mex all
      exact ⟨J', f1, s⟩
end RW
