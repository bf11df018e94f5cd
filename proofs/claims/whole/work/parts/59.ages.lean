/-! AGES, TURNS, BARS on the reference's side -/
/-- the words of a question, as the class numbers them -/
def wEnv (K : Nat → Int32) (q : Nat) (lf : Int32) : Nat → Int32 := fun j => if j = 0 then nI q else if j = 1 then K (21 + q) else if j = 2 then K (29 + q) else if j = 3 then K (5 + q) else if j = 4 then K 51 else if j = 5 then K 2 else if j = 6 then K 1 else if j = 7 then K 3 else if j = 8 then lf else 0
/-- what only the reference's reading writes -/
def frE (I J : Nat → Nat → Int32) : Prop := (∀ a, a ≠ 123 → a ≠ 135 → J a = I a) ∧ ∀ k, k ≠ 22 → k ≠ 23 → k ≠ 24 → k ≠ 25 → J 123 k = I 123 k
theorem frE_rf {I : Nat → Nat → Int32} : frE I I := ⟨fun _ _ _ => rfl, fun _ _ _ _ _ => rfl⟩
theorem frE_tr {I J K : Nat → Nat → Int32} (h1 : frE I J) (h2 : frE J K) : frE I K := ⟨fun a a1 a2 => (h2.1 a a1 a2).trans (h1.1 a a1 a2), fun k k1 k2 k3 k4 => (h2.2 k k1 k2 k3 k4).trans (h1.2 k k1 k2 k3 k4)⟩
/-- the law in force -/
def lawOf (K : Nat → Int32) (c : Option (List tCl)) : Prop := (K 56 = -1 ∧ c = none) ∨ ∃ f n T CL, f < 6 ∧ K 56 = nI f ∧ kOk K f ∧ K (57 + f) = nI T ∧ T ≤ 400 ∧ pX false (kC K f) (kV K f) T n 0 0 0 0 [] = some (.ok CL) ∧ c = some CL
def agF (c : Option (List tCl)) (W : Nat → Int32) : Int := match c with
  | none => (W 1).toInt
  | some CL => lawA CL W (W 1).toInt
def hdF (c : Option (List tCl)) (W : Nat → Int32) (kd : Nat) : Bool := match c with
  | none => false
  | some CL => lawH CL W kd
def tlF (c : Option (List tCl)) (W : Nat → Int32) (hd : Nat) (wo : Int32) : Int32 := match c with
  | none => wo
  | some CL => zI (lawT CL W hd wo.toInt)
def envOk (K : Nat → Int32) (q : Nat) : Prop := q < 8 ∧ bn (K (21 + q)) 99 ∧ bn (K (29 + q)) 1 ∧ bn (K (5 + q)) 1200 ∧ bn (K 51) 9 ∧ bn (K 2) 12000 ∧ bn (K 1) 99 ∧ bn (K 3) 999
theorem bn_in {x : Int32} {m : Nat} (hm : m ≤ 1000000) (h : bn x m) : 0 ≤ x.toInt ∧ x.toInt ≤ m := by
  obtain ⟨k, hk, e⟩ := h
  rw [e, nI_toInt (by omega)]
  omega
theorem wEnv_b {K : Nat → Int32} {q lf : Nat} (h : envOk K q) (hl : lf ≤ 8) : bW (nw false) (wEnv K q (nI lf)) ∧ 0 ≤ (wEnv K q (nI lf) 1).toInt ∧ (wEnv K q (nI lf) 1).toInt ≤ 99 := by
  obtain ⟨h0, h1, h2, h3, h4, h5, h6, h7⟩ := h
  refine ⟨fun j _ hj => ?_, bn_in (m := 99) (by omega) h1⟩
  have b : ∀ {x : Int32} {m : Nat}, m ≤ 1000000 → bn x m → inB x.toInt := fun hm hb => by
    have := bn_in hm hb
    unfold inB; omega
  unfold wEnv
  repeat' split
  · exact b (m := 8) (by omega) ⟨q, by omega, rfl⟩
  · exact b (by omega) h1
  · exact b (by omega) h2
  · exact b (by omega) h3
  · exact b (by omega) h4
  · exact b (by omega) h5
  · exact b (by omega) h6
  · exact b (by omega) h7
  · exact b (m := 8) (by omega) ⟨lf, by omega, rfl⟩
  · exact b (m := 8) (by omega) ⟨0, by omega, rfl⟩
theorem agF_in {c : Option (List tCl)} {W : Nat → Int32} (h1 : 0 ≤ (W 1).toInt) (h2 : (W 1).toInt ≤ 99) : 0 ≤ agF c W ∧ agF c W ≤ 99 := by
  cases c with
  | none => exact ⟨h1, h2⟩
  | some CL => exact lawA_in h1 h2
section AG
variable {Ls : Nat} {I : Nat → Nat → Int32} {L : Nat → Nat → Int64} {R : Nat → Nat → Option Nat} {X : List pKd}
theorem sp_197 {d q : Nat} (hq : q < 8) (lf : Int32) : P_m d 197 [.ref 123, .int (nI q), .int lf] (p_mk Ls I L R X) (fun v h' => v = none ∧ h' = p_mk Ls (p_fn I 135 (upd (upd (upd (upd (upd (upd (upd (upd (upd (I 135) 0 (nI q)) 1 (I 125 (21 + q))) 2 (I 125 (29 + q))) 3 (I 125 51)) 4 (I 125 (5 + q))) 5 (I 125 2)) 6 lf) 7 (I 125 1)) 8 (I 125 3))) L R X) := by
  simp -implicitDefEqProofs (disch := first | omega | decide) only [P_m, ↓P_run_eq _ 197 _ (p_bk 197 0), bk_197_0, pb_197_0, pw_aload_n0, pw_aloadN_n0, pw_getR, pw_iconst, il_0, pw_iload_n1, pw_iast, il_1, pw_bipush, bl_21, pw_iadd, pw_iald, il_2, bl_29, il_3, bl_51, il_4, il_5, bl_6, pw_iload_n2, bl_7, bl_8, pw_vret, kd_123, rf_123_1, rf_123_2, rf_123_3, rf_123_4, rf_123_5, rf_123_7, rf_123_11, rf_123_12, rf_123_15, rf_123_16, rf_123_17, rf_123_26, rf_123_29, rf_123_30, rf_123_32, rf_123_34, rf_123_35, rf_123_45, kd_125, kd_135, n_0, n_1, n_2, n_3, n_4, n_5, n_6, n_7, n_8, n_21, n_29, n_51, nn_lt, nn_nlt, nn_le, nn_nle, nn_ne, nn_sub, nn_mul, nI_add, nn_neg, nm_eq, mn_eq, mm_eq, mn_lt, nm_lt, mn_le, nm_le, nn_sub0, nn_of, implies_true, nn_c, nn_in, nn_div, nat_rem, Nat.reduceMul, Nat.reduceSub, Nat.reduceDiv, Nat.reduceMod, pf_at, pf_ne, mk_s, mk_1, Classical.not_not, b2i_T, b2i_F, false_imp_iff, true_imp_iff, false_and, and_false, p_sw, Int.reduceAdd, Int.zero_add, Option.some.injEq, Value.int.injEq, Value.long.injEq, Value.ref.injEq, exists_eq_left', mk_I, mk_L, mk_wI, mk_wL, rf_s, rf_n, true_and, and_true, and_self, or_true, true_or, or_false, false_or, not_true_eq_false, not_false_eq_true, Option.toList_some, Option.toList_none, List.cons_append, List.nil_append, List.map_nil, List.map_cons, List.sum_nil, List.sum_cons, cat_i, cat_l, cat_r, cat_n, Nat.reduceLeDiff, Nat.reduceAdd, Nat.reduceEqDiff, Nat.zero_le, p_ent, p_u_ne, p_u_at, reduceIte, if_true, if_false]
  simp only [pu_fn, pf_pf, pf_at]
theorem tells_r {D hd q lf : Nat} {wo : Int32} {c : Option (List tCl)} (hc : lawOf (I 125) c) (hq : envOk (I 125) q) (hl : lf ≤ 8) (hhd : hd ≤ 3) (hD : 46 ≤ D) : ∃ J, frE I J ∧ P_m D 198 [.ref 123, .int (nI hd), .int (nI q), .int (nI lf), .int wo] (p_mk Ls I L R X) (fun v h' => v = some (.int (tlF c (wEnv (I 125) q (nI lf)) hd wo)) ∧ h' = p_mk Ls J L R X) := by
  rcases hc with ⟨e, rfl⟩ | ⟨f, n, T, CL, hf, ef, ho, eT, hT, hp, rfl⟩
  · refine ⟨I, frE_rf, ?_⟩
    have e : I 125 56 = mI 1 := e
    show P_m _ _ _ _ (fun v h' => v = some (.int wo) ∧ _)
    simp -implicitDefEqProofs (disch := first | omega | decide) only [P_m, ↓P_run_eq _ 198 _ (p_bk 198 0), bk_198_0, pb_198_0, pw_aload_n0, pw_aloadN_n0, pw_getR, pw_bipush, bl_56, pw_iald, pw_iconst, il_m1, pw_cne, pw_iload_4, pw_ret0, kd_123, rf_123_1, rf_123_2, rf_123_3, rf_123_4, rf_123_5, rf_123_7, rf_123_11, rf_123_12, rf_123_15, rf_123_16, rf_123_17, rf_123_26, rf_123_29, rf_123_30, rf_123_32, rf_123_34, rf_123_35, rf_123_45, kd_125, n_0, n_1, n_56, nn_lt, nn_nlt, nn_le, nn_nle, nn_ne, nn_sub, nn_mul, nI_add, nn_neg, nm_eq, mn_eq, mm_eq, mn_lt, nm_lt, mn_le, nm_le, nn_sub0, nn_of, implies_true, nn_c, nn_in, nn_div, nat_rem, Nat.reduceMul, Nat.reduceSub, Nat.reduceDiv, Nat.reduceMod, pf_at, pf_ne, mk_s, mk_1, Classical.not_not, b2i_T, b2i_F, false_imp_iff, true_imp_iff, false_and, and_false, p_sw, Int.reduceAdd, Int.zero_add, Option.some.injEq, Value.int.injEq, Value.long.injEq, Value.ref.injEq, exists_eq_left', mk_I, mk_L, mk_wI, mk_wL, rf_s, rf_n, true_and, and_true, and_self, or_true, true_or, or_false, false_or, not_true_eq_false, not_false_eq_true, Option.toList_some, Option.toList_none, List.cons_append, List.nil_append, List.map_nil, List.map_cons, List.sum_nil, List.sum_cons, cat_i, cat_l, cat_r, cat_n, Nat.reduceLeDiff, Nat.reduceAdd, Nat.reduceEqDiff, Nat.zero_le, p_ent, p_u_ne, p_u_at, reduceIte, if_true, if_false, e]
  · obtain ⟨D', rfl⟩ : ∃ D', D = D' + 2 := ⟨D - 2, by omega⟩
    generalize hJ : p_u (p_u (p_fn I 135 (upd (upd (upd (upd (upd (upd (upd (upd (upd (I 135) 0 (nI q)) 1 (I 125 (21 + q))) 2 (I 125 (29 + q))) 3 (I 125 51)) 4 (I 125 (5 + q))) 5 (I 125 2)) 6 (nI lf)) 7 (I 125 1)) 8 (I 125 3))) 123 25 (nI 0)) 123 23 (nI (400 * f + T)) = J0
    have j125 : J0 125 = I 125 := by rw [← hJ, p_u_ne (by omega), p_u_ne (by omega), pf_ne (by omega)]
    have hE : evH false J0 f (wEnv (I 125) q (nI lf)) := by
      refine ⟨by rw [j125]; exact ho, by omega, ⟨T, hT, by rw [j125]; exact eT, ?_⟩, ?_, ?_, (wEnv_b hq hl).1⟩
      · rw [← hJ, p_u_at, if_pos rfl]
      · rw [← hJ, p_u_at, if_neg (by omega), p_u_at, if_pos rfl]; rfl
      · unfold envR
        rw [if_neg (by decide)]
        intro c c1 c2
        have : J0 135 = upd (upd (upd (upd (upd (upd (upd (upd (upd (I 135) 0 (nI q)) 1 (I 125 (21 + q))) 2 (I 125 (29 + q))) 3 (I 125 51)) 4 (I 125 (5 + q))) 5 (I 125 2)) 6 (nI lf)) 7 (I 125 1)) 8 (I 125 3) := by rw [← hJ, p_u_ne (by omega), p_u_ne (by omega), pf_at]
        rw [this]
        have : c = 8 ∨ c = 9 ∨ c = 10 ∨ c = 11 ∨ c = 12 ∨ c = 13 ∨ c = 14 ∨ c = 15 ∨ c = 16 := by omega
        rcases this with rfl | rfl | rfl | rfl | rfl | rfl | rfl | rfl | rfl <;> rfl
    obtain ⟨rest, er, hrun⟩ := pX_r (Ls := Ls) (I := J0) (hd := hd) (T := T) (D := D') (L := L) (R := R) (X := X) (q := nI q) (lf := nI lf) (wo := wo) hE (by rw [← hJ, p_u_at, if_pos rfl]) (by rw [j125]; exact eT) hT hhd (by omega) n 0 0 0 0 [] CL (by omega) (by rw [j125]; exact hp)
    have er : rest = CL := er.symm
    subst er
    have hrun := hrun [] (p_u J0 123 22 (nI (400 * f))) wo.toInt ⟨fun a ha => p_u_ne ha, by rw [p_u_at, if_pos rfl]; rfl, fun k k1 _ => by rw [p_u_at, if_neg k1]⟩ (Or.inl rfl)
    obtain ⟨v, h', ⟨rfl, B, rfl⟩, hx⟩ := P_exact (p_bk_sw _ _) hrun
    refine ⟨EV J0 (400 * f + (T + 1)) B, ⟨fun a a1 a2 => ?_, fun k k1 k2 k3 k4 => ?_⟩, ?_⟩
    · rw [ev_ne a1, ← hJ, p_u_ne a1, p_u_ne a1, pf_ne a2]
    · rw [ev_f k1 k3, ← hJ, p_u_at, if_neg k2, p_u_at, if_neg k4, pf_ne (by omega)]
    · have eS := sp_197 (d := D' + 1) (Ls := Ls) (I := I) (L := L) (R := R) (X := X) hq.1 (nI lf)
      have hJ2 : p_u (p_u (p_u (p_fn I 135 (upd (upd (upd (upd (upd (upd (upd (upd (upd (I 135) 0 (nI q)) 1 (I 125 (21 + q))) 2 (I 125 (29 + q))) 3 (I 125 51)) 4 (I 125 (5 + q))) 5 (I 125 2)) 6 (nI lf)) 7 (I 125 1)) 8 (I 125 3))) 123 25 (nI 0)) 123 22 (nI (400 * f))) 123 23 (nI (400 * f + T)) = p_u J0 123 22 (nI (400 * f)) := by
        rw [← hJ]
        funext a k
        by_cases ea : a = 123
        · subst ea
          simp only [p_u_at]
          by_cases k1 : k = 22
          · subst k1; rfl
          · simp only [if_neg k1]
        · simp only [p_u_ne ea]
      have wl : wo.toInt64 = lI wo.toInt := lI_i wo
      show P_m _ _ _ _ (fun v h' => v = some (.int (zI (lawT rest (wEnv (I 125) q (nI lf)) hd wo.toInt))) ∧ _)
      simp -implicitDefEqProofs (disch := first | omega | decide) only [P_m, ↓P_run_eq _ 198 _ (p_bk 198 0), bk_198_0, pb_198_0, ↓P_run_eq _ 198 _ (p_bk 198 1), bk_198_1, pb_198_1, pw_aload_n0, pw_aloadN_n0, pw_getR, pw_bipush, bl_56, pw_iald, pw_iconst, il_m1, pw_cne, pw_iload_4, pw_ret0, pw_iload_n2, pw_iload_n3, pw_iv3, pw_i2l, pw_lstore, ps_5, pe_5, po_i5, po_r5, po_n5, po_u5, ps_6, pe_6, po_i6, po_r6, po_n6, po_u6, il_0, pw_putZ, pw_sipush, sl_400, pw_imul, pw_putI, pw_getI, bl_57, pw_iadd, pw_nop, kd_123, rf_123_1, rf_123_2, rf_123_3, rf_123_4, rf_123_5, rf_123_7, rf_123_11, rf_123_12, rf_123_15, rf_123_16, rf_123_17, rf_123_26, rf_123_29, rf_123_30, rf_123_32, rf_123_34, rf_123_35, rf_123_45, kd_125, kd_135, n_0, n_1, n_56, n_57, n_400, nn_lt, nn_nlt, nn_le, nn_nle, nn_ne, nn_sub, nn_mul, nI_add, nn_neg, nm_eq, mn_eq, mm_eq, mn_lt, nm_lt, mn_le, nm_le, nn_sub0, nn_of, implies_true, nn_c, nn_in, nn_div, nat_rem, Nat.reduceMul, Nat.reduceSub, Nat.reduceDiv, Nat.reduceMod, pf_at, pf_ne, mk_s, mk_1, Classical.not_not, b2i_T, b2i_F, false_imp_iff, true_imp_iff, false_and, and_false, p_sw, Int.reduceAdd, Int.zero_add, Option.some.injEq, Value.int.injEq, Value.long.injEq, Value.ref.injEq, exists_eq_left', mk_I, mk_L, mk_wI, mk_wL, rf_s, rf_n, true_and, and_true, and_self, or_true, true_or, or_false, false_or, not_true_eq_false, not_false_eq_true, Option.toList_some, Option.toList_none, List.cons_append, List.nil_append, List.map_nil, List.map_cons, List.sum_nil, List.sum_cons, cat_i, cat_l, cat_r, cat_n, Nat.reduceLeDiff, Nat.reduceAdd, Nat.reduceEqDiff, Nat.zero_le, p_ent, p_u_ne, p_u_at, reduceIte, if_true, if_false, ef, eT, wl, P_ce eS, hJ2]
      exact hx
end AG
