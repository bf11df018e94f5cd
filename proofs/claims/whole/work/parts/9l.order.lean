/-! ORDER OF THE CLASS: what was seen, years kept -/
def sbt (k : Nat) : Int64 := 1 <<< ((nI k).toInt64 &&& 63)
theorem sbt_b : ∀ k, k < 64 → (sbt k).toBitVec = BitVec.twoPow 64 k := by decide +kernel
theorem sbt_0 {x : Int64} {k : Nat} (hk : k < 64) : x &&& sbt k = 0 ↔ x.toBitVec.getLsbD k = false := by
  rw [← Int64.toBitVec_inj, Int64.toBitVec_and, sbt_b k hk, BitVec.and_twoPow]
  constructor
  · intro h
    cases e : x.toBitVec.getLsbD k with
    | false => rfl
    | true =>
      rw [e, if_pos rfl] at h
      have h2 := congrArg (fun v : BitVec 64 => v.getLsbD k) h
      simp only [BitVec.getLsbD_twoPow, decide_eq_true hk, Bool.true_and] at h2
      have h3 : (0 : Int64).toBitVec.getLsbD k = false := by
        show (0#64).getLsbD k = false
        simp
      rw [h3] at h2
      simp at h2
  · intro h
    rw [h, if_neg (by decide)]
    rfl
theorem sbt_or {x : Int64} {j k : Nat} (hj : j < 64) (hk : k < 64) : (x ||| sbt j) &&& sbt k = 0 ↔ x &&& sbt k = 0 ∧ ¬ j = k := by
  rw [sbt_0 hk, sbt_0 hk, Int64.toBitVec_or, BitVec.getLsbD_or, sbt_b j hj, BitVec.getLsbD_twoPow, decide_eq_true hj, Bool.true_and, Bool.or_eq_false_iff, decide_eq_false_iff_not]
def sn (L : Nat → Nat → Int64) (n : Nat) : Prop := ¬ L 67 (n / 64) &&& sbt (n % 64) = 0
def mkS (L : Nat → Nat → Int64) (n : Nat) : Nat → Nat → Int64 := p_u L 67 (n / 64) (L 67 (n / 64) ||| sbt (n % 64))
theorem sn_mk {L : Nat → Nat → Int64} {n n' : Nat} : sn (mkS L n) n' ↔ sn L n' ∨ n' = n := by
  unfold sn mkS
  rw [p_u_at]
  by_cases e : n' / 64 = n / 64
  · rw [if_pos e, sbt_or (Nat.mod_lt _ (by omega)) (Nat.mod_lt _ (by omega)), e]
    constructor
    · intro h
      by_cases e2 : n % 64 = n' % 64
      · right; omega
      · left; intro h3; exact h ⟨h3, e2⟩
    · rintro (h | h) ⟨h1, h2⟩
      · exact h h1
      · subst h; exact h2 rfl
  · rw [if_neg e]
    constructor
    · intro h; exact Or.inl h
    · rintro (h | h)
      · exact h
      · subst h; exact absurd rfl e
theorem shr_6 {n : Nat} (hn : n < 100000) : nI n >>> (nI 6 &&& 31) = nI (n / 64) := by
  rw [pk_shrN (by omega) _ 6 (sl_31 _ (by omega))]
theorem and_63 {n : Nat} (hn : n < 100000) : nI n &&& nI 63 = nI (n % 64) := by
  exact pk_andN (by omega) 6 (by decide)
theorem b8_pn {v : Option Nat} (h : ∀ t, v = some t → t ≤ 99) : (pnI v).toInt8.toInt32 = pnI v := by
  cases v with
  | none => decide
  | some t =>
    have : ∀ t, t < 100 → (nI t).toInt8.toInt32 = nI t := by decide
    exact this t (by have := h t rfl; omega)
section OI
variable {d Ls : Nat} {I : Nat → Nat → Int32} {L : Nat → Nat → Int64} {R : Nat → Nat → Option Nat} {X : List pKd} {h : pHp} {c : Option (List tCl)} {K : Nat → Int32} {r : Option Nat}
theorem pl_48 {a u : Nat} (ha : a < 128) (hu : u < 694) : (sn L (a * 694 + u) ∧ P_m d 48 [.ref 48, .int (nI a), .int (nI u)] (p_mk Ls I L R X) (fun v h' => v = some (.int (nI 1)) ∧ h' = p_mk Ls I (mkS L (a * 694 + u)) R X)) ∨ (¬ sn L (a * 694 + u) ∧ P_m d 48 [.ref 48, .int (nI a), .int (nI u)] (p_mk Ls I L R X) (fun v h' => v = some (.int (nI 0)) ∧ h' = p_mk Ls I (mkS L (a * 694 + u)) R X)) := by
  have s6 := shr_6 (n := a * 694 + u) (by omega)
  have s63 := and_63 (n := a * 694 + u) (by omega)
  have es : (1 : Int64) <<< ((nI ((a * 694 + u) % 64)).toInt64 &&& 63) = sbt ((a * 694 + u) % 64) := rfl
  unfold sn mkS
  by_cases e : L 67 ((a * 694 + u) / 64) &&& sbt ((a * 694 + u) % 64) = 0
  · right
    refine ⟨fun h => h e, ?_⟩
    have lt : (a * 694 + u) / 64 < 1388 := by omega
    generalize sbt ((a * 694 + u) % 64) = B at *
    generalize (a * 694 + u) % 64 = N at *
    generalize (a * 694 + u) / 64 = M at *
    simp -implicitDefEqProofs (disch := first | omega | decide) only [P_m, ↓P_run_eq _ 48 _ (p_bk 48 0), bk_48_0, pb_48_0, ↓P_run_eq _ 48 _ (p_bk 48 2), bk_48_2, pb_48_2, ↓P_run_eq _ 48 _ (p_bk 48 3), bk_48_3, pb_48_3, ↓P_run_eq _ 48 _ (p_bk 48 4), bk_48_4, pb_48_4, pw_iload_n1, pw_sipush, sl_694, pw_imul, pw_iload_n2, pw_iadd, pw_istore_n3, ps_3, pe_3, po_i3, po_r3, po_n3, po_u3, pw_iload_n3, pw_bipush, bl_6, pw_ishr, pw_istore, ps_4, pe_4, po_i4, po_r4, po_n4, po_u4, pw_cge, pw_iload_4, pw_zlt, sl_1388, pw_clt, pw_nop, pw_lconst, ll_1, bl_63, pw_iand, pw_lshl, pw_lstore, ps_5, pe_5, po_i5, po_r5, po_n5, po_u5, ps_6, pe_6, po_i6, po_r6, po_n6, po_u6, pw_aload_n0, pw_aloadN_n0, pw_getR, pw_lald, pw_lload_5, pw_land, ll_0, pw_lcmp, pw_zeq, pw_iconst, il_1, pw_goto, il_0, ps_7, pe_7, po_i7, po_r7, po_n7, po_u7, pw_dup2r, pw_lor, pw_last, pw_iload_7, pw_ret1, kd_48, rf_48_0, rf_48_6, rf_48_7, rf_48_8, rf_48_9, rf_48_10, rf_48_12, rf_48_13, rf_48_14, rf_48_15, rf_48_1, rf_48_2, kd_67, n_0, n_1, n_6, n_63, n_694, n_1388, nn_lt, nn_nlt, nn_le, nn_nle, nn_ne, nn_sub, nn_mul, nI_add, nn_neg, nm_eq, mn_eq, mm_eq, mn_lt, nm_lt, mn_le, nm_le, nn_sub0, nn_of, implies_true, nn_c, nn_in, nn_div, nat_rem, Nat.reduceMul, Nat.reduceSub, Nat.reduceDiv, Nat.reduceMod, pf_at, pf_ne, mk_s, mk_1, Classical.not_not, b2i_T, b2i_F, false_imp_iff, true_imp_iff, false_and, and_false, p_sw, Int.reduceAdd, Int.zero_add, Option.some.injEq, Value.int.injEq, Value.long.injEq, Value.ref.injEq, exists_eq_left', mk_I, mk_L, mk_wI, mk_wL, rf_s, rf_n, true_and, and_true, and_self, or_true, true_or, or_false, false_or, not_true_eq_false, not_false_eq_true, Option.toList_some, Option.toList_none, List.cons_append, List.nil_append, List.map_nil, List.map_cons, List.sum_nil, List.sum_cons, cat_i, cat_l, cat_r, cat_n, Nat.reduceLeDiff, Nat.reduceAdd, Nat.reduceEqDiff, Nat.zero_le, p_ent, p_u_ne, p_u_at, reduceIte, if_true, if_false, s6, s63, es, e, lc_eq]
  · left
    refine ⟨e, ?_⟩
    have lt : (a * 694 + u) / 64 < 1388 := by omega
    generalize sbt ((a * 694 + u) % 64) = B at *
    generalize (a * 694 + u) % 64 = N at *
    generalize (a * 694 + u) / 64 = M at *
    simp -implicitDefEqProofs (disch := first | omega | decide) only [P_m, ↓P_run_eq _ 48 _ (p_bk 48 0), bk_48_0, pb_48_0, ↓P_run_eq _ 48 _ (p_bk 48 2), bk_48_2, pb_48_2, ↓P_run_eq _ 48 _ (p_bk 48 4), bk_48_4, pb_48_4, pw_iload_n1, pw_sipush, sl_694, pw_imul, pw_iload_n2, pw_iadd, pw_istore_n3, ps_3, pe_3, po_i3, po_r3, po_n3, po_u3, pw_iload_n3, pw_bipush, bl_6, pw_ishr, pw_istore, ps_4, pe_4, po_i4, po_r4, po_n4, po_u4, pw_cge, pw_iload_4, pw_zlt, sl_1388, pw_clt, pw_nop, pw_lconst, ll_1, bl_63, pw_iand, pw_lshl, pw_lstore, ps_5, pe_5, po_i5, po_r5, po_n5, po_u5, ps_6, pe_6, po_i6, po_r6, po_n6, po_u6, pw_aload_n0, pw_aloadN_n0, pw_getR, pw_lald, pw_lload_5, pw_land, ll_0, pw_lcmp, pw_zeq, pw_iconst, il_1, pw_goto, ps_7, pe_7, po_i7, po_r7, po_n7, po_u7, pw_dup2r, pw_lor, pw_last, pw_iload_7, pw_ret1, kd_48, rf_48_0, rf_48_6, rf_48_7, rf_48_8, rf_48_9, rf_48_10, rf_48_12, rf_48_13, rf_48_14, rf_48_15, rf_48_1, rf_48_2, kd_67, n_0, n_1, n_6, n_63, n_694, n_1388, nn_lt, nn_nlt, nn_le, nn_nle, nn_ne, nn_sub, nn_mul, nI_add, nn_neg, nm_eq, mn_eq, mm_eq, mn_lt, nm_lt, mn_le, nm_le, nn_sub0, nn_of, implies_true, nn_c, nn_in, nn_div, nat_rem, Nat.reduceMul, Nat.reduceSub, Nat.reduceDiv, Nat.reduceMod, pf_at, pf_ne, mk_s, mk_1, Classical.not_not, b2i_T, b2i_F, false_imp_iff, true_imp_iff, false_and, and_false, p_sw, Int.reduceAdd, Int.zero_add, Option.some.injEq, Value.int.injEq, Value.long.injEq, Value.ref.injEq, exists_eq_left', mk_I, mk_L, mk_wI, mk_wL, rf_s, rf_n, true_and, and_true, and_self, or_true, true_or, or_false, false_or, not_true_eq_false, not_false_eq_true, Option.toList_some, Option.toList_none, List.cons_append, List.nil_append, List.map_nil, List.map_cons, List.sum_nil, List.sum_cons, cat_i, cat_l, cat_r, cat_n, Nat.reduceLeDiff, Nat.reduceAdd, Nat.reduceEqDiff, Nat.zero_le, p_ent, p_u_ne, p_u_at, reduceIte, if_true, if_false, s6, s63, es, e, lc_eq]
/-- years kept -/
def mb (c : Option (List tCl)) (K : Nat → Int32) (tq : Nat → Nat) (k : Nat) (I : Nat → Nat → Int32) : Prop := ∀ i u, i < k → u < 694 → I 68 (i * 694 + u) = mI 2 ∨ I 68 (i * 694 + u) = pnI (yO c K (tq i) u)
def frY (I J : Nat → Nat → Int32) : Prop := ∀ a, ¬ a = 50 → ¬ a = 51 → ¬ a = 68 → J a = I a
theorem pl_47 {tq : Nat → Nat} {k i u : Nat} (hV : vld K) (hK : hutR I 71 K) (hc : clw Ls I R X r c) (hg : cgL c) (hr1 : R 48 1 = some 71) (hr : R 48 2 = r) (hk : k ≤ 7) (hi : i < k) (hu : u < 694) (hq : tq i < 8) (h65 : I 65 i = nI (tq i)) (hm : mb c K tq k I) : ∃ J, frY I J ∧ mb c K tq k J ∧ P_m (d + 4) 47 [.ref 48, .int (nI i), .int (nI u)] (p_mk Ls I L R X) (fun v h' => v = some (.int (pnI (yO c K (tq i) u))) ∧ h' = p_mk Ls J L R X) := by
  have lt : i * 694 + u < 4858 := by omega
  have yl : ∀ t, yO c K (tq i) u = some t → t ≤ 99 := fun t ht => yO_le (c := c) hV hq (show u ≤ 2000 by omega) ht
  generalize hY : yO c K (tq i) u = Y at *
  by_cases e2 : I 68 (i * 694 + u) = mI 2
  · obtain ⟨k1, k2, k3⟩ := kn_0 hV
    have g2 : K 2 = nI (kn K 2) ∧ kn K 2 ≤ 9999 := kn_e hV (by omega) (by omega) (by omega)
    obtain ⟨-, rb, -⟩ := hutR_at hK
    have s24 := sp_24p (d := d + 1) (Ls := Ls) (I := I) (L := L) (R := R) (X := X) (K := K) hq hK k3 k1
    have w9' : w9 (p_u (p_fn I 50 (lkW (I 50) K (tq i) (nI (pc (kn K 0))))) 50 5 (nI (kn K 2 + u)) 50) (wEnv (kU K u) (tq i) (nI (pc (kn K 0)))) := fun j hj => by
      have l9 := lkW_9 (W := I 50) (K := K) (q := tq i) (lf := nI (pc (kn K 0)))
      rw [p_u_at, pf_at]
      by_cases e : j = 5
      · subst e; rw [if_pos rfl]; unfold wEnv kU; rfl
      · rw [if_neg e, l9 j hj]
        unfold wEnv kU
        have : j = 0 ∨ j = 1 ∨ j = 2 ∨ j = 3 ∨ j = 4 ∨ j = 6 ∨ j = 7 ∨ j = 8 := by omega
        rw [upd_ne (show ¬ 21 + tq i = 2 by omega), upd_ne (show ¬ 29 + tq i = 2 by omega), upd_ne (show ¬ 5 + tq i = 2 by omega), upd_ne (show ¬ 51 = 2 by omega), upd_ne (show ¬ 1 = 2 by omega), upd_ne (show ¬ 3 = 2 by omega)]
        rcases this with rfl | rfl | rfl | rfl | rfl | rfl | rfl | rfl <;> rfl
    obtain ⟨S', s35⟩ := pl_35 (I := p_u (p_fn I 50 (lkW (I 50) K (tq i) (nI (pc (kn K 0))))) 50 5 (nI (kn K 2 + u))) (L := L) (D := d + 2) (r := r) (c := c) (K := kU K u) (q := tq i) (l := pc (kn K 0)) (clw_fr hc (fun a ha => by rw [p_u_ne (by omega), pf_ne (by omega)])) hg (env_U hV hq (by omega)) (pc_le _) w9' hr (by omega)
    replace s35 : P_m (d + 2 + 1) 35 [.ref 48] (p_mk Ls (p_u (p_fn I 50 (lkW (I 50) K (tq i) (nI (pc (kn K 0))))) 50 5 (nI (kn K 2 + u))) L R X) (fun v h' => v = some (.int (pnI (yO c K (tq i) u))) ∧ h' = p_mk Ls (p_fn (p_u (p_fn I 50 (lkW (I 50) K (tq i) (nI (pc (kn K 0))))) 50 5 (nI (kn K 2 + u))) 51 S') L R X) := s35
    rw [hY] at s35
    have b8 := b8_pn yl
    have nv : p_nv 2 (pnI Y) = pnI Y := by rw [← b8]; exact nv_b8 _
    have t2 : ∀ S, p_fn I 50 S 78 2 = nI (kn K 2) := fun S => by rw [pf_ne (by omega)]; exact rb.2.2.trans g2.1
    refine ⟨p_u (p_fn (p_u (p_fn I 50 (lkW (I 50) K (tq i) (nI (pc (kn K 0))))) 50 5 (nI (kn K 2 + u))) 51 S') 68 (i * 694 + u) (pnI Y), fun a a1 a2 a3 => by rw [p_u_ne a3, pf_ne a2, p_u_ne a1, pf_ne a1], fun i' u' hi' hu' => ?_, ?_⟩
    · rw [p_u_at]
      by_cases e : i' * 694 + u' = i * 694 + u
      · have e1 : i' = i := by omega
        have e3 : u' = u := by omega
        subst e1; subst e3
        rw [if_pos rfl, hY]; exact Or.inr rfl
      · rw [if_neg e, pf_ne (by omega), p_u_ne (by omega), pf_ne (by omega)]; exact hm i' u' hi' hu'
    · replace t2 := t2 (lkW (I 50) K (tq i) (nI (pc (kn K 0))))
      clear hm w9' hY
      generalize lkW (I 50) K (tq i) (nI (pc (kn K 0))) = W at *
      generalize pnI Y = V at *
      simp -implicitDefEqProofs (disch := first | omega | decide) only [P_m, ↓P_run_eq _ 47 _ (p_bk 47 0), bk_47_0, pb_47_0, ↓P_run_eq _ 47 _ (p_bk 47 2), bk_47_2, pb_47_2, ↓P_run_eq _ 47 _ (p_bk 47 3), bk_47_3, pb_47_3, pw_iload_n1, pw_sipush, sl_694, pw_imul, pw_iload_n2, pw_iadd, pw_istore_n3, ps_3, pe_3, po_i3, po_r3, po_n3, po_u3, pw_iload_n3, pw_zlt, pw_aload_n0, pw_aloadN_n0, pw_getR, pw_alen, pw_clt, pw_nop, pw_bald, pw_bipush, bl_m2, pw_cne, pw_iald, pw_iv3, pw_iconst, il_5, il_2, pw_iast, pw_iv1, pw_i2b, pw_bast, pw_ret0, kd_48, rf_48_0, rf_48_6, rf_48_7, rf_48_8, rf_48_9, rf_48_10, rf_48_12, rf_48_13, rf_48_14, rf_48_15, rf_48_1, rf_48_2, kd_49, rf_49_0, rf_49_1, kd_50, kd_65, kd_68, kd_71, rf_71_1, rf_71_3, rf_71_4, rf_71_5, rf_71_6, rf_71_11, rf_71_12, rf_71_14, kd_78, n_0, n_1, n_2, n_5, n_694, nn_lt, nn_nlt, nn_le, nn_nle, nn_ne, nn_sub, nn_mul, nI_add, nn_neg, nm_eq, mn_eq, mm_eq, mn_lt, nm_lt, mn_le, nm_le, nn_sub0, nn_of, implies_true, nn_c, nn_in, nn_div, nat_rem, Nat.reduceMul, Nat.reduceSub, Nat.reduceDiv, Nat.reduceMod, pf_at, pf_ne, mk_s, mk_1, Classical.not_not, b2i_T, b2i_F, false_imp_iff, true_imp_iff, false_and, and_false, p_sw, Int.reduceAdd, Int.zero_add, Option.some.injEq, Value.int.injEq, Value.long.injEq, Value.ref.injEq, exists_eq_left', mk_I, mk_L, mk_wI, mk_wL, rf_s, rf_n, true_and, and_true, and_self, or_true, true_or, or_false, false_or, not_true_eq_false, not_false_eq_true, Option.toList_some, Option.toList_none, List.cons_append, List.nil_append, List.map_nil, List.map_cons, List.sum_nil, List.sum_cons, cat_i, cat_l, cat_r, cat_n, Nat.reduceLeDiff, Nat.reduceAdd, Nat.reduceEqDiff, Nat.zero_le, p_ent, p_u_ne, p_u_at, reduceIte, if_true, if_false, hr1, va_rs, h65, e2, t2, b8, nv, P_ce s24, P_ce s35]
  · have e3 := (hm i u hi hu).resolve_left e2
    rw [hY] at e3
    refine ⟨I, fun _ _ _ _ => rfl, hm, ?_⟩
    clear hm
    generalize pnI Y = V at *
    have ne : ¬ V = mI 2 := by rw [← e3]; exact e2
    simp -implicitDefEqProofs (disch := first | omega | decide) only [P_m, ↓P_run_eq _ 47 _ (p_bk 47 0), bk_47_0, pb_47_0, ↓P_run_eq _ 47 _ (p_bk 47 2), bk_47_2, pb_47_2, ↓P_run_eq _ 47 _ (p_bk 47 3), bk_47_3, pb_47_3, pw_iload_n1, pw_sipush, sl_694, pw_imul, pw_iload_n2, pw_iadd, pw_istore_n3, ps_3, pe_3, po_i3, po_r3, po_n3, po_u3, pw_iload_n3, pw_zlt, pw_aload_n0, pw_aloadN_n0, pw_getR, pw_alen, pw_clt, pw_nop, pw_bald, pw_bipush, bl_m2, pw_cne, pw_iald, pw_iv3, pw_iconst, il_5, il_2, pw_iast, pw_iv1, pw_i2b, pw_bast, pw_ret0, kd_48, rf_48_0, rf_48_6, rf_48_7, rf_48_8, rf_48_9, rf_48_10, rf_48_12, rf_48_13, rf_48_14, rf_48_15, rf_48_1, rf_48_2, kd_68, n_0, n_1, n_2, n_5, n_694, nn_lt, nn_nlt, nn_le, nn_nle, nn_ne, nn_sub, nn_mul, nI_add, nn_neg, nm_eq, mn_eq, mm_eq, mn_lt, nm_lt, mn_le, nm_le, nn_sub0, nn_of, implies_true, nn_c, nn_in, nn_div, nat_rem, Nat.reduceMul, Nat.reduceSub, Nat.reduceDiv, Nat.reduceMod, pf_at, pf_ne, mk_s, mk_1, Classical.not_not, b2i_T, b2i_F, false_imp_iff, true_imp_iff, false_and, and_false, p_sw, Int.reduceAdd, Int.zero_add, Option.some.injEq, Value.int.injEq, Value.long.injEq, Value.ref.injEq, exists_eq_left', mk_I, mk_L, mk_wI, mk_wL, rf_s, rf_n, true_and, and_true, and_self, or_true, true_or, or_false, false_or, not_true_eq_false, not_false_eq_true, Option.toList_some, Option.toList_none, List.cons_append, List.nil_append, List.map_nil, List.map_cons, List.sum_nil, List.sum_cons, cat_i, cat_l, cat_r, cat_n, Nat.reduceLeDiff, Nat.reduceAdd, Nat.reduceEqDiff, Nat.zero_le, p_ent, p_u_ne, p_u_at, reduceIte, if_true, if_false, e3, ne]
theorem pl_279 : ∃ L', (∀ a, ¬ a = 67 → L' a = L a) ∧ (∀ j, j < 1388 → L' 67 j = 0) ∧ P_m d 279 [.ref 67, .long 0] (p_mk Ls I L R X) (fun v h' => v = none ∧ h' = p_mk Ls I L' R X) := by
  have loop : ∀ i, i ≤ 1388 → ∀ M : Nat → Nat → Int64, (∀ a, ¬ a = 67 → M a = L a) → (∀ j, j < i → M 67 j = 0) → P_run d 279 (p_bk 279 1) 0 0 [.ref 67, .long 0, .retAddr 0, .int (nI i), .int (nI 1388)] [] (p_mk Ls I M R X) (fun w h' => w = none ∧ ∃ L', ((∀ a, ¬ a = 67 → L' a = L a) ∧ (∀ j, j < 1388 → L' 67 j = 0)) ∧ h' = p_mk Ls I L' R X) := by
    refine down_ind ?_ ?_
    · intro M h1 h2
      rw [P_run_eq, bk_279_1, pb_279_1]; simp -implicitDefEqProofs (disch := first | omega | decide) only [P_m, ↓P_run_eq _ 279 _ (p_bk 279 2), bk_279_2, pb_279_2, pw_iload_n3, pw_iload_4, pw_cge, pw_aload_n0, pw_aloadN_n0, pw_lload_n1, pw_last, pw_iinc_3, il_1, po_i3, po_r3, po_n3, po_u3, pw_goto, pw_vret, kd_67, n_0, n_1, nn_lt, nn_nlt, nn_le, nn_nle, nn_ne, nn_sub, nn_mul, nI_add, nn_neg, nm_eq, mn_eq, mm_eq, mn_lt, nm_lt, mn_le, nm_le, nn_sub0, nn_of, implies_true, nn_c, nn_in, nn_div, nat_rem, Nat.reduceMul, Nat.reduceSub, Nat.reduceDiv, Nat.reduceMod, pf_at, pf_ne, mk_s, mk_1, Classical.not_not, b2i_T, b2i_F, false_imp_iff, true_imp_iff, false_and, and_false, p_sw, Int.reduceAdd, Int.zero_add, Option.some.injEq, Value.int.injEq, Value.long.injEq, Value.ref.injEq, exists_eq_left', mk_I, mk_L, mk_wI, mk_wL, rf_s, rf_n, true_and, and_true, and_self, or_true, true_or, or_false, false_or, not_true_eq_false, not_false_eq_true, Option.toList_some, Option.toList_none, List.cons_append, List.nil_append, List.map_nil, List.map_cons, List.sum_nil, List.sum_cons, cat_i, cat_l, cat_r, cat_n, Nat.reduceLeDiff, Nat.reduceAdd, Nat.reduceEqDiff, Nat.zero_le, p_ent, p_u_ne, p_u_at, reduceIte, if_true, if_false]
      exact ⟨M, ⟨h1, h2⟩, rfl⟩
    · intro i hi ih M h1 h2
      have nx := ih (p_u M 67 i 0) (fun a ha => by rw [p_u_ne ha]; exact h1 a ha) (fun j hj => by
        rw [p_u_at]
        by_cases e : j = i
        · rw [if_pos e]
        · rw [if_neg e]; exact h2 j (by omega))
      rw [P_run_eq, bk_279_1, pb_279_1]; simp -implicitDefEqProofs (disch := first | omega | decide) only [P_m, pw_iload_n3, pw_iload_4, pw_cge, pw_aload_n0, pw_aloadN_n0, pw_lload_n1, pw_last, pw_iinc_3, il_1, po_i3, po_r3, po_n3, po_u3, pw_goto, kd_67, n_0, n_1, nn_lt, nn_nlt, nn_le, nn_nle, nn_ne, nn_sub, nn_mul, nI_add, nn_neg, nm_eq, mn_eq, mm_eq, mn_lt, nm_lt, mn_le, nm_le, nn_sub0, nn_of, implies_true, nn_c, nn_in, nn_div, nat_rem, Nat.reduceMul, Nat.reduceSub, Nat.reduceDiv, Nat.reduceMod, pf_at, pf_ne, mk_s, mk_1, Classical.not_not, b2i_T, b2i_F, false_imp_iff, true_imp_iff, false_and, and_false, p_sw, Int.reduceAdd, Int.zero_add, Option.some.injEq, Value.int.injEq, Value.long.injEq, Value.ref.injEq, exists_eq_left', mk_I, mk_L, mk_wI, mk_wL, rf_s, rf_n, true_and, and_true, and_self, or_true, true_or, or_false, false_or, not_true_eq_false, not_false_eq_true, Option.toList_some, Option.toList_none, List.cons_append, List.nil_append, List.map_nil, List.map_cons, List.sum_nil, List.sum_cons, cat_i, cat_l, cat_r, cat_n, Nat.reduceLeDiff, Nat.reduceAdd, Nat.reduceEqDiff, Nat.zero_le, p_ent, p_u_ne, p_u_at, reduceIte, if_true, if_false]
      exact nx
  have st := loop 0 (by omega) L (fun _ _ => rfl) (fun j hj => absurd hj (by omega))
  have all : P_m d 279 [.ref 67, .long 0] (p_mk Ls I L R X) (fun w h' => w = none ∧ ∃ L', ((∀ a, ¬ a = 67 → L' a = L a) ∧ (∀ j, j < 1388 → L' 67 j = 0)) ∧ h' = p_mk Ls I L' R X) := by
    simp -implicitDefEqProofs (disch := first | omega | decide) only [P_m, ↓P_run_eq _ 279 _ (p_bk 279 0), bk_279_0, pb_279_0, pw_iconst, il_0, pw_istore_n3, ps_3, pe_3, po_i3, po_r3, po_n3, po_u3, pw_aload_n0, pw_aloadN_n0, pw_alen, pw_istore, ps_4, pe_4, po_i4, po_r4, po_n4, po_u4, pw_nop, kd_67, n_0, n_1, nn_lt, nn_nlt, nn_le, nn_nle, nn_ne, nn_sub, nn_mul, nI_add, nn_neg, nm_eq, mn_eq, mm_eq, mn_lt, nm_lt, mn_le, nm_le, nn_sub0, nn_of, implies_true, nn_c, nn_in, nn_div, nat_rem, Nat.reduceMul, Nat.reduceSub, Nat.reduceDiv, Nat.reduceMod, pf_at, pf_ne, mk_s, mk_1, Classical.not_not, b2i_T, b2i_F, false_imp_iff, true_imp_iff, false_and, and_false, p_sw, Int.reduceAdd, Int.zero_add, Option.some.injEq, Value.int.injEq, Value.long.injEq, Value.ref.injEq, exists_eq_left', mk_I, mk_L, mk_wI, mk_wL, rf_s, rf_n, true_and, and_true, and_self, or_true, true_or, or_false, false_or, not_true_eq_false, not_false_eq_true, Option.toList_some, Option.toList_none, List.cons_append, List.nil_append, List.map_nil, List.map_cons, List.sum_nil, List.sum_cons, cat_i, cat_l, cat_r, cat_n, Nat.reduceLeDiff, Nat.reduceAdd, Nat.reduceEqDiff, Nat.zero_le, p_ent, p_u_ne, p_u_at, reduceIte, if_true, if_false]
    exact st
  obtain ⟨w, g, ⟨rfl, J', ⟨f1, f2⟩, rfl⟩, s⟩ := P_mex all
  exact ⟨J', f1, f2, s⟩
theorem pl_281 : ∃ J, (∀ a, ¬ a = 68 → J a = I a) ∧ (∀ j, j < 4858 → J 68 j = mI 2) ∧ P_m d 281 [.ref 68, .int (mI 2)] (p_mk Ls I L R X) (fun v h' => v = none ∧ h' = p_mk Ls J L R X) := by
  have nv : p_nv 2 (mI 2) = mI 2 := by decide
  have loop : ∀ i, i ≤ 4858 → ∀ M : Nat → Nat → Int32, (∀ a, ¬ a = 68 → M a = I a) → (∀ j, j < i → M 68 j = mI 2) → P_run d 281 (p_bk 281 1) 0 0 [.ref 68, .int (mI 2), .int (nI i), .int (nI 4858)] [] (p_mk Ls M L R X) (fun w h' => w = none ∧ ∃ J, ((∀ a, ¬ a = 68 → J a = I a) ∧ (∀ j, j < 4858 → J 68 j = mI 2)) ∧ h' = p_mk Ls J L R X) := by
    refine down_ind ?_ ?_
    · intro M h1 h2
      rw [P_run_eq, bk_281_1, pb_281_1]; simp -implicitDefEqProofs (disch := first | omega | decide) only [P_m, ↓P_run_eq _ 281 _ (p_bk 281 2), bk_281_2, pb_281_2, pw_iload_n2, pw_iload_n3, pw_cge, pw_aload_n0, pw_aloadN_n0, pw_iload_n1, pw_bast, pw_iinc_2, il_1, po_i2, po_r2, po_n2, po_u2, pw_goto, pw_vret, kd_68, n_0, n_1, nn_lt, nn_nlt, nn_le, nn_nle, nn_ne, nn_sub, nn_mul, nI_add, nn_neg, nm_eq, mn_eq, mm_eq, mn_lt, nm_lt, mn_le, nm_le, nn_sub0, nn_of, implies_true, nn_c, nn_in, nn_div, nat_rem, Nat.reduceMul, Nat.reduceSub, Nat.reduceDiv, Nat.reduceMod, pf_at, pf_ne, mk_s, mk_1, Classical.not_not, b2i_T, b2i_F, false_imp_iff, true_imp_iff, false_and, and_false, p_sw, Int.reduceAdd, Int.zero_add, Option.some.injEq, Value.int.injEq, Value.long.injEq, Value.ref.injEq, exists_eq_left', mk_I, mk_L, mk_wI, mk_wL, rf_s, rf_n, true_and, and_true, and_self, or_true, true_or, or_false, false_or, not_true_eq_false, not_false_eq_true, Option.toList_some, Option.toList_none, List.cons_append, List.nil_append, List.map_nil, List.map_cons, List.sum_nil, List.sum_cons, cat_i, cat_l, cat_r, cat_n, Nat.reduceLeDiff, Nat.reduceAdd, Nat.reduceEqDiff, Nat.zero_le, p_ent, p_u_ne, p_u_at, reduceIte, if_true, if_false]
      exact ⟨M, ⟨h1, h2⟩, rfl⟩
    · intro i hi ih M h1 h2
      have nx := ih (p_u M 68 i (mI 2)) (fun a ha => by rw [p_u_ne ha]; exact h1 a ha) (fun j hj => by
        rw [p_u_at]
        by_cases e : j = i
        · rw [if_pos e]
        · rw [if_neg e]; exact h2 j (by omega))
      rw [P_run_eq, bk_281_1, pb_281_1]; simp -implicitDefEqProofs (disch := first | omega | decide) only [P_m, pw_iload_n2, pw_iload_n3, pw_cge, pw_aload_n0, pw_aloadN_n0, pw_iload_n1, pw_bast, pw_iinc_2, il_1, po_i2, po_r2, po_n2, po_u2, pw_goto, kd_68, n_0, n_1, nn_lt, nn_nlt, nn_le, nn_nle, nn_ne, nn_sub, nn_mul, nI_add, nn_neg, nm_eq, mn_eq, mm_eq, mn_lt, nm_lt, mn_le, nm_le, nn_sub0, nn_of, implies_true, nn_c, nn_in, nn_div, nat_rem, Nat.reduceMul, Nat.reduceSub, Nat.reduceDiv, Nat.reduceMod, pf_at, pf_ne, mk_s, mk_1, Classical.not_not, b2i_T, b2i_F, false_imp_iff, true_imp_iff, false_and, and_false, p_sw, Int.reduceAdd, Int.zero_add, Option.some.injEq, Value.int.injEq, Value.long.injEq, Value.ref.injEq, exists_eq_left', mk_I, mk_L, mk_wI, mk_wL, rf_s, rf_n, true_and, and_true, and_self, or_true, true_or, or_false, false_or, not_true_eq_false, not_false_eq_true, Option.toList_some, Option.toList_none, List.cons_append, List.nil_append, List.map_nil, List.map_cons, List.sum_nil, List.sum_cons, cat_i, cat_l, cat_r, cat_n, Nat.reduceLeDiff, Nat.reduceAdd, Nat.reduceEqDiff, Nat.zero_le, p_ent, p_u_ne, p_u_at, reduceIte, if_true, if_false, nv]
      exact nx
  have st := loop 0 (by omega) I (fun _ _ => rfl) (fun j hj => absurd hj (by omega))
  have all : P_m d 281 [.ref 68, .int (mI 2)] (p_mk Ls I L R X) (fun w h' => w = none ∧ ∃ J, ((∀ a, ¬ a = 68 → J a = I a) ∧ (∀ j, j < 4858 → J 68 j = mI 2)) ∧ h' = p_mk Ls J L R X) := by
    simp -implicitDefEqProofs (disch := first | omega | decide) only [P_m, ↓P_run_eq _ 281 _ (p_bk 281 0), bk_281_0, pb_281_0, pw_iconst, il_0, pw_istore_n2, ps_2, pe_2, po_i2, po_r2, po_n2, po_u2, pw_aload_n0, pw_aloadN_n0, pw_alen, pw_istore_n3, ps_3, pe_3, po_i3, po_r3, po_n3, po_u3, pw_nop, kd_68, n_0, n_1, nn_lt, nn_nlt, nn_le, nn_nle, nn_ne, nn_sub, nn_mul, nI_add, nn_neg, nm_eq, mn_eq, mm_eq, mn_lt, nm_lt, mn_le, nm_le, nn_sub0, nn_of, implies_true, nn_c, nn_in, nn_div, nat_rem, Nat.reduceMul, Nat.reduceSub, Nat.reduceDiv, Nat.reduceMod, pf_at, pf_ne, mk_s, mk_1, Classical.not_not, b2i_T, b2i_F, false_imp_iff, true_imp_iff, false_and, and_false, p_sw, Int.reduceAdd, Int.zero_add, Option.some.injEq, Value.int.injEq, Value.long.injEq, Value.ref.injEq, exists_eq_left', mk_I, mk_L, mk_wI, mk_wL, rf_s, rf_n, true_and, and_true, and_self, or_true, true_or, or_false, false_or, not_true_eq_false, not_false_eq_true, Option.toList_some, Option.toList_none, List.cons_append, List.nil_append, List.map_nil, List.map_cons, List.sum_nil, List.sum_cons, cat_i, cat_l, cat_r, cat_n, Nat.reduceLeDiff, Nat.reduceAdd, Nat.reduceEqDiff, Nat.zero_le, p_ent, p_u_ne, p_u_at, reduceIte, if_true, if_false]
    exact st
  obtain ⟨w, g, ⟨rfl, J', ⟨f1, f2⟩, rfl⟩, s⟩ := P_mex all
  exact ⟨J', f1, f2, s⟩
end OI
