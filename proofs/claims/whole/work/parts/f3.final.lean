section FN
theorem whole_run (L : Nat) (xs : Nat → Int32) (sio : Option Nat) (hL : L ≤ 3072) : ∃ kc ks, kc ≤ 600000 ∧ ks ≤ 7302250 ∧ P_run 100 283 (p_bk 283 0) kc ks [.ref 2] [] (p_h0 L xs sio) (fun v _ => v = some (.int 1)) := by
  have hl : (p_h0 L xs sio).2.2.2.length = 32 := rfl
  obtain ⟨w1, r1⟩ := ze_calls hl 20 80 [.ref 32] _ _ ze_1 (by decide)
  obtain ⟨w2, r2⟩ := ze_calls hl 20 133 [.ref 123] _ _ ze_2 (by decide +kernel)
  have lp := lw_loop (d := 39) (Ls := L) (Q := fun v _ => v = some (.int 1)) hL (fun _ => rfl) 512 0 (by omega) (by omega)
  have iH : InvH L (ze_H (p_h0 L xs sio) zE2) := ⟨_, _, _, _, z2_mk, z2_Inv⟩
  obtain ⟨kc, ks, k1, k2, go⟩ := lp _ iH
  have r1 := P_up r1 99 (by omega)
  have r2 := P_up r2 99 (by omega)
  dsimp only at r1 r2
  refine ⟨90 + ((18 + kc) + 1) + 1, 18 + (9022 + (48 + (19492 + ks))), by omega, by omega, ?_⟩
  clear iH lp k1 k2 w1 w2
  refine P_go ?_
  rw [bk_283_0, pb_283_0, pw_new]
  refine ⟨Nat.le_add_right _ _, ?_⟩
  rw [Nat.add_sub_cancel_left, hl, pw_dupr, pw_ip1 _ _ _ _ _ (by decide)]
  refine ⟨by decide, ?_⟩
  refine P_ck r1 ?_
  have ln1 : (ze_H (p_h0 L xs sio) zE1).2.2.2.length = 123 := by rw [ze_len hl]; decide +kernel
  have e0 : ∀ (q : pKd), p_new (ze_H (p_h0 L xs sio) zE1) (0, 9) = ze_H (p_h0 L xs sio) ((0, 123, 0, 9) :: zE1) := fun _ => rfl
  generalize ze_H (p_h0 L xs sio) ((0, 123, 0, 9) :: zE1) = G1 at *
  generalize ze_H (p_h0 L xs sio) zE1 = G0 at *
  generalize ze_H (p_h0 L xs sio) zE2 = G2 at *
  simp only [Option.toList_none, List.nil_append, pw_new, pw_dupi, pw_dupr, pw_ip1, pw_astore_n1, pw_astoreN_n1, ps_1, pe_1, po_i1, po_r1, po_n1, po_u1, pw_astore_n2, pw_astoreN_n2, ps_2, pe_2, po_i2, po_r2, po_n2, po_u2, pw_iconst, il_0, pw_istore_n3, ps_3, pe_3, po_i3, po_r3, po_n3, po_u3, pw_nop, Classical.not_not, implies_true, mk_s, mk_1, pf_at, pf_ne, b2i_T, b2i_F, false_imp_iff, true_imp_iff, ne_10, ne_01, ne_m10, ne_0m1, ne_m11, ne_1m1, false_and, and_false, Int.reduceAdd, Int.zero_add, Option.some.injEq, Value.int.injEq, Value.long.injEq, Value.ref.injEq, exists_eq_left',  mk_I, mk_L, mk_wI, mk_wL, rf_s, rf_n, true_and, and_true, and_self, or_true, true_or, or_false, false_or, not_true_eq_false, not_false_eq_true, Option.toList_some, Option.toList_none, List.cons_append, List.nil_append, List.map_nil, List.map_cons, List.sum_nil, List.sum_cons, cat_i, cat_l, cat_r, cat_n, Nat.reduceLeDiff, Nat.reduceAdd, Nat.reduceEqDiff, Nat.zero_le, p_ent, Int32.reduceToNatClampNeg, Int32.reduceLT, Int32.reduceLE, vin_l, p_u_ne, p_u_at, reduceIte, if_true, if_false, Int32.reduceToInt, Int.zero_le_ofNat, Int.cast_ofNat_Int, Int.reduceLT, Int.reduceLE, not_false_eq_true]
  refine ⟨Nat.le_add_right _ _, ?_⟩
  rw [Nat.add_sub_cancel_left, ln1, e0 (0, 9)]
  refine P_ck r2 ?_
  simp only [Option.toList_none, List.nil_append, pw_new, pw_dupi, pw_dupr, pw_ip1, pw_astore_n1, pw_astoreN_n1, ps_1, pe_1, po_i1, po_r1, po_n1, po_u1, pw_astore_n2, pw_astoreN_n2, ps_2, pe_2, po_i2, po_r2, po_n2, po_u2, pw_iconst, il_0, pw_istore_n3, ps_3, pe_3, po_i3, po_r3, po_n3, po_u3, pw_nop, Classical.not_not, implies_true, mk_s, mk_1, pf_at, pf_ne, b2i_T, b2i_F, false_imp_iff, true_imp_iff, ne_10, ne_01, ne_m10, ne_0m1, ne_m11, ne_1m1, false_and, and_false, Int.reduceAdd, Int.zero_add, Option.some.injEq, Value.int.injEq, Value.long.injEq, Value.ref.injEq, exists_eq_left',  mk_I, mk_L, mk_wI, mk_wL, rf_s, rf_n, true_and, and_true, and_self, or_true, true_or, or_false, false_or, not_true_eq_false, not_false_eq_true, Option.toList_some, Option.toList_none, List.cons_append, List.nil_append, List.map_nil, List.map_cons, List.sum_nil, List.sum_cons, cat_i, cat_l, cat_r, cat_n, Nat.reduceLeDiff, Nat.reduceAdd, Nat.reduceEqDiff, Nat.zero_le, p_ent, Int32.reduceToNatClampNeg, Int32.reduceLT, Int32.reduceLE, vin_l, p_u_ne, p_u_at, reduceIte, if_true, if_false, Int32.reduceToInt, Int.zero_le_ofNat, Int.cast_ofNat_Int, Int.reduceLT, Int.reduceLE, not_false_eq_true, n_0]
  exact go
end FN
