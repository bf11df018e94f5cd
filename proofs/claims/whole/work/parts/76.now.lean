/-! AN ACT NOW, on the class's side -/
theorem actW_e {c : Option (List tCl)} {K : Nat → Int32} {kd : Nat} {v : Int32} (h : (actW c K kd v).2 = []) : (actW c K kd v).1 = -1 ∨ (actW c K kd v).1 = -2 ∨ (actW c K kd v).1 = -3 := by
  unfold actW at *
  split at h
  · rename_i h0
    rw [if_pos h0]
    split at h
    · rename_i h1
      rw [if_pos h1]
      split at h
      · cases h
      · rename_i h2
        rw [if_neg h2]; exact Or.inr (Or.inr rfl)
    · rename_i h1
      rw [if_neg h1]; exact Or.inr (Or.inl rfl)
  · rename_i h0
    rw [if_neg h0]
    split at h
    · rename_i h1
      rw [if_pos h1]
      split at h
      · cases h
      · rename_i h2
        rw [if_neg h2]; exact Or.inl rfl
    · rename_i h1
      rw [if_neg h1]
      split at h
      · rename_i h2
        rw [if_pos h2]
        split at h
        · cases h
        · rename_i h3
          rw [if_neg h3]; exact Or.inr (Or.inr rfl)
      · rename_i h2
        rw [if_neg h2]
        split at h
        · cases h
        · rename_i h3
          rw [if_neg h3]; exact Or.inr (Or.inl rfl)
theorem actW_n {c : Option (List tCl)} {K : Nat → Int32} {kd : Nat} {v : Int32} (hV : vld K) (h : ¬ (actW c K kd v).2 = []) : wsOk (actW c K kd v).2 ∧ vldH (updL K (actW c K kd v).2) ∧ updL K (actW c K kd v).2 52 = K 52 ∧ bn (actW c K kd v).1 999 := by
  rcases actW_ok (c := c) (kd := kd) (v := v) hV with h1 | h1
  · exact absurd h1.1 h
  · exact h1
/-- what an act leaves can stand -/
theorem nx_vld {c : Option (List tCl)} {K : Nat → Int32} {kd : Nat} {v : Int32} (hV : vld K) : vld (nxK c K kd v) ∧ nxK c K kd v 52 = K 52 ∧ nxK c K kd v 53 = K 53 ∧ nxK c K kd v 56 = K 56 ∧ ∀ j, j = 55 ∨ 57 ≤ j → nxK c K kd v j = K j := by
  have h3 := act_56 (c := c) (kd := kd) (v := v) hV
  unfold nxK
  by_cases h : (actW c K kd v).2 = []
  · rw [h]; exact ⟨hV, rfl, rfl, rfl, fun _ _ => rfl⟩
  · obtain ⟨h1, h2, h4, h5⟩ := actW_n hV h
    exact ⟨vld_iff.mpr ⟨updL_vB _ h1 (vld_iff.mp hV).1, h2⟩, h4, h3.2.2, h3.1, fun j hj => updL_hi _ h1 j hj⟩
theorem nx_law {c c' : Option (List tCl)} {K : Nat → Int32} {kd : Nat} {v : Int32} (hV : vld K) (h : lawOf K c') : lawOf (nxK c K kd v) c' := by
  unfold nxK
  by_cases e : (actW c K kd v).2 = []
  · rw [e]; exact h
  · exact upd_law (actW_n hV e).1 (act_56 hV).1 h
theorem nx_fr {R : Nat → Nat → Option Nat} {A : Nat} {c : Option (List tCl)} {K : Nat → Int32} {kd : Nat} {v : Int32} (hV : vld K) : fRef R A (nxK c K kd v) = fRef R A K := by
  unfold fRef
  rw [(nx_vld hV).2.2.2.1]
/-- all but what acts of now write -/
def frN (I J : Nat → Nat → Int32) : Prop := ∀ a, (a < 71 ∨ 81 < a ∨ a = 79) → ¬ a = 46 → ¬ a = 47 → J a = I a
theorem frN_tr {I J K : Nat → Nat → Int32} (h1 : frN I J) (h2 : frN J K) : frN I K := fun a a1 a2 a3 => (h2 a a1 a2 a3).trans (h1 a a1 a2 a3)
section NW
variable {Ls : Nat} {I : Nat → Nat → Int32} {L : Nat → Nat → Int64} {R : Nat → Nat → Option Nat} {X : List pKd} {c : Option (List tCl)} {K M : Nat → Int32} {k : Nat}
theorem act_now {D kd : Nat} (v : Int32) (h : Can Ls I R X K c) (hp : clS I K k M) (hk : kd ≤ 3) (e0 : I 1 0 = 999) (e9 : I 1 2 = nI 9999) (hD : 8 ≤ D) : ∃ J, frN I J ∧ clS J (nxK c K kd v) (nxN c K kd v k) (nxM c K kd v k M) ∧ P_m D 121 [.ref 32, .int (nI kd), .int v] (p_mk Ls I L R X) (fun w h' => w = some (.int (actW c K kd v).1) ∧ h' = p_mk Ls J L R X) := by
  obtain ⟨D', rfl⟩ : ∃ D', D = D' + 8 := ⟨D - 8, by omega⟩
  obtain ⟨hR, n, p1, p2, p3⟩ := hp
  have hn := p3.1
  have hk16 := p3.2.1
  have hV := h.2.2.1
  have s1 := sp_54 (d := D' + 7) (Ls := Ls) (I := I) (L := L) (R := R) (X := X) hn p1
  generalize hI1 : p_fn I 81 (drf I n) = I1 at s1
  have i1 : ∀ a, ¬ a = 81 → I1 a = I a := fun a ha => by rw [← hI1, pf_ne ha]
  have i81 : I1 81 = drf I n := by rw [← hI1, pf_at]
  have h1 : Can Ls I1 R X K c := ⟨hutR_f hR (fun b b1 b2 => i1 b (by omega)), h.2.1, hV, h.2.2.2.1, clw_fr h.2.2.2.2 (fun a ha => i1 a (by omega))⟩
  obtain ⟨J, f, hJ, s2⟩ := actn (L := L) (D := D' + 7) v h1 hk (by rw [i1 1 (by omega)]; exact e0) (by rw [i1 1 (by omega)]; exact e9) (by omega)
  have j80 : J 80 = I 80 := by rw [f 80 (by omega) (by omega) (by omega), i1 80 (by omega)]
  have j81 : J 81 = drf I n := by rw [f 81 (by omega) (by omega) (by omega), i81]
  by_cases hw : (actW c K kd v).2 = []
  · refine ⟨J, fun a a1 a2 a3 => ?_, ?_, ?_⟩
    · rw [f a (by omega) a2 a3, i1 a (by omega)]
    · have e1 : nxK c K kd v = K := by unfold nxK; rw [hw]; rfl
      unfold nxN nxM
      rw [if_pos hw, if_pos hw, e1]
      rw [e1] at hJ
      refine ⟨hJ, n, by rw [j80]; exact p1, by rw [j80]; exact p2, ?_⟩
      rw [j81]
      exact past_same p3 (fun s i hs hsn hi => drf_row hn s i hs hsn hi)
    · have hneg : (actW c K kd v).1 < 0 := by
        rcases actW_e hw with e | e | e <;> rw [e] <;> decide
      generalize actW c K kd v = w at *
      have hneg : w.1 < nI 0 := hneg
      simp -implicitDefEqProofs (disch := first | omega | decide) only [P_m, ↓P_run_eq _ 121 _ (p_bk 121 0), bk_121_0, pb_121_0, ↓P_run_eq _ 121 _ (p_bk 121 1), bk_121_1, pb_121_1, pw_aload_n0, pw_aloadN_n0, pw_getR, pw_iv2, pw_iload_n1, pw_iload_n2, pw_iv4, pw_istore_n3, ps_3, pe_3, po_i3, po_r3, po_n3, po_u3, pw_iload_n3, pw_zlt, pw_nop, pw_ret0, kd_32, rf_32_0, rf_32_1, rf_32_2, rf_32_3, rf_32_4, rf_32_5, rf_32_6, rf_32_7, rf_32_8, rf_32_9, rf_32_11, rf_32_12, rf_32_13, kd_71, rf_71_1, rf_71_3, rf_71_4, rf_71_5, rf_71_6, rf_71_11, rf_71_12, rf_71_14, kd_80, rf_80_0, n_0, n_1, nn_lt, nn_nlt, nn_le, nn_nle, nn_ne, nn_sub, nn_mul, nI_add, nn_neg, nm_eq, mn_eq, mm_eq, mn_lt, nm_lt, mn_le, nm_le, nn_sub0, nn_of, implies_true, nn_c, nn_in, nn_div, nat_rem, Nat.reduceMul, Nat.reduceSub, Nat.reduceDiv, Nat.reduceMod, pf_at, pf_ne, mk_s, mk_1, Classical.not_not, b2i_T, b2i_F, false_imp_iff, true_imp_iff, false_and, and_false, p_sw, Int.reduceAdd, Int.zero_add, Option.some.injEq, Value.int.injEq, Value.long.injEq, Value.ref.injEq, exists_eq_left', mk_I, mk_L, mk_wI, mk_wL, rf_s, rf_n, true_and, and_true, and_self, or_true, true_or, or_false, false_or, not_true_eq_false, not_false_eq_true, Option.toList_some, Option.toList_none, List.cons_append, List.nil_append, List.map_nil, List.map_cons, List.sum_nil, List.sum_cons, cat_i, cat_l, cat_r, cat_n, Nat.reduceLeDiff, Nat.reduceAdd, Nat.reduceEqDiff, Nat.zero_le, p_ent, p_u_ne, p_u_at, reduceIte, if_true, if_false, P_ce s1, P_ce s2, hneg]
  · obtain ⟨w1, w2, w3, x, hx, ex⟩ := actW_n hV hw
    have s3 := sp_55 (d := D' + 7) (Ls := Ls) (I := J) (L := L) (R := R) (X := X) (nI kd) hn hk16 (by rw [j80]; exact p1) (by rw [j80]; exact p2)
    refine ⟨p_u (p_u (p_u J 81 (n * 14) (nI kd)) 80 1 (nI ((n + 1) % 17))) 80 2 (nI (min (k + 1) 16)), fun a a1 a2 a3 => ?_, ?_, ?_⟩
    · rw [p_u_ne (by omega), p_u_ne (by omega), p_u_ne (by omega), f a (by omega) a2 a3, i1 a (by omega)]
    · unfold nxN nxM
      rw [if_neg hw, if_neg hw]
      refine ⟨hutR_f hJ (fun b b1 b2 => by rw [p_u_ne (by omega), p_u_ne (by omega), p_u_ne (by omega)]), (n + 1) % 17, ?_, ?_, ?_⟩
      · rw [p_u_at, if_neg (by omega), p_u_at, if_pos rfl]
      · rw [p_u_at, if_pos rfl]
      · rw [p_u_ne (by omega), p_u_ne (by omega), p_u_self, j81]
        exact past_act p3 hR hV ⟨kd, hk, rfl⟩ w3
    · rw [ex] at s2 ⊢
      simp -implicitDefEqProofs (disch := first | omega | decide) only [P_m, ↓P_run_eq _ 121 _ (p_bk 121 0), bk_121_0, pb_121_0, ↓P_run_eq _ 121 _ (p_bk 121 1), bk_121_1, pb_121_1, pw_aload_n0, pw_aloadN_n0, pw_getR, pw_iv2, pw_iload_n1, pw_iload_n2, pw_iv4, pw_istore_n3, ps_3, pe_3, po_i3, po_r3, po_n3, po_u3, pw_iload_n3, pw_zlt, pw_nop, pw_ret0, kd_32, rf_32_0, rf_32_1, rf_32_2, rf_32_3, rf_32_4, rf_32_5, rf_32_6, rf_32_7, rf_32_8, rf_32_9, rf_32_11, rf_32_12, rf_32_13, kd_71, rf_71_1, rf_71_3, rf_71_4, rf_71_5, rf_71_6, rf_71_11, rf_71_12, rf_71_14, kd_80, rf_80_0, n_0, n_1, nn_lt, nn_nlt, nn_le, nn_nle, nn_ne, nn_sub, nn_mul, nI_add, nn_neg, nm_eq, mn_eq, mm_eq, mn_lt, nm_lt, mn_le, nm_le, nn_sub0, nn_of, implies_true, nn_c, nn_in, nn_div, nat_rem, Nat.reduceMul, Nat.reduceSub, Nat.reduceDiv, Nat.reduceMod, pf_at, pf_ne, mk_s, mk_1, Classical.not_not, b2i_T, b2i_F, false_imp_iff, true_imp_iff, false_and, and_false, p_sw, Int.reduceAdd, Int.zero_add, Option.some.injEq, Value.int.injEq, Value.long.injEq, Value.ref.injEq, exists_eq_left', mk_I, mk_L, mk_wI, mk_wL, rf_s, rf_n, true_and, and_true, and_self, or_true, true_or, or_false, false_or, not_true_eq_false, not_false_eq_true, Option.toList_some, Option.toList_none, List.cons_append, List.nil_append, List.map_nil, List.map_cons, List.sum_nil, List.sum_cons, cat_i, cat_l, cat_r, cat_n, Nat.reduceLeDiff, Nat.reduceAdd, Nat.reduceEqDiff, Nat.zero_le, p_ent, p_u_ne, p_u_at, reduceIte, if_true, if_false, P_ce s1, P_ce s2, P_ce s3]
end NW
