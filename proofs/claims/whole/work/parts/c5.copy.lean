/-! A NEW TEXT -/
section NT
variable {d Ls : Nat} {I : Nat → Nat → Int32} {L : Nat → Nat → Int64} {R : Nat → Nat → Option Nat} {X Y : List pKd} {h : pHp}
theorem sr_hi {t k : Nat} (h : 142 ≤ t) : p_sr t k = none := by
  unfold p_sr
  rw [nt2_hi p_srT t (by rw [show p_srT.length = 142 from rfl]; exact h)]
theorem mk_wRh {t k : Nat} {v : Option Nat} (h : 142 ≤ t) : p_wR (p_mk Ls I L R X) t k v = p_mk Ls I L (p_u R t k v) X := mk_wR (sr_hi h)
def nTx (m D : Nat) : List pKd := [(1, m), (1, m), (1, m), (1, m), (1, m), (1, D), (1, D)]
theorem al_75 {t m D : Nat} (ht : 142 ≤ t) (htY : t < 142 + Y.length) (hk : ∀ I L R q, p_kd (p_mk Ls I L R (Y ++ q)) t = (0, 7)) (hm : m ≤ 12) (hD : D ≤ 400) : P_run d 75 (p_bk 75 0) 7 (5 * m + 2 * D) (p_ent [.ref t, .int (nI m), .int (nI D)]) [] (p_mk Ls I L R (Y ++ [])) (fun v h' => v = none ∧ ∃ J M S, (h' = p_mk Ls J M S (Y ++ nTx m D)) ∧ (∀ a, a < 142 + Y.length → J a = I a) ∧ (∀ a, a < 142 + Y.length → ¬ a = t → S a = R a) ∧ S t 1 = some (142 + Y.length) ∧ S t 2 = some (142 + (Y.length + 1)) ∧ S t 3 = some (142 + (Y.length + 2)) ∧ S t 4 = some (142 + (Y.length + 3)) ∧ S t 5 = some (142 + (Y.length + 4)) ∧ S t 7 = some (142 + (Y.length + 5)) ∧ S t 8 = some (142 + (Y.length + 6))) := by
  simp -implicitDefEqProofs (disch := first | omega | decide) only [P_m, ↓P_run_eq _ 75 _ (p_bk 75 0), bk_75_0, pb_75_0, pw_aload_n0, pw_aloadN_n0, pw_obj, pw_iload_n1, pw_newa, pw_putR, pw_putN, pw_iload_n2, pw_vret, n_0, n_1, nn_lt, nn_nlt, nn_le, nn_nle, nn_ne, nn_sub, nn_mul, nI_add, nn_neg, nm_eq, mn_eq, mm_eq, mn_lt, nm_lt, mn_le, nm_le, nn_sub0, nn_of, implies_true, nn_c, nn_in, nn_div, nat_rem, Nat.reduceMul, Nat.reduceSub, Nat.reduceDiv, Nat.reduceMod, pf_at, pf_ne, mk_s, mk_1, Classical.not_not, b2i_T, b2i_F, false_imp_iff, true_imp_iff, false_and, and_false, p_sw, Int.reduceAdd, Int.zero_add, Option.some.injEq, Value.int.injEq, Value.long.injEq, Value.ref.injEq, exists_eq_left', mk_I, mk_L, mk_wI, mk_wL, rf_s, rf_n, true_and, and_true, and_self, or_true, true_or, or_false, false_or, not_true_eq_false, not_false_eq_true, Option.toList_some, Option.toList_none, List.cons_append, List.nil_append, List.map_nil, List.map_cons, List.sum_nil, List.sum_cons, cat_i, cat_l, cat_r, cat_n, Nat.reduceLeDiff, Nat.reduceAdd, Nat.reduceEqDiff, Nat.zero_le, p_ent, p_u_ne, p_u_at, reduceIte, if_true, if_false, hk, mk_new, mk_len, mk_wRh ht, List.append_assoc, List.cons_append, List.nil_append, List.append_nil, List.length_append, List.length_cons, List.length_nil]
  refine ⟨by omega, by omega, by omega, by omega, by omega, by omega, by omega, by omega, by omega, by omega, by omega, by omega, by omega, by omega, by omega, by omega, by omega, by omega, by omega, by omega, by omega, by omega, _, _, _, rfl, fun a ha => ?_, fun a ha hat => ?_, ?_⟩
  · rw [pf_ne (by omega), pf_ne (by omega), pf_ne (by omega), pf_ne (by omega), pf_ne (by omega), pf_ne (by omega), pf_ne (by omega)]
  · rw [p_u_ne hat, pf_ne (by omega), p_u_ne hat, pf_ne (by omega), p_u_ne hat, pf_ne (by omega), p_u_ne hat, pf_ne (by omega), p_u_ne hat, pf_ne (by omega), p_u_ne hat, pf_ne (by omega), p_u_ne hat, pf_ne (by omega)]
  · have n0 : ¬ t = 142 + Y.length := by omega
    have n1 : ¬ t = 142 + (Y.length + 1) := by omega
    have n2 : ¬ t = 142 + (Y.length + 2) := by omega
    have n3 : ¬ t = 142 + (Y.length + 3) := by omega
    have n4 : ¬ t = 142 + (Y.length + 4) := by omega
    have n5 : ¬ t = 142 + (Y.length + 5) := by omega
    have n6 : ¬ t = 142 + (Y.length + 6) := by omega
    simp only [p_u_at, pf_ne n0, pf_ne n1, pf_ne n2, pf_ne n3, pf_ne n4, pf_ne n5, pf_ne n6, Nat.reduceEqDiff, if_false, if_true, reduceIte, and_self]
theorem nth_y (X : List pKd) (q : pKd) (Z : List pKd) : p_nth (X ++ q :: Z) X.length = q := by
  induction X with
  | nil => rfl
  | cons x X ih => exact ih
theorem nth_i (X Z : List pKd) (i : Nat) : p_nth (X ++ Z) (X.length + i) = p_nth Z i := by
  induction X with
  | nil => rw [List.nil_append, List.length_nil, Nat.zero_add]
  | cons x X ih =>
    rw [List.length_cons, show X.length + 1 + i = (X.length + i) + 1 by omega]
    exact ih
theorem nth_o (X Z : List pKd) (i : Nat) (h : i < X.length) : p_nth (X ++ Z) i = p_nth X i := by
  induction X generalizing i with
  | nil => exact absurd h (Nat.not_lt_zero i)
  | cons x X ih =>
    cases i with
    | zero => rfl
    | succ i => exact ih i (by simpa using h)
theorem zf {f : Nat → Nat → Int32} {g : Nat → Int32} {a b : Nat} (hb : b < 142) (ha : 142 ≤ a) : p_fn f a g b = f b := pf_ne (by omega)
theorem zu {f : Nat → Nat → Int32} {v : Int32} {a b k : Nat} (hb : b < 142) (ha : 142 ≤ a) : p_u f a k v b = f b := p_u_ne (by omega)
/-- the reader's text, copied: a Text of its own -/
theorem al_76 {CL : List tCl} (hX : txC I CL) (hm : CL.length ≤ 12) (hD : (clCode CL).length ≤ 400) : P_run (d + 1) 76 (p_bk 76 0) 8 (9 + (5 * CL.length + 2 * (clCode CL).length)) (p_ent [.ref 36]) [] (p_mk Ls I L R X) (fun v h' => v = some (.ref (142 + X.length)) ∧ ∃ J M S, (h' = p_mk Ls J M S (X ++ (0, 7) :: nTx CL.length (clCode CL).length)) ∧ (∀ a, a < 142 + X.length → J a = I a) ∧ (∀ a, a < 142 + X.length → S a = R a) ∧ (S (142 + X.length) 1 = some (142 + X.length + 1) ∧ S (142 + X.length) 2 = some (142 + X.length + 2) ∧ S (142 + X.length) 3 = some (142 + X.length + 3) ∧ S (142 + X.length) 4 = some (142 + X.length + 4) ∧ S (142 + X.length) 5 = some (142 + X.length + 5) ∧ S (142 + X.length) 7 = some (142 + X.length + 6) ∧ S (142 + X.length) 8 = some (142 + X.length + 7)) ∧ J (142 + X.length) 0 = nI CL.length ∧ txA J (142 + X.length + 1) (142 + X.length + 2) (142 + X.length + 3) (142 + X.length + 4) (142 + X.length + 5) (142 + X.length + 6) (142 + X.length + 7) CL) := by
  obtain ⟨c0, c6, ct⟩ := hX
  generalize hmm : CL.length = m at *
  generalize hdd : (clCode CL).length = D at *
  generalize hn : X.length = n at *
  have yl : (X ++ [((0, 7) : pKd)]).length = n + 1 := by rw [List.length_append, hn]; rfl
  have a75 := al_75 (d := d) (Ls := Ls) (I := p_fn I (142 + n) (fun _ => nI 0)) (L := p_fn L (142 + n) (fun _ => 0)) (R := p_fn R (142 + n) (fun _ => none)) (Y := X ++ [(0, 7)]) (t := 142 + n) (m := m) (D := D) (by omega) (by rw [yl]; omega) (fun I L R q => by
    rw [kd_X (by omega), show 142 + n - 142 = X.length by omega, List.append_assoc]
    exact nth_y X (0, 7) q) hm hD
  rw [yl, List.append_nil] at a75
  have mn := mk_new (Ls := Ls) (I := I) (L := L) (R := R) (X := X) (q := (0, 7))
  have ml := mk_len (Ls := Ls) (I := I) (L := L) (R := R) (X := X)
  rw [hn] at mn ml
  simp -implicitDefEqProofs (disch := first | omega | decide) only [P_m, ↓P_run_eq _ 76 _ (p_bk 76 0), bk_76_0, pb_76_0, pw_new, pw_dupi, pw_dupr, pw_aload_n0, pw_aloadN_n0, pw_getI, pw_ip3, pw_astore_n1, pw_astoreN_n1, ps_1, pe_1, po_i1, po_r1, po_n1, po_u1, pw_aload_n1, pw_aloadN_n1, pw_putI, pw_getR, pw_iconst, il_0, pw_copy, pw_aret, pw_aretN, kd_36, rf_36_1, rf_36_2, rf_36_3, rf_36_4, rf_36_5, rf_36_7, rf_36_8, n_0, n_1, nn_lt, nn_nlt, nn_le, nn_nle, nn_ne, nn_sub, nn_mul, nI_add, nn_neg, nm_eq, mn_eq, mm_eq, mn_lt, nm_lt, mn_le, nm_le, nn_sub0, nn_of, implies_true, nn_c, nn_in, nn_div, nat_rem, Nat.reduceMul, Nat.reduceSub, Nat.reduceDiv, Nat.reduceMod, pf_at, pf_ne, mk_s, mk_1, Classical.not_not, b2i_T, b2i_F, false_imp_iff, true_imp_iff, false_and, and_false, p_sw, Int.reduceAdd, Int.zero_add, Option.some.injEq, Value.int.injEq, Value.long.injEq, Value.ref.injEq, exists_eq_left', mk_I, mk_L, mk_wI, mk_wL, rf_s, rf_n, true_and, and_true, and_self, or_true, true_or, or_false, false_or, not_true_eq_false, not_false_eq_true, Option.toList_some, Option.toList_none, List.cons_append, List.nil_append, List.map_nil, List.map_cons, List.sum_nil, List.sum_cons, cat_i, cat_l, cat_r, cat_n, Nat.reduceLeDiff, Nat.reduceAdd, Nat.reduceEqDiff, Nat.zero_le, p_ent, p_u_ne, p_u_at, reduceIte, if_true, if_false, mn, ml, c0, c6, zf]
  refine ⟨by omega, ?_⟩
  rw [show 9 + (5 * m + 2 * D) - 9 = 5 * m + 2 * D by omega]
  refine ⟨Nat.le_of_ble_eq_true rfl, 7, 5 * m + 2 * D, _, Nat.le_refl 7, Nat.le_refl _, a75, ?_⟩
  rintro _ _ ⟨rfl, J, M, S, rfl, j1, s1, r1, r2, r3, r4, r5, r7, r8⟩
  rw [Nat.sub_self, Nat.sub_self]
  refine P_go ?_
  have hZ : X ++ [((0, 7) : pKd)] ++ nTx m D = X ++ (0, 7) :: nTx m D := by rw [List.append_assoc]; rfl
  rw [hZ]
  have kt : ∀ J M S, p_kd (p_mk Ls J M S (X ++ (0, 7) :: nTx m D)) (142 + n) = (0, 7) := fun J M S => by
    rw [kd_X (by omega), show 142 + n - 142 = X.length by omega]; exact nth_y X (0, 7) _
  have ki : ∀ i, i < 7 → ∀ J M S, p_kd (p_mk Ls J M S (X ++ (0, 7) :: nTx m D)) (142 + (n + 1 + i)) = p_nth (nTx m D) i := fun i hi J M S => by
    rw [kd_X (by omega), show 142 + (n + 1 + i) - 142 = X.length + (1 + i) by omega, nth_i, show 1 + i = i + 1 by omega]; rfl
  have k1 := ki 0 (by omega)
  have k2 := ki 1 (by omega)
  have k3 := ki 2 (by omega)
  have k4 := ki 3 (by omega)
  have k5 := ki 4 (by omega)
  have k6 := ki 5 (by omega)
  have k7 := ki 6 (by omega)
  clear ki
  have q1 : ∀ J M, p_R (p_mk Ls J M S (X ++ (0, 7) :: nTx m D)) (142 + n) 1 = some (142 + (n + 1 + 0)) := fun J M => by rw [ovl_hi (by omega)]; exact r1
  have q2 : ∀ J M, p_R (p_mk Ls J M S (X ++ (0, 7) :: nTx m D)) (142 + n) 2 = some (142 + (n + 1 + 1)) := fun J M => by rw [ovl_hi (by omega)]; exact r2
  have q3 : ∀ J M, p_R (p_mk Ls J M S (X ++ (0, 7) :: nTx m D)) (142 + n) 3 = some (142 + (n + 1 + 2)) := fun J M => by rw [ovl_hi (by omega)]; exact r3
  have q4 : ∀ J M, p_R (p_mk Ls J M S (X ++ (0, 7) :: nTx m D)) (142 + n) 4 = some (142 + (n + 1 + 3)) := fun J M => by rw [ovl_hi (by omega)]; exact r4
  have q5 : ∀ J M, p_R (p_mk Ls J M S (X ++ (0, 7) :: nTx m D)) (142 + n) 5 = some (142 + (n + 1 + 4)) := fun J M => by rw [ovl_hi (by omega)]; exact r5
  have q7 : ∀ J M, p_R (p_mk Ls J M S (X ++ (0, 7) :: nTx m D)) (142 + n) 7 = some (142 + (n + 1 + 5)) := fun J M => by rw [ovl_hi (by omega)]; exact r7
  have q8 : ∀ J M, p_R (p_mk Ls J M S (X ++ (0, 7) :: nTx m D)) (142 + n) 8 = some (142 + (n + 1 + 6)) := fun J M => by rw [ovl_hi (by omega)]; exact r8
  generalize hZZ : X ++ (0, 7) :: nTx m D = Z at *
  have jJ : ∀ a, a < 142 + n → J a = I a := fun a ha => by rw [j1 a (by omega), pf_ne (by omega)]
  have u0 : J 36 0 = nI m := by rw [jJ 36 (by omega)]; exact c0
  have u6 : J 36 6 = nI D := by rw [jJ 36 (by omega)]; exact c6
  have b1 : 142 + (n + 1 + 0) = 142 + n + 1 := by omega
  have b2 : 142 + (n + 1 + 1) = 142 + n + 2 := by omega
  have b3 : 142 + (n + 1 + 2) = 142 + n + 3 := by omega
  have b4 : 142 + (n + 1 + 3) = 142 + n + 4 := by omega
  have b5 : 142 + (n + 1 + 4) = 142 + n + 5 := by omega
  have b7 : 142 + (n + 1 + 5) = 142 + n + 6 := by omega
  have b8 : 142 + (n + 1 + 6) = 142 + n + 7 := by omega
  rw [b1] at k1 q1
  rw [b2] at k2 q2
  rw [b3] at k3 q3
  rw [b4] at k4 q4
  rw [b5] at k5 q5
  rw [b7] at k6 q7
  rw [b8] at k7 q8
  have n1 : p_nth (nTx m D) 0 = (1, m) := rfl
  have n2 : p_nth (nTx m D) 1 = (1, m) := rfl
  have n3 : p_nth (nTx m D) 2 = (1, m) := rfl
  have n4 : p_nth (nTx m D) 3 = (1, m) := rfl
  have n5 : p_nth (nTx m D) 4 = (1, m) := rfl
  have n6 : p_nth (nTx m D) 5 = (1, D) := rfl
  have n7 : p_nth (nTx m D) 6 = (1, D) := rfl
  rw [n1] at k1; rw [n2] at k2; rw [n3] at k3; rw [n4] at k4; rw [n5] at k5; rw [n6] at k6; rw [n7] at k7
  clear a75 mn ml j1 b1 b2 b3 b4 b5 b7 b8 n1 n2 n3 n4 n5 n6 n7
  simp -implicitDefEqProofs (disch := first | omega | decide) only [P_m, pw_new, pw_dupi, pw_dupr, pw_aload_n0, pw_aloadN_n0, pw_getI, pw_ip3, pw_astore_n1, pw_astoreN_n1, ps_1, pe_1, po_i1, po_r1, po_n1, po_u1, pw_aload_n1, pw_aloadN_n1, pw_putI, pw_getR, pw_iconst, il_0, pw_copy, pw_aret, pw_aretN, kd_36, rf_36_1, rf_36_2, rf_36_3, rf_36_4, rf_36_5, rf_36_7, rf_36_8, kd_37, kd_38, kd_39, kd_40, kd_41, kd_42, kd_43, n_0, n_1, nn_lt, nn_nlt, nn_le, nn_nle, nn_ne, nn_sub, nn_mul, nI_add, nn_neg, nm_eq, mn_eq, mm_eq, mn_lt, nm_lt, mn_le, nm_le, nn_sub0, nn_of, implies_true, nn_c, nn_in, nn_div, nat_rem, Nat.reduceMul, Nat.reduceSub, Nat.reduceDiv, Nat.reduceMod, pf_at, pf_ne, mk_s, mk_1, Classical.not_not, b2i_T, b2i_F, false_imp_iff, true_imp_iff, false_and, and_false, p_sw, Int.reduceAdd, Int.zero_add, Option.some.injEq, Value.int.injEq, Value.long.injEq, Value.ref.injEq, exists_eq_left', mk_I, mk_L, mk_wI, mk_wL, rf_s, rf_n, true_and, and_true, and_self, or_true, true_or, or_false, false_or, not_true_eq_false, not_false_eq_true, Option.toList_some, Option.toList_none, List.cons_append, List.nil_append, List.map_nil, List.map_cons, List.sum_nil, List.sum_cons, cat_i, cat_l, cat_r, cat_n, Nat.reduceLeDiff, Nat.reduceAdd, Nat.reduceEqDiff, Nat.zero_le, p_ent, p_u_ne, p_u_at, reduceIte, if_true, if_false, va_rs, kt, k1, k2, k3, k4, k5, k6, k7, q1, q2, q3, q4, q5, q7, q8, u0, u6, zf, zu]
  refine ⟨by omega, by omega, by omega, by omega, by omega, by omega, by omega, by omega, by omega, by omega, by omega, by omega, by omega, by omega, by omega, by omega, by omega, by omega, by omega, by omega, by omega, by omega, by omega, _, _, _, rfl, fun a ha => ?_, fun a ha => ?_, ?_, ?_, ?_⟩
  · rw [pf_ne (by omega), pf_ne (by omega), p_u_ne (by omega), pf_ne (by omega), pf_ne (by omega), pf_ne (by omega), pf_ne (by omega), pf_ne (by omega), p_u_ne (by omega)]
    exact jJ a ha
  · rw [s1 a (by omega) (by omega), pf_ne (by omega)]
  · exact ⟨by rw [r1]; congr 1, by rw [r2]; congr 1, by rw [r3]; congr 1, by rw [r4]; congr 1, by rw [r5]; congr 1, by rw [r7]; congr 1, by rw [r8]; congr 1⟩
  · rw [pf_ne (by omega), pf_ne (by omega), p_u_at, if_neg (by omega), pf_ne (by omega), pf_ne (by omega), pf_ne (by omega), pf_ne (by omega), pf_ne (by omega), p_u_at, if_pos rfl]
  · have cp : ∀ (f g : Nat → Int32) (k x : Nat), x < k → va_cpy f g 0 0 k x = f x := fun f g k x hx => by
      unfold va_cpy
      rw [if_pos (by omega), show 0 + (x - 0) = x by omega]
    obtain ⟨ct1, ct2⟩ := ct
    refine ⟨fun j hj c hc => ?_, fun j q hq => ?_⟩
    · obtain ⟨g1, g2, g3, g4, g5⟩ := ct1 j hj c hc
      rw [hmm] at hj
      refine ⟨?_, ?_, ?_, ?_, ?_⟩
      · rw [pf_ne (by omega), pf_ne (by omega), p_u_ne (by omega), pf_ne (by omega), pf_ne (by omega), pf_ne (by omega), pf_ne (by omega), pf_at, cp _ _ _ _ hj, jJ 37 (by omega)]; exact g1
      · rw [pf_ne (by omega), pf_ne (by omega), p_u_ne (by omega), pf_ne (by omega), pf_ne (by omega), pf_ne (by omega), pf_at, cp _ _ _ _ hj, jJ 38 (by omega)]; exact g2
      · rw [pf_ne (by omega), pf_ne (by omega), p_u_ne (by omega), pf_ne (by omega), pf_ne (by omega), pf_at, cp _ _ _ _ hj, jJ 39 (by omega)]; exact g3
      · rw [pf_ne (by omega), pf_ne (by omega), p_u_ne (by omega), pf_ne (by omega), pf_at, cp _ _ _ _ hj, jJ 40 (by omega)]; exact g4
      · rw [pf_ne (by omega), pf_ne (by omega), p_u_ne (by omega), pf_at, cp _ _ _ _ hj, jJ 41 (by omega)]; exact g5
    · have hj : j < D := by rw [← hdd]; exact (List.getElem?_eq_some_iff.mp hq).1
      obtain ⟨g7, g8⟩ := ct2 j q hq
      refine ⟨?_, ?_⟩
      · rw [pf_ne (by omega), pf_at, cp _ _ _ _ hj, jJ 42 (by omega)]; exact g7
      · rw [pf_at, cp _ _ _ _ hj, jJ 43 (by omega)]; exact g8
end NT
