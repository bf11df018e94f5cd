section OG
variable {d Ls : Nat} {I : Nat → Nat → Int32} {L : Nat → Nat → Int64} {R : Nat → Nat → Option Nat} {X : List pKd} {h : pHp} {c : Option (List tCl)} {K0 K : Nat → Int32}
def frO (I J : Nat → Nat → Int32) : Prop := (∀ a, ¬ a = 123 → ¬ a = 135 → ¬ a = 139 → ¬ a = 140 → J a = I a) ∧ ∀ k, k ≠ 22 → k ≠ 23 → k ≠ 24 → k ≠ 25 → k ≠ 36 → J 123 k = I 123 k
theorem frO_rf : frO I I := ⟨fun _ _ _ _ _ => rfl, fun _ _ _ _ _ _ => rfl⟩
theorem frO_tr {J H : Nat → Nat → Int32} (h1 : frO I J) (h2 : frO J H) : frO I H := ⟨fun a a1 a2 a3 a4 => (h2.1 a a1 a2 a3 a4).trans (h1.1 a a1 a2 a3 a4), fun k k1 k2 k3 k4 k5 => (h2.2 k k1 k2 k3 k4 k5).trans (h1.2 k k1 k2 k3 k4 k5)⟩
theorem frO_E {J : Nat → Nat → Int32} (h : frE I J) : frO I J := ⟨fun a a1 a2 _ _ => h.1 a a1 a2, fun k k1 k2 k3 k4 _ => h.2 k k1 k2 k3 k4⟩
/-- the best row yet, the reference's -/
def bsR (I : Nat → Nat → Int32) (b : oB) (P : Nat) : Prop := I 123 36 = pfI (b.map Prod.fst) ∧ ∀ t l, b = some (t, l) → l.length = P ∧ t ≤ 9999 ∧ ∀ j, j < P → I 140 j = nI (l.getD j 0)
theorem bsR_f {J : Nat → Nat → Int32} {b : oB} {P : Nat} (h : bsR I b P) (e1 : J 123 36 = I 123 36) (e2 : J 140 = I 140) : bsR J b P := by
  unfold bsR
  rw [e1, e2]
  exact h
theorem bsR_y {b : oB} {P u : Nat} (h : bsR I b P) (hu : lsT u b) : ∃ B, I 123 36 = nI B ∧ B ≤ u := by
  obtain ⟨h1, h2⟩ := h
  match b, h1, h2, hu with
  | none, _, _, hu => exact hu.elim
  | some (t, l), h1, h2, hu => exact ⟨t, h1, hu⟩
theorem bsR_n {b : oB} {P u : Nat} (h : bsR I b P) (hu : ¬ lsT u b) (hu2 : u ≤ 9999) : ∃ B, I 123 36 = nI B ∧ u < B ∧ B ≤ 1000000 := by
  obtain ⟨h1, h2⟩ := h
  match b, h1, h2, hu with
  | none, h1, _, _ => exact ⟨1000000, h1, by omega, by omega⟩
  | some (t, l), h1, h2, hu =>
    refine ⟨t, h1, Nat.not_le.mp hu, ?_⟩
    have := (h2 t l rfl).2.1
    omega
theorem btr_s {u : Nat} {p : List Nat} {b : oB} (hu : ¬ lsT u b) : btr u p b = some (u, p) := by
  match b, hu with
  | none, _ => rfl
  | some (t, l), hu =>
    show (if u < t then some (u, p) else some (t, l)) = some (u, p)
    rw [if_pos (Nat.not_le.mp hu)]
theorem pl_241 {m P : Nat} (hm : m ≤ 8) (em : K0 53 = nI m) (hP : P ≤ 8) : ∀ f S u p b K I, pc S = f → S < 2 ^ m → p.length + f = P → kn K0 2 + u ≤ 9999 → Cm I K c → stK K0 c S u K → (∀ j, j < p.length → I 139 j = nI (p.getD j 0)) → bsR I b P → ∃ J, frO I J ∧ (∀ j, j < p.length → J 139 j = I 139 j) ∧ bsR J (dfs id (yL c K0) m f (255 - S) u p b) P ∧ P_m (f + 50) 241 [.ref 123, .int (nI S), .int (nI p.length), .int (nI (kn K0 2))] (p_mk Ls I L R X) (fun w h' => w = none ∧ h' = p_mk Ls J L R X) := by
  have pm : 2 ^ m ≤ 2 ^ 8 := Nat.pow_le_pow_right (by omega) hm
  intro f
  induction f with
  | zero =>
    intro S u p b K I hS hm2 hl hu hC hK hr hb
    have s0 : S = 0 := (bt_none S (by omega)).mp hS
    subst s0
    have a2 : I 125 2 = nI (kn K0 2 + u) := by rw [hC.1]; exact hK.1
    have sb : nI (kn K0 2 + u) - nI (kn K0 2) = nI u := by rw [nn_sub (by omega)]; congr 1; omega
    have hl' : p.length = P := by omega
    by_cases pr : lsT u b
    · obtain ⟨B, e, hB⟩ := bsR_y hb pr
      refine ⟨I, frO_rf, fun _ _ => rfl, ?_, ?_⟩
      · rw [dfs_prune pr]; exact hb
      · clear hb hr
        generalize kn K0 2 = A at *
        generalize p.length = PL at *
        simp -implicitDefEqProofs (disch := first | omega | decide) only [P_m, ↓P_run_eq _ 241 _ (p_bk 241 0), bk_241_0, pb_241_0, pw_aload_n0, pw_aloadN_n0, pw_getR, pw_iconst, il_2, pw_iald, pw_iload_n3, pw_isub, pw_getI, pw_clt, pw_vret, kd_123, rf_123_1, rf_123_2, rf_123_3, rf_123_4, rf_123_5, rf_123_7, rf_123_11, rf_123_12, rf_123_15, rf_123_16, rf_123_17, rf_123_26, rf_123_29, rf_123_30, rf_123_32, rf_123_34, rf_123_35, rf_123_45, kd_125, n_0, n_1, n_2, nn_lt, nn_nlt, nn_le, nn_nle, nn_ne, nn_sub, nn_mul, nI_add, nn_neg, nm_eq, mn_eq, mm_eq, mn_lt, nm_lt, mn_le, nm_le, nn_sub0, nn_of, implies_true, nn_c, nn_in, nn_div, nat_rem, Nat.reduceMul, Nat.reduceSub, Nat.reduceDiv, Nat.reduceMod, pf_at, pf_ne, mk_s, mk_1, Classical.not_not, b2i_T, b2i_F, false_imp_iff, true_imp_iff, false_and, and_false, p_sw, Int.reduceAdd, Int.zero_add, Option.some.injEq, Value.int.injEq, Value.long.injEq, Value.ref.injEq, exists_eq_left', mk_I, mk_L, mk_wI, mk_wL, rf_s, rf_n, true_and, and_true, and_self, or_true, true_or, or_false, false_or, not_true_eq_false, not_false_eq_true, Option.toList_some, Option.toList_none, List.cons_append, List.nil_append, List.map_nil, List.map_cons, List.sum_nil, List.sum_cons, cat_i, cat_l, cat_r, cat_n, Nat.reduceLeDiff, Nat.reduceAdd, Nat.reduceEqDiff, Nat.zero_le, p_ent, p_u_ne, p_u_at, reduceIte, if_true, if_false, a2, sb, e]
    · obtain ⟨B, e, hB, hB2⟩ := bsR_n hb pr (by omega)
      obtain ⟨J, fJ, s⟩ := pl_240 (d := 49) (Ls := Ls) (I := I) (L := L) (R := R) (X := X) (p := p.length) (v := nI u) (by omega)
      obtain ⟨f1, f2, f3, f4⟩ := fJ
      refine ⟨J, ⟨fun a a1 _ _ a4 => f1 a a1 a4, fun k _ _ _ _ k5 => f2 k k5⟩, fun j hj => by rw [f1 139 (by omega) (by omega)], ?_, ?_⟩
      · show bsR J (btr u p b) P
        rw [btr_s pr]
        refine ⟨f3, fun t l hh => ?_⟩
        cases hh
        exact ⟨hl', by omega, fun j hj => by rw [f4 j (by omega), hr j (by omega)]⟩
      · clear hb hr
        generalize kn K0 2 = A at *
        generalize p.length = PL at *
        simp -implicitDefEqProofs (disch := first | omega | decide) only [P_m, ↓P_run_eq _ 241 _ (p_bk 241 0), bk_241_0, pb_241_0, ↓P_run_eq _ 241 _ (p_bk 241 1), bk_241_1, pb_241_1, pw_aload_n0, pw_aloadN_n0, pw_getR, pw_iconst, il_2, pw_iald, pw_iload_n3, pw_isub, pw_getI, pw_clt, pw_vret, pw_iload_n1, pw_zne, pw_iload_n2, pw_iv3, kd_123, rf_123_1, rf_123_2, rf_123_3, rf_123_4, rf_123_5, rf_123_7, rf_123_11, rf_123_12, rf_123_15, rf_123_16, rf_123_17, rf_123_26, rf_123_29, rf_123_30, rf_123_32, rf_123_34, rf_123_35, rf_123_45, kd_125, n_0, n_1, n_2, nn_lt, nn_nlt, nn_le, nn_nle, nn_ne, nn_sub, nn_mul, nI_add, nn_neg, nm_eq, mn_eq, mm_eq, mn_lt, nm_lt, mn_le, nm_le, nn_sub0, nn_of, implies_true, nn_c, nn_in, nn_div, nat_rem, Nat.reduceMul, Nat.reduceSub, Nat.reduceDiv, Nat.reduceMod, pf_at, pf_ne, mk_s, mk_1, Classical.not_not, b2i_T, b2i_F, false_imp_iff, true_imp_iff, false_and, and_false, p_sw, Int.reduceAdd, Int.zero_add, Option.some.injEq, Value.int.injEq, Value.long.injEq, Value.ref.injEq, exists_eq_left', mk_I, mk_L, mk_wI, mk_wL, rf_s, rf_n, true_and, and_true, and_self, or_true, true_or, or_false, false_or, not_true_eq_false, not_false_eq_true, Option.toList_some, Option.toList_none, List.cons_append, List.nil_append, List.map_nil, List.map_cons, List.sum_nil, List.sum_cons, cat_i, cat_l, cat_r, cat_n, Nat.reduceLeDiff, Nat.reduceAdd, Nat.reduceEqDiff, Nat.zero_le, p_ent, p_u_ne, p_u_at, reduceIte, if_true, if_false, a2, sb, e, P_ce s]
  | succ f ih =>
    intro S u p b K I hS hm2 hl hu hC hK hr hb
    have S0 : ¬ S = 0 := fun h => by
      have := (bt_none S (by omega)).mpr h
      omega
    have a2 : I 125 2 = nI (kn K0 2 + u) := by rw [hC.1]; exact hK.1
    have sb : nI (kn K0 2 + u) - nI (kn K0 2) = nI u := by rw [nn_sub (by omega)]; congr 1; omega
    by_cases pr : lsT u b
    · obtain ⟨B, e, hB⟩ := bsR_y hb pr
      refine ⟨I, frO_rf, fun _ _ => rfl, ?_, ?_⟩
      · rw [dfs_prune pr]; exact hb
      · clear hb hr ih
        rw [show f + 1 + 50 = f + 50 + 1 by omega]
        generalize kn K0 2 = A at *
        generalize p.length = PL at *
        simp -implicitDefEqProofs (disch := first | omega | decide) only [P_m, ↓P_run_eq _ 241 _ (p_bk 241 0), bk_241_0, pb_241_0, pw_aload_n0, pw_aloadN_n0, pw_getR, pw_iconst, il_2, pw_iald, pw_iload_n3, pw_isub, pw_getI, pw_clt, pw_vret, kd_123, rf_123_1, rf_123_2, rf_123_3, rf_123_4, rf_123_5, rf_123_7, rf_123_11, rf_123_12, rf_123_15, rf_123_16, rf_123_17, rf_123_26, rf_123_29, rf_123_30, rf_123_32, rf_123_34, rf_123_35, rf_123_45, kd_125, n_0, n_1, n_2, nn_lt, nn_nlt, nn_le, nn_nle, nn_ne, nn_sub, nn_mul, nI_add, nn_neg, nm_eq, mn_eq, mm_eq, mn_lt, nm_lt, mn_le, nm_le, nn_sub0, nn_of, implies_true, nn_c, nn_in, nn_div, nat_rem, Nat.reduceMul, Nat.reduceSub, Nat.reduceDiv, Nat.reduceMod, pf_at, pf_ne, mk_s, mk_1, Classical.not_not, b2i_T, b2i_F, false_imp_iff, true_imp_iff, false_and, and_false, p_sw, Int.reduceAdd, Int.zero_add, Option.some.injEq, Value.int.injEq, Value.long.injEq, Value.ref.injEq, exists_eq_left', mk_I, mk_L, mk_wI, mk_wL, rf_s, rf_n, true_and, and_true, and_self, or_true, true_or, or_false, false_or, not_true_eq_false, not_false_eq_true, Option.toList_some, Option.toList_none, List.cons_append, List.nil_append, List.map_nil, List.map_cons, List.sum_nil, List.sum_cons, cat_i, cat_l, cat_r, cat_n, Nat.reduceLeDiff, Nat.reduceAdd, Nat.reduceEqDiff, Nat.zero_le, p_ent, p_u_ne, p_u_at, reduceIte, if_true, if_false, a2, sb, e]
    · obtain ⟨B, e, hB, hB2⟩ := bsR_n hb pr (by omega)
      have hpl : p.length < 8 := by omega
      have loop : ∀ q, q ≤ m → ∀ J, frO I J → (∀ j, j < p.length → J 139 j = I 139 j) → bsR J (foB (fun i b => if bt (255 - S) i = 1 then b else match yL c K0 i u with
          | none => b
          | some t => dfs id (yL c K0) m f (255 - S + 2 ^ i) (u + t) (p ++ [id i]) b) q b) P → P_run (f + 50 + 1) 241 (p_bk 241 3) 0 0 [.ref 123, .int (nI S), .int (nI p.length), .int (nI (kn K0 2)), .int (nI q)] [] (p_mk Ls J L R X) (fun w h' => w = none ∧ ∃ J', (frO I J' ∧ (∀ j, j < p.length → J' 139 j = I 139 j) ∧ bsR J' (dfs id (yL c K0) m (f + 1) (255 - S) u p b) P) ∧ h' = p_mk Ls J' L R X) := by
        refine down_ind ?_ ?_
        · intro J fJ rJ bJ
          have e53 : J 125 53 = nI m := by rw [fJ.1 125 (by omega) (by omega) (by omega) (by omega), hC.1, stK_e hK (by omega) (by omega)]; exact em
          generalize kn K0 2 = A at *
          generalize p.length = PL at *
          rw [P_run_eq, bk_241_3, pb_241_3]; simp -implicitDefEqProofs (disch := first | omega | decide) only [P_m, ↓P_run_eq _ 241 _ (p_bk 241 6), bk_241_6, pb_241_6, pw_iload_4, pw_aload_n0, pw_aloadN_n0, pw_getR, pw_bipush, bl_53, pw_iald, pw_cge, pw_iload_n1, pw_is2, pw_zeq, pw_iv2, pw_zne, pw_goto, pw_vret, kd_123, rf_123_1, rf_123_2, rf_123_3, rf_123_4, rf_123_5, rf_123_7, rf_123_11, rf_123_12, rf_123_15, rf_123_16, rf_123_17, rf_123_26, rf_123_29, rf_123_30, rf_123_32, rf_123_34, rf_123_35, rf_123_45, kd_125, n_0, n_1, n_53, nn_lt, nn_nlt, nn_le, nn_nle, nn_ne, nn_sub, nn_mul, nI_add, nn_neg, nm_eq, mn_eq, mm_eq, mn_lt, nm_lt, mn_le, nm_le, nn_sub0, nn_of, implies_true, nn_c, nn_in, nn_div, nat_rem, Nat.reduceMul, Nat.reduceSub, Nat.reduceDiv, Nat.reduceMod, pf_at, pf_ne, mk_s, mk_1, Classical.not_not, b2i_T, b2i_F, false_imp_iff, true_imp_iff, false_and, and_false, p_sw, Int.reduceAdd, Int.zero_add, Option.some.injEq, Value.int.injEq, Value.long.injEq, Value.ref.injEq, exists_eq_left', mk_I, mk_L, mk_wI, mk_wL, rf_s, rf_n, true_and, and_true, and_self, or_true, true_or, or_false, false_or, not_true_eq_false, not_false_eq_true, Option.toList_some, Option.toList_none, List.cons_append, List.nil_append, List.map_nil, List.map_cons, List.sum_nil, List.sum_cons, cat_i, cat_l, cat_r, cat_n, Nat.reduceLeDiff, Nat.reduceAdd, Nat.reduceEqDiff, Nat.zero_le, p_ent, p_u_ne, p_u_at, reduceIte, if_true, if_false, e53]
          exact ⟨J, ⟨fJ, rJ, bJ⟩, rfl⟩
        · intro q hq nx J fJ rJ bJ
          have hCJ : Cm J K c := ⟨(fJ.1 125 (by omega) (by omega) (by omega) (by omega)).trans hC.1, hC.2⟩
          have e53 : J 125 53 = nI m := by rw [hCJ.1, stK_e hK (by omega) (by omega)]; exact em
          have sb1 := sp_131n (d := f + 50) (h := p_mk Ls J L R X) (s := S) (t := q) (by omega) (by omega)
          have q8 : q < 8 := by omega
          have b5 := bt_255 S (by omega) q q8
          have fs : ∀ g, foB g (q + 1) b = g q (foB g q b) := fun g => rfl
          rw [fs] at nx
          generalize hB0 : foB (fun i b => if bt (255 - S) i = 1 then b else match yL c K0 i u with
            | none => b
            | some t => dfs id (yL c K0) m f (255 - S + 2 ^ i) (u + t) (p ++ [id i]) b) q b = b0 at *
          rcases bt_01 S q with e0 | e0
          · rw [e0] at sb1 b5
            replace nx := nx J fJ rJ (by rw [if_pos (by omega)]; exact bJ)
            clear ih bJ
            generalize dfs id (yL c K0) m (f + 1) (255 - S) u p b = Z at *
            generalize kn K0 2 = A at *
            generalize p.length = PL at *
            rw [P_run_eq, bk_241_3, pb_241_3]; simp -implicitDefEqProofs (disch := first | omega | decide) only [P_m, ↓P_run_eq _ 241 _ (p_bk 241 5), bk_241_5, pb_241_5, pw_iload_4, pw_aload_n0, pw_aloadN_n0, pw_getR, pw_bipush, bl_53, pw_iald, pw_cge, pw_iload_n1, pw_is2, pw_zeq, pw_iv2, pw_zne, pw_goto, pw_iinc_4, il_1, po_i4, po_r4, po_n4, po_u4, kd_123, rf_123_1, rf_123_2, rf_123_3, rf_123_4, rf_123_5, rf_123_7, rf_123_11, rf_123_12, rf_123_15, rf_123_16, rf_123_17, rf_123_26, rf_123_29, rf_123_30, rf_123_32, rf_123_34, rf_123_35, rf_123_45, kd_125, n_0, n_1, n_53, nn_lt, nn_nlt, nn_le, nn_nle, nn_ne, nn_sub, nn_mul, nI_add, nn_neg, nm_eq, mn_eq, mm_eq, mn_lt, nm_lt, mn_le, nm_le, nn_sub0, nn_of, implies_true, nn_c, nn_in, nn_div, nat_rem, Nat.reduceMul, Nat.reduceSub, Nat.reduceDiv, Nat.reduceMod, pf_at, pf_ne, mk_s, mk_1, Classical.not_not, b2i_T, b2i_F, false_imp_iff, true_imp_iff, false_and, and_false, p_sw, Int.reduceAdd, Int.zero_add, Option.some.injEq, Value.int.injEq, Value.long.injEq, Value.ref.injEq, exists_eq_left', mk_I, mk_L, mk_wI, mk_wL, rf_s, rf_n, true_and, and_true, and_self, or_true, true_or, or_false, false_or, not_true_eq_false, not_false_eq_true, Option.toList_some, Option.toList_none, List.cons_append, List.nil_append, List.map_nil, List.map_cons, List.sum_nil, List.sum_cons, cat_i, cat_l, cat_r, cat_n, Nat.reduceLeDiff, Nat.reduceAdd, Nat.reduceEqDiff, Nat.zero_le, p_ent, p_u_ne, p_u_at, reduceIte, if_true, if_false, e53, P_ce sb1]
            exact nx
          · rw [e0] at sb1 b5
            obtain ⟨J1, f1, s1⟩ := may_m (Ls := Ls) (L := L) (R := R) (X := X) (D := f + 50) hCJ q8 (by omega)
            rw [if_neg (by omega)] at nx
            rcases stK_may hK (by omega) q8 e0 with ⟨y1, y2⟩ | ⟨y1, y2, y3⟩
            · rw [y2, bI_f] at s1
              rw [y1] at nx
              replace nx := nx J1 (frO_tr fJ (frO_E f1)) (fun j hj => by rw [f1.1 139 (by omega) (by omega)]; exact rJ j hj) (bsR_f bJ (f1.2 36 (by omega) (by omega) (by omega) (by omega)) (f1.1 140 (by omega) (by omega)))
              clear ih bJ
              generalize dfs id (yL c K0) m (f + 1) (255 - S) u p b = Z at *
              generalize kn K0 2 = A at *
              generalize p.length = PL at *
              rw [P_run_eq, bk_241_3, pb_241_3]; simp -implicitDefEqProofs (disch := first | omega | decide) only [P_m, ↓P_run_eq _ 241 _ (p_bk 241 5), bk_241_5, pb_241_5, pw_iload_4, pw_aload_n0, pw_aloadN_n0, pw_getR, pw_bipush, bl_53, pw_iald, pw_cge, pw_iload_n1, pw_is2, pw_zeq, pw_iv2, pw_zne, pw_goto, pw_iinc_4, il_1, po_i4, po_r4, po_n4, po_u4, kd_123, rf_123_1, rf_123_2, rf_123_3, rf_123_4, rf_123_5, rf_123_7, rf_123_11, rf_123_12, rf_123_15, rf_123_16, rf_123_17, rf_123_26, rf_123_29, rf_123_30, rf_123_32, rf_123_34, rf_123_35, rf_123_45, kd_125, n_0, n_1, n_53, nn_lt, nn_nlt, nn_le, nn_nle, nn_ne, nn_sub, nn_mul, nI_add, nn_neg, nm_eq, mn_eq, mm_eq, mn_lt, nm_lt, mn_le, nm_le, nn_sub0, nn_of, implies_true, nn_c, nn_in, nn_div, nat_rem, Nat.reduceMul, Nat.reduceSub, Nat.reduceDiv, Nat.reduceMod, pf_at, pf_ne, mk_s, mk_1, Classical.not_not, b2i_T, b2i_F, false_imp_iff, true_imp_iff, false_and, and_false, p_sw, Int.reduceAdd, Int.zero_add, Option.some.injEq, Value.int.injEq, Value.long.injEq, Value.ref.injEq, exists_eq_left', mk_I, mk_L, mk_wI, mk_wL, rf_s, rf_n, true_and, and_true, and_self, or_true, true_or, or_false, false_or, not_true_eq_false, not_false_eq_true, Option.toList_some, Option.toList_none, List.cons_append, List.nil_append, List.map_nil, List.map_cons, List.sum_nil, List.sum_cons, cat_i, cat_l, cat_r, cat_n, Nat.reduceLeDiff, Nat.reduceAdd, Nat.reduceEqDiff, Nat.zero_le, p_ent, p_u_ne, p_u_at, reduceIte, if_true, if_false, e53, P_ce sb1, P_ce s1]
              exact nx
            · rw [y3, bI_t] at s1
              rw [y1] at nx
              have k2 := stK_kn2 hK (by omega)
              obtain ⟨r1, r2, r3, r4⟩ := bt_rm S (by omega) q q8 e0
              have q0 : 0 < 2 ^ q := Nat.two_pow_pos q
              have S8 : S < 256 := by omega
              have e255 : 255 - (S - 2 ^ q) = 255 - S + 2 ^ q := by
                generalize 2 ^ q = Q2 at *
                omega
              have lt2 : S - 2 ^ q < 2 ^ m := by omega
              have hV := hK.2.2.1
              have h5q : K (5 + q) = nI (kn K (5 + q)) ∧ kn K (5 + q) ≤ 999 := by
                have := kn_e hV (j := 5 + q) (by omega) (by omega) (by omega)
                rw [mx_5 q q8] at this
                exact this
              have yle := (yv_e (c := c) (vld_env hV q8) (pc_le (kn K 0))).2
              have hC1 : Cm J1 K c := Cm_E hCJ f1
              have hC2 : Cm (p_u J1 139 p.length (nI q)) K c := ⟨by rw [p_u_ne (by omega)]; exact hC1.1, hC1.2⟩
              obtain ⟨J3, f3, s3⟩ := ages_m (Ls := Ls) (L := L) (R := R) (X := X) (D := f + 50) hC2 q8 (by omega) ⟨by omega, h5q.1⟩ ⟨by omega, by rw [k2]; exact hK.1⟩
              have st3 := stK_s (t := yv c K q (pc (kn K 0))) hK (by omega) q8 e0 (by omega)
              rw [← k2] at st3
              have e3 : J3 125 = upd (upd K 2 (nI (kn K 2 + yv c K q (pc (kn K 0))))) (5 + q) (nI (min (kn K (5 + q) + 1) 999)) := by rw [f3.1 125 (by omega) (by omega), pf_at]
              have o3 : ∀ a, ¬ a = 123 → ¬ a = 135 → ¬ a = 139 → ¬ a = 125 → J3 a = J1 a := fun a a1 a2 a3 a4 => by rw [f3.1 a a1 a2, pf_ne a4, p_u_ne a3]
              have o4 : ∀ k, k ≠ 22 → k ≠ 23 → k ≠ 24 → k ≠ 25 → J3 123 k = J1 123 k := fun k k1 k2 k3 k4 => by rw [f3.2 k k1 k2 k3 k4, pf_ne (by omega), p_u_ne (by omega)]
              have o5 : ∀ j, J3 139 j = if j = p.length then nI q else J1 139 j := fun j => by rw [f3.1 139 (by omega) (by omega), pf_ne (by omega), p_u_at]
              have lp1 : (p ++ [q]).length = p.length + 1 := by simp
              obtain ⟨J4, f4, g4, b4, s4⟩ := ih (S - 2 ^ q) (u + yv c K q (pc (kn K 0))) (p ++ [q]) b0 _ J3 (by omega) lt2 (by omega) (by omega) ⟨e3, st3.2.2⟩ st3 (fun j hj => by
                rw [o5 j]
                by_cases ej : j = p.length
                · subst ej
                  rw [if_pos rfl]
                  simp
                · rw [if_neg ej, f1.1 139 (by omega) (by omega), rJ j (by omega), hr j (by omega)]
                  rw [gd_ap (by omega)]) (bsR_f bJ (by rw [o4 36 (by omega) (by omega) (by omega) (by omega)]; exact f1.2 36 (by omega) (by omega) (by omega) (by omega)) (by rw [o3 140 (by omega) (by omega) (by omega) (by omega)]; exact f1.1 140 (by omega) (by omega)))
              rw [e255] at b4
              rw [lp1] at s4
              have a2' : J1 125 2 = K 2 := by rw [hC1.1]
              have a5' : J1 125 (5 + q) = K (5 + q) := by rw [hC1.1]
              have e5 : p_u (p_u J4 125 2 (K 2)) 125 (5 + q) (K (5 + q)) 125 = K := by
                funext j
                rw [p_u_at]
                by_cases c1 : j = 5 + q
                · rw [if_pos c1, c1]
                · rw [if_neg c1, p_u_at]
                  by_cases c2 : j = 2
                  · rw [if_pos c2, c2]
                  · rw [if_neg c2, f4.1 125 (by omega) (by omega) (by omega) (by omega), e3, upd_ne c1, upd_ne c2]
              replace nx := nx (p_u (p_u J4 125 2 (K 2)) 125 (5 + q) (K (5 + q))) ⟨fun a a1 a2 a3 a4 => by
                by_cases ea : a = 125
                · subst ea; rw [e5, hC.1]
                · rw [p_u_ne ea, p_u_ne ea, f4.1 a a1 a2 a3 a4, o3 a a1 a2 a3 ea, f1.1 a a1 a2]; exact fJ.1 a a1 a2 a3 a4, fun k k1 k2 k3 k4 k5 => by rw [p_u_ne (by omega), p_u_ne (by omega), f4.2 k k1 k2 k3 k4 k5, o4 k k1 k2 k3 k4, f1.2 k k1 k2 k3 k4]; exact fJ.2 k k1 k2 k3 k4 k5⟩ (fun j hj => by rw [p_u_ne (by omega), p_u_ne (by omega), g4 j (by omega), o5 j, if_neg (by omega), f1.1 139 (by omega) (by omega)]; exact rJ j hj) (bsR_f b4 (by rw [p_u_ne (by omega), p_u_ne (by omega)]) (by rw [p_u_ne (by omega), p_u_ne (by omega)]))
              have sh := shl_n8 (t := q) (by omega)
              clear ih bJ b4 st3 hC2 hC1 hB0
              generalize dfs id (yL c K0) m (f + 1) (255 - S) u p b = Z at *
              generalize kn K0 2 = A at *
              generalize p.length = PL at *
              generalize K (5 + q) = V5 at *
              generalize K 2 = V2 at *
              generalize S - 2 ^ q = S' at *
              generalize 2 ^ q = Q2 at *
              rw [P_run_eq, bk_241_3, pb_241_3]; simp -implicitDefEqProofs (disch := first | omega | decide) only [P_m, ↓P_run_eq _ 241 _ (p_bk 241 4), bk_241_4, pb_241_4, ↓P_run_eq _ 241 _ (p_bk 241 5), bk_241_5, pb_241_5, pw_iload_4, pw_aload_n0, pw_aloadN_n0, pw_getR, pw_bipush, bl_53, pw_iald, pw_cge, pw_iload_n1, pw_is2, pw_zeq, pw_iv2, pw_zne, pw_goto, pw_iconst, il_2, pw_istore, ps_5, pe_5, po_i5, po_r5, po_n5, po_u5, il_5, pw_iadd, ps_6, pe_6, po_i6, po_r6, po_n6, po_u6, pw_iload_n2, pw_iast, il_1, pw_ishl, il_m1, pw_ixor, pw_iand, pw_iload_n3, pw_iv4, pw_iload_5, pw_iload_6, pw_nop, pw_iinc_4, po_i4, po_r4, po_n4, po_u4, kd_123, rf_123_1, rf_123_2, rf_123_3, rf_123_4, rf_123_5, rf_123_7, rf_123_11, rf_123_12, rf_123_15, rf_123_16, rf_123_17, rf_123_26, rf_123_29, rf_123_30, rf_123_32, rf_123_34, rf_123_35, rf_123_45, kd_125, kd_139, n_0, n_1, n_2, n_5, n_53, nn_lt, nn_nlt, nn_le, nn_nle, nn_ne, nn_sub, nn_mul, nI_add, nn_neg, nm_eq, mn_eq, mm_eq, mn_lt, nm_lt, mn_le, nm_le, nn_sub0, nn_of, implies_true, nn_c, nn_in, nn_div, nat_rem, Nat.reduceMul, Nat.reduceSub, Nat.reduceDiv, Nat.reduceMod, pf_at, pf_ne, mk_s, mk_1, Classical.not_not, b2i_T, b2i_F, false_imp_iff, true_imp_iff, false_and, and_false, p_sw, Int.reduceAdd, Int.zero_add, Option.some.injEq, Value.int.injEq, Value.long.injEq, Value.ref.injEq, exists_eq_left', mk_I, mk_L, mk_wI, mk_wL, rf_s, rf_n, true_and, and_true, and_self, or_true, true_or, or_false, false_or, not_true_eq_false, not_false_eq_true, Option.toList_some, Option.toList_none, List.cons_append, List.nil_append, List.map_nil, List.map_cons, List.sum_nil, List.sum_cons, cat_i, cat_l, cat_r, cat_n, Nat.reduceLeDiff, Nat.reduceAdd, Nat.reduceEqDiff, Nat.zero_le, p_ent, p_u_ne, p_u_at, reduceIte, if_true, if_false, e53, sh, r4, a2', a5', P_ce sb1, P_ce s1, P_ce s3, P_ce s4]
              exact P_ls nx two_l
      have st := loop 0 (by omega) I frO_rf (fun _ _ => rfl) hb
      have all : P_m (f + 1 + 50) 241 [.ref 123, .int (nI S), .int (nI p.length), .int (nI (kn K0 2))] (p_mk Ls I L R X) (fun w h' => w = none ∧ ∃ J', (frO I J' ∧ (∀ j, j < p.length → J' 139 j = I 139 j) ∧ bsR J' (dfs id (yL c K0) m (f + 1) (255 - S) u p b) P) ∧ h' = p_mk Ls J' L R X) := by
        clear ih loop
        rw [show f + 1 + 50 = f + 50 + 1 by omega]
        generalize dfs id (yL c K0) m (f + 1) (255 - S) u p b = Z at *
        generalize kn K0 2 = A at *
        generalize p.length = PL at *
        simp -implicitDefEqProofs (disch := first | omega | decide) only [P_m, ↓P_run_eq _ 241 _ (p_bk 241 0), bk_241_0, pb_241_0, ↓P_run_eq _ 241 _ (p_bk 241 1), bk_241_1, pb_241_1, ↓P_run_eq _ 241 _ (p_bk 241 2), bk_241_2, pb_241_2, pw_aload_n0, pw_aloadN_n0, pw_getR, pw_iconst, il_2, pw_iald, pw_iload_n3, pw_isub, pw_getI, pw_clt, pw_vret, pw_iload_n1, pw_zne, pw_iload_n2, pw_iv3, il_0, pw_istore, ps_4, pe_4, po_i4, po_r4, po_n4, po_u4, pw_nop, kd_123, rf_123_1, rf_123_2, rf_123_3, rf_123_4, rf_123_5, rf_123_7, rf_123_11, rf_123_12, rf_123_15, rf_123_16, rf_123_17, rf_123_26, rf_123_29, rf_123_30, rf_123_32, rf_123_34, rf_123_35, rf_123_45, kd_125, n_0, n_1, n_2, nn_lt, nn_nlt, nn_le, nn_nle, nn_ne, nn_sub, nn_mul, nI_add, nn_neg, nm_eq, mn_eq, mm_eq, mn_lt, nm_lt, mn_le, nm_le, nn_sub0, nn_of, implies_true, nn_c, nn_in, nn_div, nat_rem, Nat.reduceMul, Nat.reduceSub, Nat.reduceDiv, Nat.reduceMod, pf_at, pf_ne, mk_s, mk_1, Classical.not_not, b2i_T, b2i_F, false_imp_iff, true_imp_iff, false_and, and_false, p_sw, Int.reduceAdd, Int.zero_add, Option.some.injEq, Value.int.injEq, Value.long.injEq, Value.ref.injEq, exists_eq_left', mk_I, mk_L, mk_wI, mk_wL, rf_s, rf_n, true_and, and_true, and_self, or_true, true_or, or_false, false_or, not_true_eq_false, not_false_eq_true, Option.toList_some, Option.toList_none, List.cons_append, List.nil_append, List.map_nil, List.map_cons, List.sum_nil, List.sum_cons, cat_i, cat_l, cat_r, cat_n, Nat.reduceLeDiff, Nat.reduceAdd, Nat.reduceEqDiff, Nat.zero_le, p_ent, p_u_ne, p_u_at, reduceIte, if_true, if_false, a2, sb, e, S0]
        exact st
      obtain ⟨w, g, ⟨rfl, J', ⟨f1, f2, f3⟩, rfl⟩, s⟩ := P_mex all
      exact ⟨J', f1, f2, f3, s⟩
end OG
