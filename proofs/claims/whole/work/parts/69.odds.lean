/-! ODDS, APART, SHARE -/
theorem odd_n : ∀ a, a < 4 → ∀ t, t < 2 → (nI a - nI t) &&& nI 3 = nI ((a + 4 - t) % 4) := by decide +kernel
def apF (f : Nat → Bool) (y : Nat → Nat) : Nat → Option (Nat × Nat)
  | 0 => none
  | q + 1 => if f q = true then (match apF f y q with
    | none => some (q, y q)
    | some b => if y q < b.2 then some (q, y q) else some b) else apF f y q
def apB : Option (Nat × Nat) → Int32
  | none => mI 1
  | some b => nI b.1
def apL (z : Nat) : Option (Nat × Nat) → Nat
  | none => z
  | some b => b.2
theorem apF_le {f : Nat → Bool} {y : Nat → Nat} {m : Nat} (hy : ∀ q, q < m → y q ≤ 99) : ∀ q, q ≤ m → ∀ b, apF f y q = some b → b.1 < m ∧ b.2 ≤ 99
  | 0, _, b, h => by cases h
  | q + 1, hq, b, h => by
    have ih := apF_le (f := f) hy q (by omega)
    unfold apF at h
    split at h
    · split at h
      · cases h; exact ⟨by show q < m; omega, hy q (by omega)⟩
      · rename_i hb
        split at h
        · cases h; exact ⟨by show q < m; omega, hy q (by omega)⟩
        · cases h; exact ih _ hb
    · exact ih b h
/-- how many visitors want a question -/
def wtF (w : Nat → Nat) (q : Nat) : Nat → Nat
  | 0 => 0
  | n + 1 => wtF w q n + bt (w n) q
theorem wtF_le {w : Nat → Nat} {q : Nat} : ∀ n, wtF w q n ≤ n
  | 0 => Nat.le_refl _
  | n + 1 => by
    have := wtF_le (w := w) (q := q) n
    have := bt_01 (w n) q
    unfold wtF; omega
theorem wtF_pos {w : Nat → Nat} {q v : Nat} (h : bt (w v) q = 1) : ∀ n, v < n → 1 ≤ wtF w q n
  | 0, h => by omega
  | n + 1, hv => by
    unfold wtF
    by_cases e : v = n
    · subst e; omega
    · have := wtF_pos h n (by omega); omega
def shF (y : Nat → Nat) (w : Nat → Nat) (u nv : Nat) : Nat → Nat
  | 0 => 0
  | q + 1 => shF y w u nv q + (if bt u q = 1 then 60 * y q / wtF w q nv else 0)
theorem shF_le {y w : Nat → Nat} {u nv : Nat} : ∀ q, (∀ j, j < q → y j ≤ 99) → shF y w u nv q ≤ 5940 * q
  | 0, _ => Nat.le_refl _
  | q + 1, h => by
    have h1 := shF_le (y := y) (w := w) (u := u) (nv := nv) q (fun j hj => h j (by omega))
    have h2 := h q (by omega)
    have h3 : 60 * y q / wtF w q nv ≤ 60 * y q := Nat.div_le_self _ _
    unfold shF
    split <;> omega
section OD
variable {d Ls : Nat} {I : Nat → Nat → Int32} {L : Nat → Nat → Int64} {R : Nat → Nat → Option Nat} {X : List pKd} {c : Option (List tCl)}
theorem q_odds (w v : Int32) (H : Inv I R X) : Same (d + 60) 101 223 [.int w, .int v] Ls (p_mk Ls I L R X) := by
  obtain ⟨c, hx⟩ := Inv_cx (Ls := Ls) H
  have hV := hx.2.2.1
  obtain ⟨m1, m2⟩ := kn_53 hV
  obtain ⟨t1, t2⟩ := kn_52 hV
  obtain ⟨k1, k2, k3⟩ := kn_0 hV
  obtain ⟨⟨r1, r2, r3, r4, r5, r6, r7, r8⟩, -, ra, -⟩ := hutR_at hx.1
  have r2' := r2.trans m1
  have r1' := r1.trans t1
  have r4' := r4.trans k1
  obtain ⟨g, hg, gw1, gw2⟩ := Kw H
  have s8 := sp_8 (d := d + 59) (Ls := Ls) (I := I) (L := L) (R := R) (X := X) w
  rw [r2'] at s8
  have s139 := fun (J : Nat → Nat → Int32) (h : J 125 = I 125) => by
    have := sp_139 (d := d + 58) (Ls := Ls) (I := J) (L := L) (R := R) (X := X) w
    rw [h, m1] at this
    exact this
  have out : (¬ (0 ≤ w ∧ w < nI (kn (I 125) 53)) ∧ ¬ (0 ≤ w ∧ w ≤ nI (kn (I 125) 53) - 1)) ∨ ¬ (0 ≤ v ∧ v ≤ 3) → Same (d + 60) 101 223 [.int w, .int v] Ls (p_mk Ls I L R X) := by
    intro ho
    rcases rg_n w (m := kn (I 125) 53) (by omega) with ⟨q, hq, rfl⟩ | ⟨n1, n2⟩
    · obtain ⟨g1, g2⟩ := rg_t hq (by omega)
      have nv : ¬ (0 ≤ v ∧ v ≤ 3) := ho.resolve_left (fun h => h.1 g1)
      rw [show b2i (0 ≤ nI q ∧ nI q < nI (kn (I 125) 53)) = 1 from b2i_t g1] at s8
      have s9 := s139 I rfl
      rw [show b2i (0 ≤ nI q ∧ nI q ≤ nI (kn (I 125) 53) - 1) = 1 from b2i_t g2] at s9
      have b0 : b2i (0 ≤ v ∧ v ≤ 3) = 0 := b2i_f nv
      by_cases v0 : v < 0
      · simp -implicitDefEqProofs only [P_m, ↓P_run_eq _ 101 _ (p_bk 101 0), bk_101_0, pb_101_0, ↓P_run_eq _ 101 _ (p_bk 101 1), bk_101_1, pb_101_1, ↓P_run_eq _ 223 _ (p_bk 223 0), bk_223_0, pb_223_0, ↓P_run_eq _ 223 _ (p_bk 223 1), bk_223_1, pb_223_1, pw_aload_n0, pw_aloadN_n0, pw_getR, pw_iload_n1, pw_iv2, pw_zeq, pw_iload_n2, pw_zlt, pw_iconst, il_3, pw_cle, pw_nop, il_m1, pw_ret0, il_0, pw_is3, pw_zne, kd_32, rf_32_0, rf_32_1, rf_32_2, rf_32_3, rf_32_4, rf_32_5, rf_32_6, rf_32_7, rf_32_8, rf_32_9, rf_32_11, rf_32_12, rf_32_13, kd_71, rf_71_1, rf_71_3, rf_71_4, rf_71_5, rf_71_6, rf_71_11, rf_71_12, rf_71_14, kd_123, rf_123_1, rf_123_2, rf_123_3, rf_123_4, rf_123_5, rf_123_7, rf_123_11, rf_123_12, rf_123_15, rf_123_16, rf_123_17, rf_123_26, rf_123_29, rf_123_30, rf_123_32, rf_123_34, rf_123_35, rf_123_45, Classical.not_not, implies_true, mk_s, mk_1, pf_at, pf_ne, b2i_T, b2i_F, false_imp_iff, true_imp_iff, ne_10, ne_01, ne_m10, ne_0m1, ne_m11, ne_1m1, false_and, and_false, p_sw, Int.reduceAdd, Int.zero_add, Option.some.injEq, Value.int.injEq, Value.long.injEq, Value.ref.injEq, exists_eq_left',  mk_I, mk_L, mk_wI, mk_wL, rf_s, rf_n, true_and, and_true, and_self, or_true, true_or, or_false, false_or, not_true_eq_false, not_false_eq_true, Option.toList_some, Option.toList_none, List.cons_append, List.nil_append, List.map_nil, List.map_cons, List.sum_nil, List.sum_cons, cat_i, cat_l, cat_r, cat_n, Nat.reduceLeDiff, Nat.reduceAdd, Nat.reduceEqDiff, Nat.zero_le, p_ent, Int32.reduceToNatClampNeg, Int32.reduceLT, Int32.reduceLE, vin_l, p_u_ne, p_u_at, reduceIte, if_true, if_false, Int32.reduceToInt, Int.zero_le_ofNat, Int.cast_ofNat_Int, Int.reduceLT, Int.reduceLE, not_false_eq_true, Same, P_ce s8, P_ce s9, P_ce (sp_125 _ _ _), b0, v0]
        exact ⟨_, _, _, _, rfl, H⟩
      · have v3 : ¬ v ≤ 3 := fun h => nv ⟨Int32.not_lt.mp v0, h⟩
        simp -implicitDefEqProofs only [P_m, ↓P_run_eq _ 101 _ (p_bk 101 0), bk_101_0, pb_101_0, ↓P_run_eq _ 101 _ (p_bk 101 1), bk_101_1, pb_101_1, ↓P_run_eq _ 223 _ (p_bk 223 0), bk_223_0, pb_223_0, ↓P_run_eq _ 223 _ (p_bk 223 1), bk_223_1, pb_223_1, pw_aload_n0, pw_aloadN_n0, pw_getR, pw_iload_n1, pw_iv2, pw_zeq, pw_iload_n2, pw_zlt, pw_iconst, il_3, pw_cle, pw_nop, il_m1, pw_ret0, il_0, pw_is3, pw_zne, kd_32, rf_32_0, rf_32_1, rf_32_2, rf_32_3, rf_32_4, rf_32_5, rf_32_6, rf_32_7, rf_32_8, rf_32_9, rf_32_11, rf_32_12, rf_32_13, kd_71, rf_71_1, rf_71_3, rf_71_4, rf_71_5, rf_71_6, rf_71_11, rf_71_12, rf_71_14, kd_123, rf_123_1, rf_123_2, rf_123_3, rf_123_4, rf_123_5, rf_123_7, rf_123_11, rf_123_12, rf_123_15, rf_123_16, rf_123_17, rf_123_26, rf_123_29, rf_123_30, rf_123_32, rf_123_34, rf_123_35, rf_123_45, Classical.not_not, implies_true, mk_s, mk_1, pf_at, pf_ne, b2i_T, b2i_F, false_imp_iff, true_imp_iff, ne_10, ne_01, ne_m10, ne_0m1, ne_m11, ne_1m1, false_and, and_false, p_sw, Int.reduceAdd, Int.zero_add, Option.some.injEq, Value.int.injEq, Value.long.injEq, Value.ref.injEq, exists_eq_left',  mk_I, mk_L, mk_wI, mk_wL, rf_s, rf_n, true_and, and_true, and_self, or_true, true_or, or_false, false_or, not_true_eq_false, not_false_eq_true, Option.toList_some, Option.toList_none, List.cons_append, List.nil_append, List.map_nil, List.map_cons, List.sum_nil, List.sum_cons, cat_i, cat_l, cat_r, cat_n, Nat.reduceLeDiff, Nat.reduceAdd, Nat.reduceEqDiff, Nat.zero_le, p_ent, Int32.reduceToNatClampNeg, Int32.reduceLT, Int32.reduceLE, vin_l, p_u_ne, p_u_at, reduceIte, if_true, if_false, Int32.reduceToInt, Int.zero_le_ofNat, Int.cast_ofNat_Int, Int.reduceLT, Int.reduceLE, not_false_eq_true, Same, P_ce s8, P_ce s9, P_ce (sp_125 _ _ _), b0, v0, v3]
        exact ⟨_, _, _, _, rfl, H⟩
    · rw [show b2i (0 ≤ w ∧ w < nI (kn (I 125) 53)) = 0 from b2i_f n1] at s8
      have s9 := s139 I rfl
      rw [show b2i (0 ≤ w ∧ w ≤ nI (kn (I 125) 53) - 1) = 0 from b2i_f n2] at s9
      simp -implicitDefEqProofs only [P_m, ↓P_run_eq _ 101 _ (p_bk 101 0), bk_101_0, pb_101_0, ↓P_run_eq _ 101 _ (p_bk 101 1), bk_101_1, pb_101_1, ↓P_run_eq _ 223 _ (p_bk 223 0), bk_223_0, pb_223_0, ↓P_run_eq _ 223 _ (p_bk 223 1), bk_223_1, pb_223_1, pw_aload_n0, pw_aloadN_n0, pw_getR, pw_iload_n1, pw_iv2, pw_zeq, pw_iload_n2, pw_zlt, pw_iconst, il_3, pw_cle, pw_nop, il_m1, pw_ret0, il_0, pw_is3, pw_zne, kd_32, rf_32_0, rf_32_1, rf_32_2, rf_32_3, rf_32_4, rf_32_5, rf_32_6, rf_32_7, rf_32_8, rf_32_9, rf_32_11, rf_32_12, rf_32_13, kd_71, rf_71_1, rf_71_3, rf_71_4, rf_71_5, rf_71_6, rf_71_11, rf_71_12, rf_71_14, kd_123, rf_123_1, rf_123_2, rf_123_3, rf_123_4, rf_123_5, rf_123_7, rf_123_11, rf_123_12, rf_123_15, rf_123_16, rf_123_17, rf_123_26, rf_123_29, rf_123_30, rf_123_32, rf_123_34, rf_123_35, rf_123_45, Classical.not_not, implies_true, mk_s, mk_1, pf_at, pf_ne, b2i_T, b2i_F, false_imp_iff, true_imp_iff, ne_10, ne_01, ne_m10, ne_0m1, ne_m11, ne_1m1, false_and, and_false, p_sw, Int.reduceAdd, Int.zero_add, Option.some.injEq, Value.int.injEq, Value.long.injEq, Value.ref.injEq, exists_eq_left',  mk_I, mk_L, mk_wI, mk_wL, rf_s, rf_n, true_and, and_true, and_self, or_true, true_or, or_false, false_or, not_true_eq_false, not_false_eq_true, Option.toList_some, Option.toList_none, List.cons_append, List.nil_append, List.map_nil, List.map_cons, List.sum_nil, List.sum_cons, cat_i, cat_l, cat_r, cat_n, Nat.reduceLeDiff, Nat.reduceAdd, Nat.reduceEqDiff, Nat.zero_le, p_ent, Int32.reduceToNatClampNeg, Int32.reduceLT, Int32.reduceLE, vin_l, p_u_ne, p_u_at, reduceIte, if_true, if_false, Int32.reduceToInt, Int.zero_le_ofNat, Int.cast_ofNat_Int, Int.reduceLT, Int.reduceLE, not_false_eq_true, Same, P_ce s8, P_ce s9]
      exact ⟨_, _, _, _, rfl, H⟩
  rcases rg_n w (m := kn (I 125) 53) (by omega) with ⟨q, hq, rfl⟩ | hn
  · have hq8 : q < 8 := by omega
    by_cases hv : 0 ≤ v ∧ v ≤ 3
    · obtain ⟨a, ha, rfl⟩ := nI_of2 (x := v) (M := 3) (n := 3) rfl (Int32.not_lt.mpr hv.1) hv.2
      obtain ⟨g1, g2⟩ := rg_t hq (by omega)
      rw [show b2i (0 ≤ nI q ∧ nI q < nI (kn (I 125) 53)) = nI 1 from b2i_t g1] at s8
      obtain ⟨J1, f1, j47, w1, s1⟩ := look_n (L := L) (D := d + 59) hx hq8 (by omega)
      have e1 : J1 125 = I 125 := f1 125 (by omega) (by omega)
      have hx1 := Cx_J hx f1
      rw [← e1] at w1
      have s3 := fc_n (d := d + 58) (L := L) hx1
      obtain ⟨J2, f2, -, s2⟩ := hn_c (L := L) (D := d + 59) (kd := 1) hx1 hq8 (by omega) w1 (by omega)
      have e2 : J2 125 = J1 125 := f2 125 (by omega) (by omega)
      have hx2 := Cx_J hx1 f2
      have f12 := frJ_tr f1 f2
      obtain ⟨y1, y2⟩ := kn_37 hV hq8
      obtain ⟨q1, q2, q3, q4, q5⟩ := ra q hq8
      have j1 : J2 71 8 = nI (kn (I 125) 0) := by rw [f12 71 (by omega) (by omega)]; exact r4'
      have j2 : J2 75 q = nI (kn (I 125) (37 + q)) := by rw [f12 75 (by omega) (by omega)]; exact q4.trans y1
      have j3 : J2 71 0 = nI (kn (I 125) 52) := by rw [f12 71 (by omega) (by omega)]; exact r1'
      have ee : J2 125 = I 125 := e2.trans e1
      have hx2k : J2 125 0 = nI (kn (I 125) 0) := by rw [ee]; exact k1
      obtain ⟨J3, f3, s5⟩ := turns_r (Ls := Ls) (L := L) (R := R) (X := X) (D := d + 59) (q := q) hx2.2.2.2.1 (vld_env hx2.2.2.1 hq8) k3 hx2k (by omega)
      have s6 := s139 J2 ee
      rw [show b2i (0 ≤ nI q ∧ nI q ≤ nI (kn (I 125) 53) - 1) = nI 1 from b2i_t g2] at s6
      have ee3 : J3 125 = I 125 := (f3.1 125 (by omega) (by omega)).trans ee
      rw [ee] at s5
      rw [e1] at s2
      have I3 : InvH Ls (p_mk Ls J3 L R X) := ⟨_, _, _, _, rfl, Inv_E (Inv_J H f12) f3⟩
      have b1 : b2i (nI 0 ≤ nI a ∧ nI a ≤ nI 3) = nI 1 := b2i_t hv
      have fin : ∀ t : Nat, t < 2 → P_m (d + 59) 28 [.ref 45, va_rf (fRef R 71 (J1 125)), .int (nI 1)] (p_mk Ls J1 L R X) (fun v h' => v = some (.int (nI t)) ∧ h' = p_mk Ls J2 L R X) → P_m (d + 59) 200 [.ref 123, .int (nI q)] (p_mk Ls J2 L R X) (fun v h' => v = some (.int (nI t)) ∧ h' = p_mk Ls J3 L R X) → Same (d + 60) 101 223 [.int (nI q), .int (nI a)] Ls (p_mk Ls I L R X) := by
        intro t ht s2 s5
        have hp4 : (a + 4 - t) % 4 < 4 := Nat.mod_lt _ (by omega)
        have o1 := odd_n a (by omega) t ht
        have z1 := sp_15n (d := d + 58) (Ls := Ls) (I := J2) (L := L) (R := R) (X := X) (q := q) (x := (a + 4 - t) % 4) hq8 t2 hp4 y2 j2 j3
        have z2 := alk_and (a := kn (I 125) (37 + q)) (n := kn (I 125) 52) (s := kn (I 125) 0) (x := (a + 4 - t) % 4) t2 k3
        have z3 := sp_202 (d := d + 58) (Ls := Ls) (I := J3) (L := L) (R := R) (X := X) (q := q) (n := kn (I 125) 52) (s := kn (I 125) 0) (x := (a + 4 - t) % 4) hq8 t2 k3 hp4 y2 (by rw [ee3]; exact y1) (by rw [ee3]; exact t1)
        have lk : alk (kn (I 125) (37 + q)) (kn (I 125) 52) (kn (I 125) 0) ((a + 4 - t) % 4) < 256 := bs_256 t2
        have z4 := sp_16 (d := d + 59) (Ls := Ls) (I := J2) (L := L) (R := R) (X := X) (w := g) lk t2 (fun t ht => hg t (by omega)) j3 (fun t ht => by rw [f12 72 (by omega) (by omega)]; exact gw1 t (by omega))
        have z5 := sp_143 (d := d + 58) (Ls := Ls) (I := J3) (L := L) (R := R) (X := X) (w := g) lk t2 (fun t ht => hg t (by omega)) (by rw [ee3]; exact t1) (fun t ht => by rw [ee3]; exact gw2 t (by omega))
        have m13 : mI 1 &&& nI 3 = nI 3 := by decide
        have h0 : t = 0 ∨ t = 1 := by omega
        have h1 : a = 0 ∨ a = 1 ∨ a = 2 ∨ a = 3 := by omega
        clear o1 hp4
        rcases h0 with rfl | rfl <;> rcases h1 with rfl | rfl | rfl | rfl <;> simp only [Nat.reduceAdd, Nat.reduceSub, Nat.reduceMod] at z1 z2 z3 lk z4 z5 <;> (simp -implicitDefEqProofs (disch := first | omega | decide) only [P_m, ↓P_run_eq _ 101 _ (p_bk 101 0), bk_101_0, pb_101_0, ↓P_run_eq _ 101 _ (p_bk 101 2), bk_101_2, pb_101_2, ↓P_run_eq _ 101 _ (p_bk 101 3), bk_101_3, pb_101_3, ↓P_run_eq _ 101 _ (p_bk 101 4), bk_101_4, pb_101_4, ↓P_run_eq _ 223 _ (p_bk 223 0), bk_223_0, pb_223_0, ↓P_run_eq _ 223 _ (p_bk 223 2), bk_223_2, pb_223_2, pw_aload_n0, pw_aloadN_n0, pw_getR, pw_iload_n1, pw_iv2, pw_zeq, pw_iload_n2, pw_zlt, pw_iconst, il_3, pw_cle, pw_nop, pw_iv3, pw_iv1, il_1, pw_goto, il_0, pw_istore_n3, ps_3, pe_3, po_i3, po_r3, po_n3, po_u3, pw_iload_n3, pw_isub, pw_iand, pw_istore, ps_4, pe_4, po_i4, po_r4, po_n4, po_u4, pw_getI, pw_iload_4, pw_ret0, pw_is3, pw_zne, pw_iald, il_4, pw_iadd, pw_irem, pw_iv4, kd_32, rf_32_0, rf_32_1, rf_32_2, rf_32_3, rf_32_4, rf_32_5, rf_32_6, rf_32_7, rf_32_8, rf_32_9, rf_32_11, rf_32_12, rf_32_13, kd_45, rf_45_0, rf_45_1, kd_71, rf_71_1, rf_71_3, rf_71_4, rf_71_5, rf_71_6, rf_71_11, rf_71_12, rf_71_14, kd_123, rf_123_1, rf_123_2, rf_123_3, rf_123_4, rf_123_5, rf_123_7, rf_123_11, rf_123_12, rf_123_15, rf_123_16, rf_123_17, rf_123_26, rf_123_29, rf_123_30, rf_123_32, rf_123_34, rf_123_35, rf_123_45, kd_125, n_0, n_1, n_3, n_4, nn_lt, nn_nlt, nn_le, nn_nle, nn_ne, nn_sub, nn_mul, nI_add, nn_neg, nm_eq, mn_eq, mm_eq, mn_lt, nm_lt, mn_le, nm_le, nn_sub0, nn_of, implies_true, nn_c, nn_in, nn_div, nat_rem, Nat.reduceMul, Nat.reduceSub, Nat.reduceDiv, Nat.reduceMod, pf_at, pf_ne, mk_s, mk_1, Classical.not_not, b2i_T, b2i_F, false_imp_iff, true_imp_iff, false_and, and_false, p_sw, Int.reduceAdd, Int.zero_add, Option.some.injEq, Value.int.injEq, Value.long.injEq, Value.ref.injEq, exists_eq_left', mk_I, mk_L, mk_wI, mk_wL, rf_s, rf_n, true_and, and_true, and_self, or_true, true_or, or_false, false_or, not_true_eq_false, not_false_eq_true, Option.toList_some, Option.toList_none, List.cons_append, List.nil_append, List.map_nil, List.map_cons, List.sum_nil, List.sum_cons, cat_i, cat_l, cat_r, cat_n, Nat.reduceLeDiff, Nat.reduceAdd, Nat.reduceEqDiff, Nat.zero_le, p_ent, p_u_ne, p_u_at, reduceIte, if_true, if_false, Same, va_rf_c, P_ce s8, P_ce s1, P_ce s3, P_ce s2 rr28, P_ce s6, P_ce (sp_125 _ _ _), b1, P_ce s5, hx2k, j1, m13, P_ce z1, nn_and, Nat.reduceAnd, z2, P_ce z4, P_ce z3, P_ce z5]; exact I3)
      rw [← e1] at s2
      cases hh : hdF c (wEnv (I 125) q (nI (pc (kn (I 125) 0)))) 1 with
      | true =>
        rw [e1, hh, bI_t, ← e1] at s2
        rw [hh, bI_t] at s5
        exact fin 1 (by omega) s2 s5
      | false =>
        rw [e1, hh, bI_f, ← e1] at s2
        rw [hh, bI_f] at s5
        exact fin 0 (by omega) s2 s5
    · exact out (Or.inr hv)
  · exact out (Or.inl hn)
end OD
