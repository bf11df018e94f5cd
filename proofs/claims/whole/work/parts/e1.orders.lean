section GD
variable {D Ls : Nat} {I J : Nat → Nat → Int32} {L : Nat → Nat → Int64} {R : Nat → Nat → Option Nat} {X : List pKd} {c : Option (List tCl)} {K0 W : Nat → Int32} {Q : Option Value → pHp → Prop}
theorem pl_254 {k l n cc T : Nat} {a : Nat × Nat × tCl} (lv : Bool) (k38 : I 123 38 = nI (2400 + k)) (hK : kOk (I 125) 6) (hT : T ≤ 400) (eT : I 125 63 = nI T) (hV : envR true I W) (hW : bW (nw true) W) (h : pC true (kC (I 125) 6) (kV (I 125) 6) n k l cc = some (.ok a)) (ha : a.1 ≤ 400) (hl : l ≤ 50) (hD : 44 ≤ D) : ∃ J v, gaO I J W v T a.1 a.2.2 lv ∧ P_m (D + 2) 254 [.ref 123, .int (nI (2400 + T)), .int (bI lv)] (p_mk Ls I L R X) (fun w h' => w = none ∧ h' = p_mk Ls J (p_u L 123 43 v) R X) := by
  obtain ⟨v, g', ⟨rfl, J, v, h1, rfl⟩, s⟩ := P_mex (ga_0 (Ls := Ls) (L := L) (R := R) (X := X) (lv := lv) (Q := fun w h' => w = none ∧ ∃ J v, gaO I J W v T a.1 a.2.2 lv ∧ h' = p_mk Ls J (p_u L 123 43 v) R X) k38 hK hT eT hV hW h ha hl hD (fun J v hg => ⟨rfl, J, v, hg, rfl⟩))
  exact ⟨J, v, h1, s⟩
theorem sm_a {kd : Nat} {v : Int} {K : Nat → Int32} (hV : vld K) (hv : inB v) : actW c K kd (smI v) = actW c K kd (zI v) ∨ ((actW c K kd (smI v)).1 < 0 ∧ (actW c K kd (zI v)).1 < 0) := by
  by_cases k2 : kd = 2
  · left
    subst k2
    have e : ∀ x, actW c K 2 x = (if kn K 3 < 999 then (nI (kn K 3 + 1), [(3, nI (kn K 3 + 1)), (1, nI (kn K 1 - 1))]) else (-3, [])) := fun x => by
      unfold actW
      rw [if_neg (show ¬ 2 = 0 by omega), if_neg (show ¬ 2 = 1 by omega), if_pos rfl]
    rw [e, e]
  · rcases sm_act (c := c) hV hv k2 with h | h
    · left; rw [h]
    · right; exact h
/-- what stands on the reference's side while orders are run -/
def rfO (J : Nat → Nat → Int32) (s : oS) : Prop := rfS J s.1 s.2.1 s.2.2.1 ∧ J 123 27 = nI s.2.2.2.1 ∧ J 123 28 = s.2.2.2.2
def frOd (I J : Nat → Nat → Int32) : Prop := (∀ a, ¬ a = 123 → ¬ a = 125 → ¬ a = 135 → ¬ a = 136 → J a = I a) ∧ ∀ q, ¬ (22 ≤ q ∧ q ≤ 28) → ¬ q = 31 → ¬ (38 ≤ q ∧ q ≤ 42) → J 123 q = I 123 q
theorem frOd_tr {I J K : Nat → Nat → Int32} (h1 : frOd I J) (h2 : frOd J K) : frOd I K := ⟨fun a a1 a2 a3 a4 => (h2.1 a a1 a2 a3 a4).trans (h1.1 a a1 a2 a3 a4), fun k k1 k2 k3 => (h2.2 k k1 k2 k3).trans (h1.2 k k1 k2 k3)⟩
theorem frOd_P {I J : Nat → Nat → Int32} (h : frPo I J) : frOd I J := ⟨h.1, fun q q1 q2 _ => h.2 q (by omega) (by omega) (by omega)⟩
theorem frOd_g {J' : Nat → Nat → Int32} {v : Int64} {T e : Nat} {cl : tCl} {lv : Bool} (h : gaO J J' W v T e cl lv) : frOd J J' := ⟨fun a a1 _ _ _ => h.1 a a1, fun q q1 _ q3 => h.2.1 q (by omega) (by omega)⟩
theorem rfO_g {J' : Nat → Nat → Int32} {v : Int64} {T e : Nat} {cl : tCl} {lv : Bool} {s : oS} (h : gaO J J' W v T e cl lv) (r : rfO J s) : rfO J' s := by
  obtain ⟨⟨r1, r2, r3, r4⟩, r5, r6⟩ := r
  exact ⟨⟨by rw [h.1 125 (by omega)]; exact r1, by rw [h.2.1 31 (by omega) (by omega)]; exact r2, r3, fun i hi => by rw [h.1 136 (by omega)]; exact r4 i hi⟩, by rw [h.2.1 27 (by omega) (by omega)]; exact r5, by rw [h.2.1 28 (by omega) (by omega)]; exact r6⟩
theorem rfO_env {s : oS} (h : rfO J s) (hV : vld s.1) : envR true J (oE s) := by
  obtain ⟨⟨r1, -⟩, r5, r6⟩ := h
  obtain ⟨k1, k2, k3⟩ := kn_0 hV
  obtain ⟨m1, m2⟩ := kn_53 hV
  unfold envR
  rw [if_pos rfl, r1, r5, r6]
  refine ⟨rfl, rfl, rfl, ⟨kn s.1 0, k3, k1, rfl⟩, rfl, rfl, kn s.1 53, m2, m1, fun j hj => ?_⟩
  unfold oE oEnv
  rw [if_neg (by omega), if_neg (by omega), if_neg (by omega), if_neg (by omega), if_neg (by omega), if_neg (by omega), show 11 + j - 11 = j by omega]
  rfl
theorem tx_13 {K K' : Nat → Int32} (e : ∀ j, 13 ≤ j → K' j = K j) : kC K' 6 = kC K 6 ∧ kV K' 6 = kV K 6 ∧ (kOk K 6 → kOk K' 6) := by
  have e1 := e 63 (by omega)
  have eC : kC K' 6 = kC K 6 := by
    funext k
    unfold kC
    rw [show 57 + 6 = 63 from rfl, e1, e (64 + 400 * 6 + k) (by omega)]
  have eV : kV K' 6 = kV K 6 := by
    funext k
    unfold kV
    rw [show 57 + 6 = 63 from rfl, e1, e (2864 + 400 * 6 + k) (by omega)]
  refine ⟨eC, eV, ?_⟩
  rintro ⟨T, hT, h1, h2⟩
  refine ⟨T, hT, e1.trans h1, fun k hk => ?_⟩
  rw [eC, eV, e (64 + 400 * 6 + k) (by omega), e (2864 + 400 * 6 + k) (by omega)]
  exact h2 k hk
/-- the text of orders as the reference keeps it -/
def txO (K0 : Nat → Int32) (T : Nat) : Prop := kOk K0 6 ∧ T ≤ 400 ∧ K0 63 = nI T
/-- one order run once -/
theorem or_m {k l n cc T t e0 : Nat} {a : Nat × Nat × tCl} {s : oS} {w : Int64} (hX : txO K0 T) (hp : pC true (kC K0 6) (kV K0 6) n k l cc = some (.ok a)) (ha : a.1 ≤ 400) (hl : l ≤ 50) (hD : 49 ≤ D) (he : e0 ≤ 3000) (ht : t < cl_t a.2.2) (f : frOd I J) (hs : rfO J s) (ho : oOk c K0 s) (k38 : J 123 38 = nI (2400 + k)) (hn : s.2.2.2.1 ≤ 300)
    (H : ∀ s' J' w', oR c a.2.2 s = some s' → frOd I J' → rfO J' s' → J' 123 38 = nI (2400 + k) → P_run (D + 3) 257 (p_bk 257 1) 0 0 [.ref 123, .int (nI (2400 + T)), .int (nI (cl_t a.2.2)), .int (nI e0), .int (nI (t + 1))] [] (p_mk Ls J' (p_u L 123 43 w') R X) Q)
    (HN : oR c a.2.2 s = none → ∀ J' w', frOd I J' → (∀ j, 13 ≤ j → J' 125 j = K0 j) → Q (some (.int (nI 0))) (p_mk Ls J' (p_u L 123 43 w') R X)) :
    P_run (D + 3) 257 (p_bk 257 1) 0 0 [.ref 123, .int (nI (2400 + T)), .int (nI (cl_t a.2.2)), .int (nI e0), .int (nI t)] [] (p_mk Ls J (p_u L 123 43 w) R X) Q := by
  obtain ⟨x1, x2, x3⟩ := hX
  have hV := ho.1
  have hK : J 125 = s.1 := hs.1.1
  have e13 : ∀ j, 13 ≤ j → J 125 j = K0 j := fun j hj => by rw [hK]; exact ho.2.2.2 j hj
  obtain ⟨eC, eV, eO⟩ := tx_13 e13
  obtain ⟨g1, -, -, -, -⟩ := pC_g hl hp
  have hok := g1
  have ht20 : cl_t a.2.2 ≤ 20 := hok.2.2.2.2
  have hk3 : cl_k a.2.2 ≤ 3 := hok.2.2.1
  have hW := oE_bW ho (by omega)
  rw [← eC, ← eV] at hp
  obtain ⟨J1, v, hg, s1⟩ := pl_254 (D := D) (Ls := Ls) (I := J) (L := p_u L 123 43 w) (R := R) (X := X) (T := T) (W := oE s) true k38 (eO x1) x2 (by rw [e13 63 (by omega)]; exact x3) (rfO_env hs hV) hW hp ha hl (by omega)
  rw [pu_pu] at s1
  have f1 : frOd I J1 := frOd_tr f (frOd_g hg)
  have r1 := rfO_g hg hs
  have k38' : J1 123 38 = nI (2400 + k) := by rw [hg.2.1 38 (by omega) (by omega)]; exact k38
  obtain ⟨-, -, -, -, -, g40, -, g3⟩ := hg
  obtain ⟨g41, g42, gv⟩ := g3 rfl
  have cM : Cm J1 s.1 c := ⟨r1.1.1, hV, ho.2.1⟩
  rw [bI_t] at s1
  by_cases cg : cl_g a.2.2 (oE s) = some true
  · have er : oR c a.2.2 s = (cl_f a.2.2 (oE s)).bind (oA c (cl_k a.2.2) s) := by unfold oR; rw [if_pos cg]
    rw [decide_eq_true cg, bI_t] at g42
    cases hf : cl_f a.2.2 (oE s) with
    | none =>
      rw [hf] at er g41
      have hN := HN er J1 v f1 (fun j hj => by rw [r1.1.1]; exact ho.2.2.2 j hj)
      have g41 : J1 123 41 = nI 0 := g41
      clear H HN hp
      generalize cl_t a.2.2 = tt at *
      rw [P_run_eq, bk_257_1, pb_257_1]; simp -implicitDefEqProofs (disch := first | omega | decide) only [P_m, ↓P_run_eq _ 257 _ (p_bk 257 2), bk_257_2, pb_257_2, ↓P_run_eq _ 257 _ (p_bk 257 3), bk_257_3, pb_257_3, pw_iload_4, pw_iload_n2, pw_cge, pw_aload_n0, pw_aloadN_n0, pw_iload_n1, pw_iconst, il_1, pw_iv3, pw_getI, pw_zne, pw_goto, pw_zeq, pw_iv1, pw_zge, pw_nop, il_0, pw_ret1, kd_123, rf_123_1, rf_123_2, rf_123_3, rf_123_4, rf_123_5, rf_123_7, rf_123_11, rf_123_12, rf_123_15, rf_123_16, rf_123_17, rf_123_26, rf_123_29, rf_123_30, rf_123_32, rf_123_34, rf_123_35, rf_123_45, n_0, n_1, nn_lt, nn_nlt, nn_le, nn_nle, nn_ne, nn_sub, nn_mul, nI_add, nn_neg, nm_eq, mn_eq, mm_eq, mn_lt, nm_lt, mn_le, nm_le, nn_sub0, nn_of, implies_true, nn_c, nn_in, nn_div, nat_rem, Nat.reduceMul, Nat.reduceSub, Nat.reduceDiv, Nat.reduceMod, pf_at, pf_ne, mk_s, mk_1, Classical.not_not, b2i_T, b2i_F, false_imp_iff, true_imp_iff, false_and, and_false, p_sw, Int.reduceAdd, Int.zero_add, Option.some.injEq, Value.int.injEq, Value.long.injEq, Value.ref.injEq, exists_eq_left', mk_I, mk_L, mk_wI, mk_wL, rf_s, rf_n, true_and, and_true, and_self, or_true, true_or, or_false, false_or, not_true_eq_false, not_false_eq_true, Option.toList_some, Option.toList_none, List.cons_append, List.nil_append, List.map_nil, List.map_cons, List.sum_nil, List.sum_cons, cat_i, cat_l, cat_r, cat_n, Nat.reduceLeDiff, Nat.reduceAdd, Nat.reduceEqDiff, Nat.zero_le, p_ent, p_u_ne, p_u_at, reduceIte, if_true, if_false, P_ce s1, g42, g41]
      exact hN
    | some x =>
      rw [hf] at er g41
      have g41 : J1 123 41 = nI 1 := g41
      have hvB : inB x := by
        rcases hok.1 with ⟨-, nd, -, gs⟩ | ⟨-, -, e2⟩
        · exact gs.2.1 _ hW x hf
        · rw [e2] at hf; cases hf; unfold inB; omega
      obtain ⟨J2, f2, r2, a2, s2⟩ := pl_256 (D := D + 2) (Ls := Ls) (I := J1) (L := p_u L 123 43 v) (R := R) (X := X) (c := c) (kd := cl_k a.2.2) (v := x) hk3 cM r1.1 g40 hvB (fun h2 => by rw [p_u_at, if_pos rfl]; exact gv x hf h2) (by omega)
      have f2' : frOd I J2 := frOd_tr f1 (frOd_P f2)
      have e27 : J2 123 27 = nI s.2.2.2.1 := by rw [f2.2 27 (by omega) (by omega) (by omega)]; exact r1.2.1
      have e38 : J2 123 38 = nI (2400 + k) := by rw [f2.2 38 (by omega) (by omega) (by omega)]; exact k38'
      have e28 : J1 123 28 = s.2.2.2.2 := r1.2.2
      have n13 : ∀ j, 13 ≤ j → J2 125 j = K0 j := fun j hj => by rw [r2.1, nx_13 hV j hj]; exact ho.2.2.2 j hj
      have sm := sm_a (c := c) (kd := cl_k a.2.2) hV hvB
      by_cases hneg : (actW c s.1 (cl_k a.2.2) (smI x)).1 < 0
      · have hz : (actW c s.1 (cl_k a.2.2) (zI x)).1 < 0 := by
          rcases sm with h | h
          · rw [← h]; exact hneg
          · exact h.2
        have en : oR c a.2.2 s = none := by rw [er]; show oA c (cl_k a.2.2) s x = none; unfold oA; rw [if_pos hz]
        have hN := HN en J2 v f2' n13
        clear H HN er en hp sm r2
        have hneg : ¬ nI 0 ≤ (actW c s.1 (cl_k a.2.2) (smI x)).1 := fun h => absurd hneg (Int32.not_lt.mpr h)
        generalize (actW c s.1 (cl_k a.2.2) (smI x)).1 = wv at *
        generalize cl_t a.2.2 = tt at *
        rw [P_run_eq, bk_257_1, pb_257_1]; simp -implicitDefEqProofs (disch := first | omega | decide) only [P_m, ↓P_run_eq _ 257 _ (p_bk 257 2), bk_257_2, pb_257_2, ↓P_run_eq _ 257 _ (p_bk 257 3), bk_257_3, pb_257_3, pw_iload_4, pw_iload_n2, pw_cge, pw_aload_n0, pw_aloadN_n0, pw_iload_n1, pw_iconst, il_1, pw_iv3, pw_getI, pw_zne, pw_goto, pw_zeq, pw_iv1, pw_zge, pw_nop, il_0, pw_ret1, kd_123, rf_123_1, rf_123_2, rf_123_3, rf_123_4, rf_123_5, rf_123_7, rf_123_11, rf_123_12, rf_123_15, rf_123_16, rf_123_17, rf_123_26, rf_123_29, rf_123_30, rf_123_32, rf_123_34, rf_123_35, rf_123_45, n_0, n_1, nn_lt, nn_nlt, nn_le, nn_nle, nn_ne, nn_sub, nn_mul, nI_add, nn_neg, nm_eq, mn_eq, mm_eq, mn_lt, nm_lt, mn_le, nm_le, nn_sub0, nn_of, implies_true, nn_c, nn_in, nn_div, nat_rem, Nat.reduceMul, Nat.reduceSub, Nat.reduceDiv, Nat.reduceMod, pf_at, pf_ne, mk_s, mk_1, Classical.not_not, b2i_T, b2i_F, false_imp_iff, true_imp_iff, false_and, and_false, p_sw, Int.reduceAdd, Int.zero_add, Option.some.injEq, Value.int.injEq, Value.long.injEq, Value.ref.injEq, exists_eq_left', mk_I, mk_L, mk_wI, mk_wL, rf_s, rf_n, true_and, and_true, and_self, or_true, true_or, or_false, false_or, not_true_eq_false, not_false_eq_true, Option.toList_some, Option.toList_none, List.cons_append, List.nil_append, List.map_nil, List.map_cons, List.sum_nil, List.sum_cons, cat_i, cat_l, cat_r, cat_n, Nat.reduceLeDiff, Nat.reduceAdd, Nat.reduceEqDiff, Nat.zero_le, p_ent, p_u_ne, p_u_at, reduceIte, if_true, if_false, P_ce s1, g42, g41, P_ce s2, hneg]
        exact hN
      · have ea : actW c s.1 (cl_k a.2.2) (smI x) = actW c s.1 (cl_k a.2.2) (zI x) := by
          rcases sm with h | h
          · exact h
          · exact absurd h.1 hneg
        have eK : nxK c s.1 (cl_k a.2.2) (smI x) = nxK c s.1 (cl_k a.2.2) (zI x) := by unfold nxK; rw [ea]
        have eN : nxN c s.1 (cl_k a.2.2) (smI x) s.2.1 = nxN c s.1 (cl_k a.2.2) (zI x) s.2.1 := by unfold nxN; rw [ea]
        have eM : nxM c s.1 (cl_k a.2.2) (smI x) s.2.1 s.2.2.1 = nxM c s.1 (cl_k a.2.2) (zI x) s.2.1 s.2.2.1 := by unfold nxM; rw [ea]
        rw [eK, eN, eM] at r2
        rw [ea] at hneg a2 s2
        have en : oR c a.2.2 s = oA c (cl_k a.2.2) s x := er
        unfold oA at en
        rw [if_neg hneg] at en
        have r3 : rfO (p_u J2 123 27 (nI (s.2.2.2.1 + 1))) (nxK c s.1 (cl_k a.2.2) (zI x), nxN c s.1 (cl_k a.2.2) (zI x) s.2.1, nxM c s.1 (cl_k a.2.2) (zI x) s.2.1 s.2.2.1, s.2.2.2.1 + 1, if cl_k a.2.2 = 0 then (actW c s.1 (cl_k a.2.2) (zI x)).1 else s.2.2.2.2) := by
          obtain ⟨q1, q2, q3, q4⟩ := r2
          refine ⟨⟨by rw [p_u_ne (by omega)]; exact q1, by rw [p_u_at, if_neg (by omega)]; exact q2, q3, fun i hi => by rw [p_u_ne (by omega)]; exact q4 i hi⟩, by rw [p_u_at, if_pos rfl], ?_⟩
          rw [p_u_at, if_neg (by omega), a2, e28]
          show _ = if cl_k a.2.2 = 0 then (actW c s.1 (cl_k a.2.2) (zI x)).1 else s.2.2.2.2
          by_cases k0 : cl_k a.2.2 = 0
          · rw [if_pos ⟨k0, hneg⟩, if_pos k0]
          · rw [if_neg (fun h => k0 h.1), if_neg k0]
        have hH := H _ (p_u J2 123 27 (nI (s.2.2.2.1 + 1))) v en ⟨fun a a1 a2 a3 a4 => by rw [p_u_ne a1]; exact f2'.1 a a1 a2 a3 a4, fun q q1 q2 q3 => by rw [p_u_at, if_neg (by omega)]; exact f2'.2 q q1 q2 q3⟩ r3 (by rw [p_u_at, if_neg (by omega)]; exact e38)
        clear H HN er en hp sm r2 r3 eK eN eM ea a2
        have hneg : nI 0 ≤ (actW c s.1 (cl_k a.2.2) (zI x)).1 := Int32.not_lt.mp hneg
        generalize (actW c s.1 (cl_k a.2.2) (zI x)).1 = wv at *
        generalize cl_t a.2.2 = tt at *
        generalize s.2.2.2.1 = nn at *
        rw [P_run_eq, bk_257_1, pb_257_1]; simp -implicitDefEqProofs (disch := first | omega | decide) only [P_m, ↓P_run_eq _ 257 _ (p_bk 257 2), bk_257_2, pb_257_2, ↓P_run_eq _ 257 _ (p_bk 257 4), bk_257_4, pb_257_4, ↓P_run_eq _ 257 _ (p_bk 257 5), bk_257_5, pb_257_5, pw_iload_4, pw_iload_n2, pw_cge, pw_aload_n0, pw_aloadN_n0, pw_iload_n1, pw_iconst, il_1, pw_iv3, pw_getI, pw_zne, pw_goto, pw_zeq, pw_iv1, pw_zge, pw_nop, pw_dupi, pw_dupr, pw_iadd, pw_putI, pw_iinc_4, po_i4, po_r4, po_n4, po_u4, kd_123, rf_123_1, rf_123_2, rf_123_3, rf_123_4, rf_123_5, rf_123_7, rf_123_11, rf_123_12, rf_123_15, rf_123_16, rf_123_17, rf_123_26, rf_123_29, rf_123_30, rf_123_32, rf_123_34, rf_123_35, rf_123_45, n_0, n_1, nn_lt, nn_nlt, nn_le, nn_nle, nn_ne, nn_sub, nn_mul, nI_add, nn_neg, nm_eq, mn_eq, mm_eq, mn_lt, nm_lt, mn_le, nm_le, nn_sub0, nn_of, implies_true, nn_c, nn_in, nn_div, nat_rem, Nat.reduceMul, Nat.reduceSub, Nat.reduceDiv, Nat.reduceMod, pf_at, pf_ne, mk_s, mk_1, Classical.not_not, b2i_T, b2i_F, false_imp_iff, true_imp_iff, false_and, and_false, p_sw, Int.reduceAdd, Int.zero_add, Option.some.injEq, Value.int.injEq, Value.long.injEq, Value.ref.injEq, exists_eq_left', mk_I, mk_L, mk_wI, mk_wL, rf_s, rf_n, true_and, and_true, and_self, or_true, true_or, or_false, false_or, not_true_eq_false, not_false_eq_true, Option.toList_some, Option.toList_none, List.cons_append, List.nil_append, List.map_nil, List.map_cons, List.sum_nil, List.sum_cons, cat_i, cat_l, cat_r, cat_n, Nat.reduceLeDiff, Nat.reduceAdd, Nat.reduceEqDiff, Nat.zero_le, p_ent, p_u_ne, p_u_at, reduceIte, if_true, if_false, P_ce s1, g42, g41, P_ce s2, hneg, e27]
        exact hH
  · have er : oR c a.2.2 s = some s := by unfold oR; rw [if_neg cg]
    rw [decide_eq_false cg, bI_f] at g42
    have hH := H s J1 v er f1 r1 k38'
    clear H HN er hp
    generalize cl_t a.2.2 = tt at *
    rw [P_run_eq, bk_257_1, pb_257_1]; simp -implicitDefEqProofs (disch := first | omega | decide) only [P_m, ↓P_run_eq _ 257 _ (p_bk 257 5), bk_257_5, pb_257_5, pw_iload_4, pw_iload_n2, pw_cge, pw_aload_n0, pw_aloadN_n0, pw_iload_n1, pw_iconst, il_1, pw_iv3, pw_getI, pw_zne, pw_goto, pw_iinc_4, po_i4, po_r4, po_n4, po_u4, kd_123, rf_123_1, rf_123_2, rf_123_3, rf_123_4, rf_123_5, rf_123_7, rf_123_11, rf_123_12, rf_123_15, rf_123_16, rf_123_17, rf_123_26, rf_123_29, rf_123_30, rf_123_32, rf_123_34, rf_123_35, rf_123_45, n_0, n_1, nn_lt, nn_nlt, nn_le, nn_nle, nn_ne, nn_sub, nn_mul, nI_add, nn_neg, nm_eq, mn_eq, mm_eq, mn_lt, nm_lt, mn_le, nm_le, nn_sub0, nn_of, implies_true, nn_c, nn_in, nn_div, nat_rem, Nat.reduceMul, Nat.reduceSub, Nat.reduceDiv, Nat.reduceMod, pf_at, pf_ne, mk_s, mk_1, Classical.not_not, b2i_T, b2i_F, false_imp_iff, true_imp_iff, false_and, and_false, p_sw, Int.reduceAdd, Int.zero_add, Option.some.injEq, Value.int.injEq, Value.long.injEq, Value.ref.injEq, exists_eq_left', mk_I, mk_L, mk_wI, mk_wL, rf_s, rf_n, true_and, and_true, and_self, or_true, true_or, or_false, false_or, not_true_eq_false, not_false_eq_true, Option.toList_some, Option.toList_none, List.cons_append, List.nil_append, List.map_nil, List.map_cons, List.sum_nil, List.sum_cons, cat_i, cat_l, cat_r, cat_n, Nat.reduceLeDiff, Nat.reduceAdd, Nat.reduceEqDiff, Nat.zero_le, p_ent, p_u_ne, p_u_at, reduceIte, if_true, if_false, P_ce s1, g42]
    exact hH
/-- one order, as often as it is to be run -/
theorem ti_m {k l n cc T e0 : Nat} {a : Nat × Nat × tCl} (hX : txO K0 T) (hp : pC true (kC K0 6) (kV K0 6) n k l cc = some (.ok a)) (ha : a.1 ≤ 400) (hl : l ≤ 50) (hD : 49 ≤ D) (he : e0 ≤ 3000) : ∀ (m t : Nat) (s : oS) (J : Nat → Nat → Int32) (w : Int64), t + m = cl_t a.2.2 → frOd I J → rfO J s → oOk c K0 s → J 123 38 = nI (2400 + k) → s.2.2.2.1 + m ≤ 300 →
    (∀ s' J' w', oT c a.2.2 m s = some s' → oOk c K0 s' → s'.2.2.2.1 ≤ s.2.2.2.1 + m → frOd I J' → rfO J' s' → J' 123 38 = nI e0 → Q (some (.int (nI 1))) (p_mk Ls J' (p_u L 123 43 w') R X)) →
    (oT c a.2.2 m s = none → ∀ J' w', frOd I J' → (∀ j, 13 ≤ j → J' 125 j = K0 j) → Q (some (.int (nI 0))) (p_mk Ls J' (p_u L 123 43 w') R X)) →
    P_run (D + 3) 257 (p_bk 257 1) 0 0 [.ref 123, .int (nI (2400 + T)), .int (nI (cl_t a.2.2)), .int (nI e0), .int (nI t)] [] (p_mk Ls J (p_u L 123 43 w) R X) Q
  | 0, t, s, J, w, ht, f, hs, ho, k38, hn, H, HN => by
    obtain ⟨g1, -, -, -, -⟩ := pC_g hl hp
    have ht20 : cl_t a.2.2 ≤ 20 := g1.2.2.2.2
    have hH := H s (p_u J 123 38 (nI e0)) w rfl ho (by omega) ⟨fun a a1 a2 a3 a4 => by rw [p_u_ne a1]; exact f.1 a a1 a2 a3 a4, fun q q1 q2 q3 => by rw [p_u_at, if_neg (by omega)]; exact f.2 q q1 q2 q3⟩ (by
      obtain ⟨⟨q1, q2, q3, q4⟩, q5, q6⟩ := hs
      exact ⟨⟨by rw [p_u_ne (by omega)]; exact q1, by rw [p_u_at, if_neg (by omega)]; exact q2, q3, fun i hi => by rw [p_u_ne (by omega)]; exact q4 i hi⟩, by rw [p_u_at, if_neg (by omega)]; exact q5, by rw [p_u_at, if_neg (by omega)]; exact q6⟩) (by rw [p_u_at, if_pos rfl])
    rw [Nat.add_zero] at ht
    rw [← ht] at ht20 ⊢
    clear H HN
    rw [P_run_eq, bk_257_1, pb_257_1]; simp -implicitDefEqProofs (disch := first | omega | decide) only [P_m, ↓P_run_eq _ 257 _ (p_bk 257 6), bk_257_6, pb_257_6, pw_iload_4, pw_iload_n2, pw_cge, pw_aload_n0, pw_aloadN_n0, pw_iload_n1, pw_iconst, il_1, pw_iv3, pw_getI, pw_zne, pw_goto, pw_iload_n3, pw_putI, pw_ret1, kd_123, rf_123_1, rf_123_2, rf_123_3, rf_123_4, rf_123_5, rf_123_7, rf_123_11, rf_123_12, rf_123_15, rf_123_16, rf_123_17, rf_123_26, rf_123_29, rf_123_30, rf_123_32, rf_123_34, rf_123_35, rf_123_45, n_0, n_1, nn_lt, nn_nlt, nn_le, nn_nle, nn_ne, nn_sub, nn_mul, nI_add, nn_neg, nm_eq, mn_eq, mm_eq, mn_lt, nm_lt, mn_le, nm_le, nn_sub0, nn_of, implies_true, nn_c, nn_in, nn_div, nat_rem, Nat.reduceMul, Nat.reduceSub, Nat.reduceDiv, Nat.reduceMod, pf_at, pf_ne, mk_s, mk_1, Classical.not_not, b2i_T, b2i_F, false_imp_iff, true_imp_iff, false_and, and_false, p_sw, Int.reduceAdd, Int.zero_add, Option.some.injEq, Value.int.injEq, Value.long.injEq, Value.ref.injEq, exists_eq_left', mk_I, mk_L, mk_wI, mk_wL, rf_s, rf_n, true_and, and_true, and_self, or_true, true_or, or_false, false_or, not_true_eq_false, not_false_eq_true, Option.toList_some, Option.toList_none, List.cons_append, List.nil_append, List.map_nil, List.map_cons, List.sum_nil, List.sum_cons, cat_i, cat_l, cat_r, cat_n, Nat.reduceLeDiff, Nat.reduceAdd, Nat.reduceEqDiff, Nat.zero_le, p_ent, p_u_ne, p_u_at, reduceIte, if_true, if_false]
    exact hH
  | m + 1, t, s, J, w, ht, f, hs, ho, k38, hn, H, HN => by
    refine or_m hX hp ha hl hD he (by omega) f hs ho k38 (by omega) (fun s' J' w' e f' hs' k' => ?_) (fun e J' w' f' k' => HN (by show (oR c a.2.2 s).bind (oT c a.2.2 m) = none; rw [e]; rfl) J' w' f' k')
    obtain ⟨o1, o2⟩ := oR_ok ho e
    have et : oT c a.2.2 (m + 1) s = oT c a.2.2 m s' := by show (oR c a.2.2 s).bind (oT c a.2.2 m) = _; rw [e]; rfl
    rw [et] at H HN
    exact ti_m hX hp ha hl hD he m (t + 1) s' J' w' (by omega) f' hs' o1 k' (by omega) (fun s2 J2 w2 e2 k1 k2 k3 k4 k5 => H s2 J2 w2 e2 k1 (by omega) k3 k4 k5) HN
theorem ru_m {k l n cc T : Nat} {a : Nat × Nat × tCl} {s : oS} {w : Int64} (hX : txO K0 T) (hp : pC true (kC K0 6) (kV K0 6) n k l cc = some (.ok a)) (ha : a.1 ≤ 400) (hl : l ≤ 50) (hD : 49 ≤ D) (f : frOd I J) (hs : rfO J s) (ho : oOk c K0 s) (k38 : J 123 38 = nI (2400 + k)) (hn : s.2.2.2.1 + 20 ≤ 300)
    (H : ∀ s' J' w', oT c a.2.2 (cl_t a.2.2) s = some s' → oOk c K0 s' → s'.2.2.2.1 ≤ s.2.2.2.1 + 20 → frOd I J' → rfO J' s' → J' 123 38 = nI (2400 + a.1 + 1) → Q (some (.int (nI 1))) (p_mk Ls J' (p_u L 123 43 w') R X))
    (HN : oT c a.2.2 (cl_t a.2.2) s = none → ∀ J' w', frOd I J' → (∀ j, 13 ≤ j → J' 125 j = K0 j) → Q (some (.int (nI 0))) (p_mk Ls J' (p_u L 123 43 w') R X)) :
    P_m (D + 3) 257 [.ref 123, .int (nI (2400 + T))] (p_mk Ls J (p_u L 123 43 w) R X) Q := by
  obtain ⟨x1, x2, x3⟩ := hX
  have hV := ho.1
  have hK : J 125 = s.1 := hs.1.1
  have e13 : ∀ j, 13 ≤ j → J 125 j = K0 j := fun j hj => by rw [hK]; exact ho.2.2.2 j hj
  obtain ⟨eC, eV, eO⟩ := tx_13 e13
  obtain ⟨g1, -, -, -, -⟩ := pC_g hl hp
  have ht20 : cl_t a.2.2 ≤ 20 := g1.2.2.2.2
  have hW := oE_bW ho (by omega)
  have hp' := hp
  rw [← eC, ← eV] at hp
  obtain ⟨J1, v, hg, s1⟩ := pl_254 (D := D) (Ls := Ls) (I := J) (L := p_u L 123 43 w) (R := R) (X := X) (T := T) (W := oE s) false k38 (eO x1) x2 (by rw [e13 63 (by omega)]; exact x3) (rfO_env hs hV) hW hp ha hl (by omega)
  rw [pu_pu, bI_f] at s1
  have f1 : frOd I J1 := frOd_tr f (frOd_g hg)
  have r1 := rfO_g hg hs
  have k38' : J1 123 38 = nI (2400 + k) := by rw [hg.2.1 38 (by omega) (by omega)]; exact k38
  obtain ⟨-, -, -, -, g22, -, g39, -⟩ := hg
  have go := ti_m (L := L) (Q := Q) (Ls := Ls) (R := R) (X := X) (e0 := 2400 + a.1 + 1) ⟨x1, x2, x3⟩ hp' ha hl hD (by omega) (cl_t a.2.2) 0 s J1 v (Nat.zero_add _) f1 r1 ho k38' (by omega) (fun s2 J2 w2 e2 k1 k2 k3 k4 k5 => H s2 J2 w2 e2 k1 (by omega) k3 k4 k5) HN
  clear H HN hp hp'
  generalize cl_t a.2.2 = tt at *
  generalize 2400 + a.1 + 1 = ee at *
  simp -implicitDefEqProofs (disch := first | omega | decide) only [P_m, ↓P_run_eq _ 257 _ (p_bk 257 0), bk_257_0, pb_257_0, pw_aload_n0, pw_aloadN_n0, pw_iload_n1, pw_iconst, il_0, pw_iv3, pw_getI, pw_istore_n2, ps_2, pe_2, po_i2, po_r2, po_n2, po_u2, pw_istore_n3, ps_3, pe_3, po_i3, po_r3, po_n3, po_u3, pw_istore, ps_4, pe_4, po_i4, po_r4, po_n4, po_u4, pw_nop, kd_123, rf_123_1, rf_123_2, rf_123_3, rf_123_4, rf_123_5, rf_123_7, rf_123_11, rf_123_12, rf_123_15, rf_123_16, rf_123_17, rf_123_26, rf_123_29, rf_123_30, rf_123_32, rf_123_34, rf_123_35, rf_123_45, n_0, n_1, nn_lt, nn_nlt, nn_le, nn_nle, nn_ne, nn_sub, nn_mul, nI_add, nn_neg, nm_eq, mn_eq, mm_eq, mn_lt, nm_lt, mn_le, nm_le, nn_sub0, nn_of, implies_true, nn_c, nn_in, nn_div, nat_rem, Nat.reduceMul, Nat.reduceSub, Nat.reduceDiv, Nat.reduceMod, pf_at, pf_ne, mk_s, mk_1, Classical.not_not, b2i_T, b2i_F, false_imp_iff, true_imp_iff, false_and, and_false, p_sw, Int.reduceAdd, Int.zero_add, Option.some.injEq, Value.int.injEq, Value.long.injEq, Value.ref.injEq, exists_eq_left', mk_I, mk_L, mk_wI, mk_wL, rf_s, rf_n, true_and, and_true, and_self, or_true, true_or, or_false, false_or, not_true_eq_false, not_false_eq_true, Option.toList_some, Option.toList_none, List.cons_append, List.nil_append, List.map_nil, List.map_cons, List.sum_nil, List.sum_cons, cat_i, cat_l, cat_r, cat_n, Nat.reduceLeDiff, Nat.reduceAdd, Nat.reduceEqDiff, Nat.zero_le, p_ent, p_u_ne, p_u_at, reduceIte, if_true, if_false, P_ce s1, g22, g39]
  exact go
end GD
