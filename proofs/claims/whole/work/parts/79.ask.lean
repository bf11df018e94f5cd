/-! ASK -/
section AK
variable {d Ls : Nat} {I J : Nat → Nat → Int32} {L : Nat → Nat → Int64} {R : Nat → Nat → Option Nat} {X : List pKd} {c : Option (List tCl)} {K M : Nat → Int32} {k : Nat}
theorem Inv_cl (H : Inv I R X) : ∃ k, clS I (I 125) k (I 136) ∧ rfS I (I 125) k (I 136) := by
  obtain ⟨n, k, u1, u2, u3, u4⟩ := H.2.2.2.1
  exact ⟨k, ⟨H.2.2.2.2.2.2.1.1, n, u1, u2, u4⟩, ⟨rfl, u3, u4.2.1, fun _ _ => rfl⟩⟩
theorem Cx_Ca (h : Cx Ls I R X c) : Can Ls I R X (I 125) c := h
theorem pastRel_M {n k : Nat} {C M M' K : Nat → Int32} (h : pastRel n k C M K) (e : ∀ i, i < 14 * k → M' i = M i) : pastRel n k C M' K := by
  obtain ⟨h1, h2, h3⟩ := h
  refine ⟨h1, h2, fun j hj => ?_⟩
  obtain ⟨r1, r2⟩ := h3 j hj
  exact ⟨rowRel_c (fun _ _ => rfl) (fun i hi => e _ (by omega)) r1, rowVld_c rfl (fun i hi => e _ (by omega)) r2⟩
/-- both sides have done the same acts -/
theorem Inv_cr {J1 : Nat → Nat → Int32} (H : Inv I R X) (f1 : frN I J1) (c1 : clS J1 K k M) (f2 : frM J1 J) (c2 : rfS J K k M) (hV : vld K) (h55 : ∀ j, j = 55 ∨ 57 ≤ j → K j = I 125 j) : Inv J R X := by
  have e32 : ∀ q, J 32 q = I 32 q := fun q => by rw [f2.1 32 (by omega) (by omega) (by omega) (by omega), f1 32 (by omega) (by omega) (by omega)]
  have e123 : ∀ q, ¬ (22 ≤ q ∧ q ≤ 25) → ¬ q = 31 → J 123 q = I 123 q := fun q q1 q2 => by rw [f2.2 q q1 q2, f1 123 (by omega) (by omega) (by omega)]
  have eg : ∀ a, ¬ a = 123 → ¬ a = 125 → ¬ a = 135 → ¬ a = 136 → (a < 71 ∨ 81 < a ∨ a = 79) → ¬ a = 46 → ¬ a = 47 → J a = I a := fun a a1 a2 a3 a4 a5 a6 a7 => by rw [f2.1 a a1 a2 a3 a4, f1 a a5 a6 a7]
  have ec : ∀ a, 71 ≤ a → a ≤ 81 → J a = J1 a := fun a a1 a2 => f2.1 a (by omega) (by omega) (by omega) (by omega)
  obtain ⟨hR, n, p1, p2, p3⟩ := c1
  obtain ⟨q1, q2, q3, q4⟩ := c2
  refine Inv_mv2 H (fun a ha => ?_) (e32 10) (e123 46 (by omega) (by omega)) (e123 13 (by omega) (by omega)) ?_ ⟨n, k, ?_, ?_, q2, ?_⟩ ?_ ?_ ?_ ?_
  · unfold kcell at ha
    exact eg a (by omega) (by omega) (by omega) (by omega) (by omega) (by omega) (by omega)
  · exact invC_fr (eg 122 (by omega) (by omega) (by omega) (by omega) (by omega) (by omega) (by omega)) (eg 124 (by omega) (by omega) (by omega) (by omega) (by omega) (by omega) (by omega)) (e32 14) (e123 0 (by omega) (by omega)) (e32 15) (e123 14 (by omega) (by omega)) (e32 16) (e123 37 (by omega) (by omega)) (e32 17) (e123 6 (by omega) (by omega)) H.2.1
  · rw [ec 80 (by omega) (by omega)]; exact p1
  · rw [ec 80 (by omega) (by omega)]; exact p2
  · rw [ec 81 (by omega) (by omega), q1]
    exact pastRel_M p3 q4
  · rw [q1]
    exact hutR_f hR (fun b b1 b2 => ec b (by omega) (by omega))
  · rw [q1]; exact hV
  · intro j j1 _
    rw [q1]; exact h55 j (Or.inr j1)
  · rw [q1]; exact h55 55 (Or.inl rfl)
theorem Inv_K0 (H : Inv I R X) : I 1 0 = 999 ∧ I 1 2 = nI 9999 := ⟨H.1.2.1.1, H.1.2.1.2.2⟩
theorem q_ask (v : Int32) (H : Inv I R X) : Same (d + 60) 95 217 [.int v] Ls (p_mk Ls I L R X) := by
  obtain ⟨c, hx⟩ := Inv_cx (Ls := Ls) H
  obtain ⟨k, hc, hr⟩ := Inv_cl H
  have hV := hx.2.2.1
  obtain ⟨e0, e9⟩ := Inv_K0 H
  obtain ⟨J1, f1, c1, s1⟩ := act_now (L := L) (D := d + 59) (kd := 0) v (Cx_Ca hx) hc (by omega) e0 e9 (by omega)
  obtain ⟨nv, n52, n53, n56, nh⟩ := nx_vld (c := c) (kd := 0) (v := v) hV
  have bothR : ∀ (Z : Nat → Nat → Int32), (∀ a, ¬ a = 32 → ¬ a = 122 → Z a = J1 a) → ∃ J2, frM Z J2 ∧ rfS J2 (nxK c (I 125) 0 v) (nxN c (I 125) 0 v k) (nxM c (I 125) 0 v k (I 136)) ∧ P_m (d + 59) 213 [.ref 123, .int v] (p_mk Ls Z L R X) (fun w h' => w = some (.int (actW c (I 125) 0 v).1) ∧ h' = p_mk Ls J2 L R X) := by
    intro Z hZ
    have z : ∀ a, ¬ a = 32 → ¬ a = 122 → (a < 71 ∨ 81 < a ∨ a = 79) → ¬ a = 46 → ¬ a = 47 → Z a = I a := fun a a1 a2 a3 a4 a5 => (hZ a a1 a2).trans (f1 a a3 a4 a5)
    refine kept_0 (Ls := Ls) (L := L) (R := R) (X := X) (D := d + 59) v ⟨z 125 (by omega) (by omega) (by omega) (by omega) (by omega), hV, hx.2.2.2.1⟩ ?_ (by omega)
    obtain ⟨r1, r2, r3, r4⟩ := hr
    exact ⟨z 125 (by omega) (by omega) (by omega) (by omega) (by omega), by rw [z 123 (by omega) (by omega) (by omega) (by omega) (by omega)]; exact r2, r3, fun i hi => by rw [z 136 (by omega) (by omega) (by omega) (by omega) (by omega)]⟩
  by_cases hw : (actW c (I 125) 0 v).2 = []
  · have fin : ∀ (r : Int32) (j : Nat), j < 7 → (actW c (I 125) 0 v).1 = r → (∀ (J : Nat → Nat → Int32), P_m (d + 59) 118 [.ref 32, .int r] (p_mk Ls J L R X) (fun w h' => w = some (.int r) ∧ h' = p_mk Ls (p_u (p_u J 32 14 r) 122 j (J 122 j + 1)) L R X)) → (∀ (J : Nat → Nat → Int32), P_m (d + 59) 212 [.ref 123, .int r] (p_mk Ls J L R X) (fun w h' => w = some (.int r) ∧ h' = p_mk Ls (p_u (p_u J 123 0 r) 124 j (J 124 j + 1)) L R X)) → Same (d + 60) 95 217 [.int v] Ls (p_mk Ls I L R X) := by
      intro r j hj er sc sm
      rw [er] at s1
      have sc1 := sc J1
      generalize hZ : p_u (p_u J1 32 14 r) 122 j (J1 122 j + 1) = Z at sc1
      have zz : ∀ a, ¬ a = 32 → ¬ a = 122 → Z a = J1 a := fun a a1 a2 => by rw [← hZ, p_u_ne a2, p_u_ne a1]
      obtain ⟨J2, f2, c2, s2⟩ := bothR Z zz
      rw [er] at s2
      have sm2 := sm J2
      have H2 : Inv (p_u (p_u J2 123 0 r) 124 j (J2 124 j + 1)) R X := by
        -- as both sides refuse, over what the acts left
        generalize hY : (fun a => if a = 32 then J1 32 else if a = 122 then J1 122 else J2 a) = Y
        have y32 : Y 32 = J1 32 := by rw [← hY]; rfl
        have y122 : Y 122 = J1 122 := by rw [← hY]; rfl
        have ya : ∀ a, ¬ a = 32 → ¬ a = 122 → Y a = J2 a := fun a a1 a2 => by rw [← hY]; show (if a = 32 then _ else if a = 122 then _ else _) = _; rw [if_neg a1, if_neg a2]
        have fY : frM J1 Y := by
          refine ⟨fun a a1 a2 a3 a4 => ?_, fun q q1 q2 => ?_⟩
          · by_cases e32 : a = 32
            · subst e32; exact y32
            · by_cases e122 : a = 122
              · subst e122; exact y122
              · rw [ya a e32 e122, f2.1 a a1 a2 a3 a4, zz a e32 e122]
          · rw [ya 123 (by omega) (by omega), f2.2 q q1 q2, zz 123 (by omega) (by omega)]
        have cY : rfS Y (nxK c (I 125) 0 v) (nxN c (I 125) 0 v k) (nxM c (I 125) 0 v k (I 136)) := by
          obtain ⟨r1, r2, r3, r4⟩ := c2
          exact ⟨by rw [ya 125 (by omega) (by omega)]; exact r1, by rw [ya 123 (by omega) (by omega)]; exact r2, r3, fun i hi => by rw [ya 136 (by omega) (by omega)]; exact r4 i hi⟩
        have HY := inv_no r j hj (Inv_cr H f1 c1 fY cY nv nh)
        have eq : p_u (p_u (p_u (p_u Y 32 14 r) 122 j (Y 122 j + 1)) 123 0 r) 124 j (Y 124 j + 1) = p_u (p_u J2 123 0 r) 124 j (J2 124 j + 1) := by
          funext a
          by_cases e124 : a = 124
          · subst e124
            rw [p_u_self, p_u_self, p_u_ne (by omega), p_u_ne (by omega), p_u_ne (by omega), p_u_ne (by omega), ya 124 (by omega) (by omega)]
          · rw [p_u_ne e124, p_u_ne e124]
            by_cases e123 : a = 123
            · subst e123
              rw [p_u_self, p_u_self, p_u_ne (by omega), p_u_ne (by omega), ya 123 (by omega) (by omega)]
            · rw [p_u_ne e123, p_u_ne e123]
              by_cases e122 : a = 122
              · subst e122
                rw [p_u_self, p_u_ne (by omega), y122, f2.1 122 (by omega) (by omega) (by omega) (by omega), ← hZ, p_u_self, p_u_ne (by omega)]
              · rw [p_u_ne e122]
                by_cases e32 : a = 32
                · subst e32
                  rw [p_u_self, y32, f2.1 32 (by omega) (by omega) (by omega) (by omega), ← hZ, p_u_ne (by omega), p_u_self]
                · rw [p_u_ne e32, ya a e32 e122]
        rw [eq] at HY
        exact HY
      simp -implicitDefEqProofs (disch := first | omega | decide) only [P_m, ↓P_run_eq _ 95 _ (p_bk 95 0), bk_95_0, pb_95_0, ↓P_run_eq _ 217 _ (p_bk 217 0), bk_217_0, pb_217_0, pw_aload_n0, pw_aloadN_n0, pw_iconst, il_0, pw_iload_n1, pw_iv3, pw_iv2, pw_ret0, kd_32, rf_32_0, rf_32_1, rf_32_2, rf_32_3, rf_32_4, rf_32_5, rf_32_6, rf_32_7, rf_32_8, rf_32_9, rf_32_11, rf_32_12, rf_32_13, kd_123, rf_123_1, rf_123_2, rf_123_3, rf_123_4, rf_123_5, rf_123_7, rf_123_11, rf_123_12, rf_123_15, rf_123_16, rf_123_17, rf_123_26, rf_123_29, rf_123_30, rf_123_32, rf_123_34, rf_123_35, rf_123_45, n_0, n_1, nn_lt, nn_nlt, nn_le, nn_nle, nn_ne, nn_sub, nn_mul, nI_add, nn_neg, nm_eq, mn_eq, mm_eq, mn_lt, nm_lt, mn_le, nm_le, nn_sub0, nn_of, implies_true, nn_c, nn_in, nn_div, nat_rem, Nat.reduceMul, Nat.reduceSub, Nat.reduceDiv, Nat.reduceMod, pf_at, pf_ne, mk_s, mk_1, Classical.not_not, b2i_T, b2i_F, false_imp_iff, true_imp_iff, false_and, and_false, p_sw, Int.reduceAdd, Int.zero_add, Option.some.injEq, Value.int.injEq, Value.long.injEq, Value.ref.injEq, exists_eq_left', mk_I, mk_L, mk_wI, mk_wL, rf_s, rf_n, true_and, and_true, and_self, or_true, true_or, or_false, false_or, not_true_eq_false, not_false_eq_true, Option.toList_some, Option.toList_none, List.cons_append, List.nil_append, List.map_nil, List.map_cons, List.sum_nil, List.sum_cons, cat_i, cat_l, cat_r, cat_n, Nat.reduceLeDiff, Nat.reduceAdd, Nat.reduceEqDiff, Nat.zero_le, p_ent, p_u_ne, p_u_at, reduceIte, if_true, if_false, Same, P_ce s1, P_ce sc1, P_ce s2, P_ce sm2]
      exact ⟨_, _, _, _, rfl, H2⟩
    rcases actW_e hw with e | e | e
    · exact fin (-1) 1 (by omega) e (fun J => sp_118_1) (fun J => sp_212_1)
    · exact fin (-2) 2 (by omega) e (fun J => sp_118_2) (fun J => sp_212_2)
    · exact fin (-3) 3 (by omega) e (fun J => sp_118_3) (fun J => sp_212_3)
  · obtain ⟨-, -, -, x, hx9, ex⟩ := actW_n hV hw
    have gx : 0 ≤ nI x := nI_pos' (by omega)
    rw [ex] at s1
    have sc1 := sp_118g (d := d + 58) (Ls := Ls) (I := J1) (L := L) (R := R) (X := X) (nI x) gx
    obtain ⟨J2, f2, c2, s2⟩ := bothR (p_u J1 32 14 (nI 0)) (fun a a1 _ => p_u_ne a1)
    rw [ex] at s2
    have sm2 := sp_212g (d := d + 58) (Ls := Ls) (I := J2) (L := L) (R := R) (X := X) (nI x) gx
    have H2 : Inv (p_u J2 123 0 0) R X := by
      generalize hY : (fun a => if a = 32 then J1 32 else J2 a) = Y
      have y32 : Y 32 = J1 32 := by rw [← hY]; rfl
      have ya : ∀ a, ¬ a = 32 → Y a = J2 a := fun a a1 => by rw [← hY]; show (if a = 32 then _ else _) = _; rw [if_neg a1]
      have fY : frM J1 Y := by
        refine ⟨fun a a1 a2 a3 a4 => ?_, fun q q1 q2 => ?_⟩
        · by_cases e32 : a = 32
          · subst e32; exact y32
          · rw [ya a e32, f2.1 a a1 a2 a3 a4, p_u_ne e32]
        · rw [ya 123 (by omega), f2.2 q q1 q2, p_u_ne (by omega)]
      have cY : rfS Y (nxK c (I 125) 0 v) (nxN c (I 125) 0 v k) (nxM c (I 125) 0 v k (I 136)) := by
        obtain ⟨r1, r2, r3, r4⟩ := c2
        exact ⟨by rw [ya 125 (by omega)]; exact r1, by rw [ya 123 (by omega)]; exact r2, r3, fun i hi => by rw [ya 136 (by omega)]; exact r4 i hi⟩
      have HY := inv_ok (Inv_cr H f1 c1 fY cY nv nh)
      have eq : p_u (p_u Y 32 14 0) 123 0 0 = p_u J2 123 0 0 := by
        funext a
        by_cases e123 : a = 123
        · subst e123
          rw [p_u_self, p_u_self, p_u_ne (by omega), ya 123 (by omega)]
        · rw [p_u_ne e123, p_u_ne e123]
          by_cases e32 : a = 32
          · subst e32
            rw [p_u_self, y32, f2.1 32 (by omega) (by omega) (by omega) (by omega), p_u_self]
            rfl
          · rw [p_u_ne e32, ya a e32]
      rw [eq] at HY
      exact HY
    simp -implicitDefEqProofs (disch := first | omega | decide) only [P_m, ↓P_run_eq _ 95 _ (p_bk 95 0), bk_95_0, pb_95_0, ↓P_run_eq _ 217 _ (p_bk 217 0), bk_217_0, pb_217_0, pw_aload_n0, pw_aloadN_n0, pw_iconst, il_0, pw_iload_n1, pw_iv3, pw_iv2, pw_ret0, kd_32, rf_32_0, rf_32_1, rf_32_2, rf_32_3, rf_32_4, rf_32_5, rf_32_6, rf_32_7, rf_32_8, rf_32_9, rf_32_11, rf_32_12, rf_32_13, kd_123, rf_123_1, rf_123_2, rf_123_3, rf_123_4, rf_123_5, rf_123_7, rf_123_11, rf_123_12, rf_123_15, rf_123_16, rf_123_17, rf_123_26, rf_123_29, rf_123_30, rf_123_32, rf_123_34, rf_123_35, rf_123_45, n_0, n_1, nn_lt, nn_nlt, nn_le, nn_nle, nn_ne, nn_sub, nn_mul, nI_add, nn_neg, nm_eq, mn_eq, mm_eq, mn_lt, nm_lt, mn_le, nm_le, nn_sub0, nn_of, implies_true, nn_c, nn_in, nn_div, nat_rem, Nat.reduceMul, Nat.reduceSub, Nat.reduceDiv, Nat.reduceMod, pf_at, pf_ne, mk_s, mk_1, Classical.not_not, b2i_T, b2i_F, false_imp_iff, true_imp_iff, false_and, and_false, p_sw, Int.reduceAdd, Int.zero_add, Option.some.injEq, Value.int.injEq, Value.long.injEq, Value.ref.injEq, exists_eq_left', mk_I, mk_L, mk_wI, mk_wL, rf_s, rf_n, true_and, and_true, and_self, or_true, true_or, or_false, false_or, not_true_eq_false, not_false_eq_true, Option.toList_some, Option.toList_none, List.cons_append, List.nil_append, List.map_nil, List.map_cons, List.sum_nil, List.sum_cons, cat_i, cat_l, cat_r, cat_n, Nat.reduceLeDiff, Nat.reduceAdd, Nat.reduceEqDiff, Nat.zero_le, p_ent, p_u_ne, p_u_at, reduceIte, if_true, if_false, Same, P_ce s1, P_ce sc1, P_ce s2, P_ce sm2]
    exact ⟨_, _, _, _, rfl, H2⟩
end AK
