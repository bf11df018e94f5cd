/-! GUESS: rows of questions, the ages they come to -/
def kG (K : Nat → Int32) (a : Nat) (mo : Nat → Nat) : Nat → Int32 := fun j => if j = 2 then nI a else if 5 ≤ j ∧ j < 13 then nI (min (kn K j + mo (j - 5)) 999) else K j
def moA (mo : Nat → Nat) (q : Nat) : Nat → Nat := fun j => if j = q then mo j + 1 else mo j
def yG (c : Option (List tCl)) (K : Nat → Int32) (a : Nat) (mo : Nat → Nat) (q : Nat) : Nat := yv c (kG K a mo) q (pc (kn K 0))
abbrev guT := Nat × List Nat
def foG (g : Nat → guT → guT) : Nat → guT → guT
  | 0, s => s
  | i + 1, s => g i (foG g i s)
def stG (w : Option Nat) (p : List Nat) (s : guT) : guT := (s.1 + 1, if w = some s.1 then p else s.2)
def gdf (c : Option (List tCl)) (K : Nat → Int32) (m : Nat) (w : Option Nat) : Nat → Nat → (Nat → Nat) → List Nat → guT → guT
  | 0, a, _, p, s => if a = kn K 2 then stG w p s else s
  | f + 1, a, mo, p, s => foG (fun q s => gdf c K m w f (a + yG c K a mo q) (moA mo q) (p ++ [q]) s) m s
theorem foG_ind {P : guT → Prop} {g : Nat → guT → guT} : ∀ k s, P s → (∀ i s, i < k → P s → P (g i s)) → P (foG g k s)
  | 0, s, h, _ => h
  | k + 1, s, h, hg => hg k _ (by omega) (foG_ind k s h (fun i s hi => hg i s (by omega)))
theorem gdf_id {c : Option (List tCl)} {K : Nat → Int32} {m : Nat} {w : Option Nat} : ∀ f a mo p s, kn K 2 < a → gdf c K m w f a mo p s = s
  | 0, a, _, p, s, h => by
    show (if a = kn K 2 then _ else _) = _
    rw [if_neg (by omega)]
  | f + 1, a, mo, p, s, h => by
    unfold gdf
    refine foG_ind (P := fun x => x = s) m s rfl (fun i x _ hx => ?_)
    rw [hx]
    exact gdf_id f _ _ _ _ (by omega)
/-- at most 8 ^ f more -/
theorem foG_le {g : Nat → guT → guT} {B : Nat} : ∀ k s, (∀ i s, i < k → (g i s).1 ≤ s.1 + B) → (foG g k s).1 ≤ s.1 + k * B
  | 0, s, _ => by show s.1 ≤ _; omega
  | k + 1, s, h => by
    have h1 := foG_le k s (fun i s hi => h i s (by omega))
    have h2 := h k (foG g k s) (by omega)
    show (g k (foG g k s)).1 ≤ _
    rw [Nat.succ_mul]
    omega
theorem gdf_le {c : Option (List tCl)} {K : Nat → Int32} {m : Nat} {w : Option Nat} (hm : m ≤ 8) : ∀ f a mo p s, (gdf c K m w f a mo p s).1 ≤ s.1 + 8 ^ f
  | 0, a, _, p, s => by
    show (if a = kn K 2 then stG w p s else s).1 ≤ _
    split
    · exact Nat.le_refl _
    · omega
  | f + 1, a, mo, p, s => by
    unfold gdf
    have h := foG_le (B := 8 ^ f) m s (g := fun q s => gdf c K m w f (a + yG c K a mo q) (moA mo q) (p ++ [q]) s) (fun i s _ => gdf_le hm f (a + yG c K a mo i) (moA mo i) (p ++ [i]) s)
    have : m * 8 ^ f ≤ 8 * 8 ^ f := Nat.mul_le_mul_right _ hm
    rw [Nat.pow_succ]
    omega
theorem gdf_ge {c : Option (List tCl)} {K : Nat → Int32} {m : Nat} {w : Option Nat} : ∀ f a mo p s, s.1 ≤ (gdf c K m w f a mo p s).1
  | 0, a, _, p, s => by
    show _ ≤ (if a = kn K 2 then stG w p s else s).1
    split
    · exact Nat.le_succ _
    · exact Nat.le_refl _
  | f + 1, a, mo, p, s => by
    unfold gdf
    refine foG_ind (P := fun x => s.1 ≤ x.1) m s (Nat.le_refl _) (fun i x _ hx => ?_)
    exact Nat.le_trans hx (gdf_ge f _ _ _ _)
section GU
variable {K : Nat → Int32} {c : Option (List tCl)}
theorem env_G (hV : vld K) {q a : Nat} {mo : Nat → Nat} (hq : q < 8) (ha : a ≤ 12000) : envOk (kG K a mo) q := by
  obtain ⟨e0, e1, e2, e3, e4, e5, e6, e7⟩ := vld_env hV hq
  have g : ∀ j, ¬ j = 2 → ¬ (5 ≤ j ∧ j < 13) → kG K a mo j = K j := fun j h1 h2 => by unfold kG; rw [if_neg h1, if_neg h2]
  refine ⟨e0, ?_, ?_, ?_, ?_, ?_, ?_, ?_⟩
  · rw [g _ (by omega) (by omega)]; exact e1
  · rw [g _ (by omega) (by omega)]; exact e2
  · refine ⟨min (kn K (5 + q) + mo q) 999, by omega, ?_⟩
    unfold kG
    rw [if_neg (by omega), if_pos (by omega), show 5 + q - 5 = q by omega]
  · rw [g _ (by omega) (by omega)]; exact e4
  · refine ⟨a, by omega, ?_⟩
    unfold kG
    rw [if_pos rfl]
  · rw [g _ (by omega) (by omega)]; exact e6
  · rw [g _ (by omega) (by omega)]; exact e7
theorem yG_le (hV : vld K) {q a : Nat} {mo : Nat → Nat} (hq : q < 8) (ha : a ≤ 12000) : yG c K a mo q ≤ 99 := (yv_e (env_G hV hq ha) (pc_le _)).2
theorem kG_0 {a : Nat} {mo : Nat → Nat} : kG K a mo 0 = K 0 := by unfold kG; rw [if_neg (by omega), if_neg (by omega)]
theorem kG_w {a q : Nat} {mo : Nat → Nat} (hq : q < 8) {lf : Int32} : wEnv (kG K a mo) q lf = upd (upd (wEnv K q lf) 5 (nI a)) 3 (nI (min (kn K (5 + q) + mo q) 999)) := by
  have g : ∀ j, ¬ j = 2 → ¬ (5 ≤ j ∧ j < 13) → kG K a mo j = K j := fun j h1 h2 => by unfold kG; rw [if_neg h1, if_neg h2]
  have g2 : kG K a mo 2 = nI a := by unfold kG; rw [if_pos rfl]
  have g5 : kG K a mo (5 + q) = nI (min (kn K (5 + q) + mo q) 999) := by unfold kG; rw [if_neg (by omega), if_pos (by omega), show 5 + q - 5 = q by omega]
  funext j
  by_cases h3 : j = 3
  · rw [h3, upd_eq]
    unfold wEnv
    rw [g5]; rfl
  · rw [upd_ne h3]
    by_cases h5 : j = 5
    · rw [h5, upd_eq]
      unfold wEnv
      rw [g2]; rfl
    · rw [upd_ne h5]
      unfold wEnv
      rw [if_neg h3, if_neg h5, if_neg h3, if_neg h5, g (21 + q) (by omega) (by omega), g (29 + q) (by omega) (by omega), g 51 (by omega) (by omega), g 1 (by omega) (by omega), g 3 (by omega) (by omega)]
end GU
section GV
variable {d Ls : Nat} {I : Nat → Nat → Int32} {L : Nat → Nat → Int64} {R : Nat → Nat → Option Nat} {X : List pKd} {h : pHp} {c : Option (List tCl)} {K : Nat → Int32} {r : Option Nat}
def frU (I J : Nat → Nat → Int32) : Prop := (∀ a, ¬ a = 48 → ¬ a = 50 → ¬ a = 51 → ¬ a = 61 → ¬ a = 66 → ¬ a = 69 → J a = I a) ∧ ∀ k, ¬ k = 17 → J 48 k = I 48 k
theorem frU_rf : frU I I := ⟨fun _ _ _ _ _ _ _ => rfl, fun _ _ => rfl⟩
theorem frU_tr {J H : Nat → Nat → Int32} (h1 : frU I J) (h2 : frU J H) : frU I H := ⟨fun a a1 a2 a3 a4 a5 a6 => (h2.1 a a1 a2 a3 a4 a5 a6).trans (h1.1 a a1 a2 a3 a4 a5 a6), fun k hk => (h2.2 k hk).trans (h1.2 k hk)⟩
/-- how many were found, and the wanted row -/
def gcl (I : Nat → Nat → Int32) (w : Option Nat) (s : guT) (P : Nat) : Prop := I 48 17 = nI s.1 ∧ s.1 ≤ 512 ∧ ∀ i, w = some i → i < s.1 → s.2.length = P ∧ ∀ j, j < P → I 61 j = nI (s.2.getD j 0)
theorem gcl_f {J : Nat → Nat → Int32} {w : Option Nat} {s : guT} {P : Nat} (h : gcl I w s P) (e1 : J 48 17 = I 48 17) (e2 : J 61 = I 61) : gcl J w s P := by
  unfold gcl
  rw [e1, e2]
  exact h
theorem pl_50 {k m : Nat} {w : Option Nat} {I0 : Nat → Nat → Int32} (hV : vld K) (hK : hutR I0 71 K) (hc : clw Ls I0 R X r c) (hg : cgL c) (hr1 : R 48 1 = some 71) (hr : R 48 2 = r) (hk : k ≤ 3) (em : m = kn K 53) (hw : ∀ i, w = some i → i < 2147483648) (h16 : I0 48 16 = pnI w) : ∀ f pos a mo p s I, pos + f = k → a ≤ 12000 → p.length = pos → (∀ q, q < 8 → mo q ≤ pos) → (∀ q, q < 8 → I 69 q = nI (mo q)) → rwC I p → frU I0 I → gcl I w s k → s.1 + 8 ^ f ≤ 512 →
    ∃ J, (frU I0 J ∧ (∀ j, j < pos → J 66 j = I 66 j) ∧ (∀ q, q < 8 → J 69 q = I 69 q) ∧ gcl J w (gdf c K m w f a mo p s) k) ∧ P_m (d + f + 6) 50 [.ref 48, .int (nI pos), .int (nI k), .int (nI a)] (p_mk Ls I L R X) (fun v h' => v = none ∧ h' = p_mk Ls J L R X) := by
  have g2 : K 2 = nI (kn K 2) ∧ kn K 2 ≤ 9999 := kn_e hV (by omega) (by omega) (by omega)
  obtain ⟨m1, m2⟩ := kn_53 hV
  rw [← em] at m1 m2
  obtain ⟨⟨r1, r2, r3, r4, r5, r6, r7, r8⟩, rb, ra, -⟩ := hutR_at hK
  obtain ⟨k1, k2, k3⟩ := kn_0 hV
  have prune : ∀ f pos a (I : Nat → Nat → Int32), frU I0 I → a ≤ 12000 → kn K 2 < a → P_m (d + f + 6) 50 [.ref 48, .int (nI pos), .int (nI k), .int (nI a)] (p_mk Ls I L R X) (fun v h' => v = none ∧ h' = p_mk Ls I L R X) := by
    intro f pos a I fI ha hl
    have t2 : I 78 2 = nI (kn K 2) := by rw [fI.1 78 (by omega) (by omega) (by omega) (by omega) (by omega) (by omega)]; exact rb.2.2.trans g2.1
    generalize kn K 2 = A at *
    simp -implicitDefEqProofs (disch := first | omega | decide) only [P_m, ↓P_run_eq _ 50 _ (p_bk 50 0), bk_50_0, pb_50_0, pw_iload_n3, pw_aload_n0, pw_aloadN_n0, pw_getR, pw_iconst, il_2, pw_iald, pw_cle, pw_vret, kd_48, rf_48_0, rf_48_6, rf_48_7, rf_48_8, rf_48_9, rf_48_10, rf_48_12, rf_48_13, rf_48_14, rf_48_15, rf_48_1, rf_48_2, kd_71, rf_71_1, rf_71_3, rf_71_4, rf_71_5, rf_71_6, rf_71_11, rf_71_12, rf_71_14, kd_78, n_0, n_1, n_2, nn_lt, nn_nlt, nn_le, nn_nle, nn_ne, nn_sub, nn_mul, nI_add, nn_neg, nm_eq, mn_eq, mm_eq, mn_lt, nm_lt, mn_le, nm_le, nn_sub0, nn_of, implies_true, nn_c, nn_in, nn_div, nat_rem, Nat.reduceMul, Nat.reduceSub, Nat.reduceDiv, Nat.reduceMod, pf_at, pf_ne, mk_s, mk_1, Classical.not_not, b2i_T, b2i_F, false_imp_iff, true_imp_iff, false_and, and_false, p_sw, Int.reduceAdd, Int.zero_add, Option.some.injEq, Value.int.injEq, Value.long.injEq, Value.ref.injEq, exists_eq_left', mk_I, mk_L, mk_wI, mk_wL, rf_s, rf_n, true_and, and_true, and_self, or_true, true_or, or_false, false_or, not_true_eq_false, not_false_eq_true, Option.toList_some, Option.toList_none, List.cons_append, List.nil_append, List.map_nil, List.map_cons, List.sum_nil, List.sum_cons, cat_i, cat_l, cat_r, cat_n, Nat.reduceLeDiff, Nat.reduceAdd, Nat.reduceEqDiff, Nat.zero_le, p_ent, p_u_ne, p_u_at, reduceIte, if_true, if_false, hr1, va_rs, t2]
  intro f
  induction f with
  | zero =>
    intro pos a mo p s I hpos ha hpl hmo h69 hrw hfr hs hs8
    by_cases pr : kn K 2 < a
    · exact ⟨I, ⟨hfr, fun _ _ => rfl, fun _ _ => rfl, by rw [gdf_id 0 _ _ _ _ pr]; exact hs⟩, prune 0 pos a I hfr ha pr⟩
    · have t2 : I 78 2 = nI (kn K 2) := by rw [hfr.1 78 (by omega) (by omega) (by omega) (by omega) (by omega) (by omega)]; exact rb.2.2.trans g2.1
      have e16 : I 48 16 = pnI w := by rw [hfr.2 16 (by omega)]; exact h16
      obtain ⟨s1, s2, s3⟩ := hs
      have pk : pos = k := by omega
      by_cases ea : a = kn K 2
      · have eg : gdf c K m w 0 a mo p s = stG w p s := by
          show (if a = kn K 2 then _ else _) = _
          rw [if_pos ea]
        rw [eg]
        by_cases ew : w = some s.1
        · refine ⟨p_u (p_fn I 61 (va_cpy (I 66) (I 61) 0 0 3)) 48 17 (nI (s.1 + 1)), ⟨⟨fun b b1 b2 b3 b4 b5 b6 => by rw [p_u_ne b1, pf_ne b4]; exact hfr.1 b b1 b2 b3 b4 b5 b6, fun j hj => by rw [p_u_at, if_neg hj, pf_ne (by omega)]; exact hfr.2 j hj⟩, fun j _ => by rw [p_u_ne (by omega), pf_ne (by omega)], fun j _ => by rw [p_u_ne (by omega), pf_ne (by omega)], ⟨by rw [p_u_at, if_pos rfl]; rfl, by show s.1 + 1 ≤ 512; omega, fun i hi hl => ?_⟩⟩, ?_⟩
          · unfold stG
            rw [if_pos ew]
            refine ⟨show p.length = k by omega, fun j hj => ?_⟩
            rw [p_u_ne (by omega), pf_at]
            unfold va_cpy
            rw [if_pos (by omega), show 0 + (j - 0) = j by omega]
            exact hrw j (by omega)
          · rw [ew] at e16
            replace e16 : I 48 16 = nI s.1 := e16
            have e17 : p_fn I 61 (va_cpy (I 66) (I 61) 0 0 3) 48 17 = nI s.1 := by rw [pf_ne (by omega)]; exact s1
            clear s3 prune hrw h69 hmo
            subst ea
            generalize kn K 2 = A at *
            generalize s.1 = S at *
            simp -implicitDefEqProofs (disch := first | omega | decide) only [P_m, ↓P_run_eq _ 50 _ (p_bk 50 0), bk_50_0, pb_50_0, ↓P_run_eq _ 50 _ (p_bk 50 1), bk_50_1, pb_50_1, ↓P_run_eq _ 50 _ (p_bk 50 2), bk_50_2, pb_50_2, ↓P_run_eq _ 50 _ (p_bk 50 3), bk_50_3, pb_50_3, ↓P_run_eq _ 50 _ (p_bk 50 4), bk_50_4, pb_50_4, pw_iload_n3, pw_aload_n0, pw_aloadN_n0, pw_getR, pw_iconst, il_2, pw_iald, pw_cle, pw_vret, pw_iload_n1, pw_iload_n2, pw_cge, il_3, pw_clt, pw_nop, pw_cne, pw_getI, il_0, pw_copy, pw_dupi, pw_dupr, il_1, pw_iadd, pw_putI, kd_48, rf_48_0, rf_48_6, rf_48_7, rf_48_8, rf_48_9, rf_48_10, rf_48_12, rf_48_13, rf_48_14, rf_48_15, rf_48_1, rf_48_2, kd_61, kd_66, kd_71, rf_71_1, rf_71_3, rf_71_4, rf_71_5, rf_71_6, rf_71_11, rf_71_12, rf_71_14, kd_78, n_0, n_1, n_2, n_3, nn_lt, nn_nlt, nn_le, nn_nle, nn_ne, nn_sub, nn_mul, nI_add, nn_neg, nm_eq, mn_eq, mm_eq, mn_lt, nm_lt, mn_le, nm_le, nn_sub0, nn_of, implies_true, nn_c, nn_in, nn_div, nat_rem, Nat.reduceMul, Nat.reduceSub, Nat.reduceDiv, Nat.reduceMod, pf_at, pf_ne, mk_s, mk_1, Classical.not_not, b2i_T, b2i_F, false_imp_iff, true_imp_iff, false_and, and_false, p_sw, Int.reduceAdd, Int.zero_add, Option.some.injEq, Value.int.injEq, Value.long.injEq, Value.ref.injEq, exists_eq_left', mk_I, mk_L, mk_wI, mk_wL, rf_s, rf_n, true_and, and_true, and_self, or_true, true_or, or_false, false_or, not_true_eq_false, not_false_eq_true, Option.toList_some, Option.toList_none, List.cons_append, List.nil_append, List.map_nil, List.map_cons, List.sum_nil, List.sum_cons, cat_i, cat_l, cat_r, cat_n, Nat.reduceLeDiff, Nat.reduceAdd, Nat.reduceEqDiff, Nat.zero_le, p_ent, p_u_ne, p_u_at, reduceIte, if_true, if_false, hr1, va_rs, t2, e16, e17, s1]
        · refine ⟨p_u I 48 17 (nI (s.1 + 1)), ⟨⟨fun b b1 b2 b3 b4 b5 b6 => by rw [p_u_ne b1]; exact hfr.1 b b1 b2 b3 b4 b5 b6, fun j hj => by rw [p_u_at, if_neg hj]; exact hfr.2 j hj⟩, fun j _ => by rw [p_u_ne (by omega)], fun j _ => by rw [p_u_ne (by omega)], ⟨by rw [p_u_at, if_pos rfl]; rfl, by show s.1 + 1 ≤ 512; omega, fun i hi hl => ?_⟩⟩, ?_⟩
          · unfold stG at hl ⊢
            rw [if_neg ew]
            have hne : ¬ i = s.1 := fun h => ew (by rw [hi, h])
            obtain ⟨z1, z2⟩ := s3 i hi (by dsimp only at hl; omega)
            exact ⟨z1, fun j hj => by rw [p_u_ne (by omega)]; exact z2 j hj⟩
          · have ne : ¬ nI s.1 = pnI w := by
              cases w with
              | none =>
                intro h
                have := congrArg Int32.toInt h
                rw [nI_toInt (by omega), show (pnI none).toInt = -1 from by decide] at this
                omega
              | some i =>
                intro h
                have h := congrArg Int32.toInt h
                have hi := hw i rfl
                rw [nI_toInt (by omega), show (pnI (some i)).toInt = i from nI_toInt (by omega)] at h
                exact ew (by rw [show i = s.1 by omega])
            clear s3 prune hrw h69 hmo
            subst ea
            generalize kn K 2 = A at *
            generalize s.1 = S at *
            generalize pnI w = W at *
            simp -implicitDefEqProofs (disch := first | omega | decide) only [P_m, ↓P_run_eq _ 50 _ (p_bk 50 0), bk_50_0, pb_50_0, ↓P_run_eq _ 50 _ (p_bk 50 1), bk_50_1, pb_50_1, ↓P_run_eq _ 50 _ (p_bk 50 2), bk_50_2, pb_50_2, ↓P_run_eq _ 50 _ (p_bk 50 3), bk_50_3, pb_50_3, ↓P_run_eq _ 50 _ (p_bk 50 4), bk_50_4, pb_50_4, pw_iload_n3, pw_aload_n0, pw_aloadN_n0, pw_getR, pw_iconst, il_2, pw_iald, pw_cle, pw_vret, pw_iload_n1, pw_iload_n2, pw_cge, il_3, pw_clt, pw_nop, pw_cne, pw_getI, il_0, pw_copy, pw_dupi, pw_dupr, il_1, pw_iadd, pw_putI, kd_48, rf_48_0, rf_48_6, rf_48_7, rf_48_8, rf_48_9, rf_48_10, rf_48_12, rf_48_13, rf_48_14, rf_48_15, rf_48_1, rf_48_2, kd_71, rf_71_1, rf_71_3, rf_71_4, rf_71_5, rf_71_6, rf_71_11, rf_71_12, rf_71_14, kd_78, n_0, n_1, n_2, n_3, nn_lt, nn_nlt, nn_le, nn_nle, nn_ne, nn_sub, nn_mul, nI_add, nn_neg, nm_eq, mn_eq, mm_eq, mn_lt, nm_lt, mn_le, nm_le, nn_sub0, nn_of, implies_true, nn_c, nn_in, nn_div, nat_rem, Nat.reduceMul, Nat.reduceSub, Nat.reduceDiv, Nat.reduceMod, pf_at, pf_ne, mk_s, mk_1, Classical.not_not, b2i_T, b2i_F, false_imp_iff, true_imp_iff, false_and, and_false, p_sw, Int.reduceAdd, Int.zero_add, Option.some.injEq, Value.int.injEq, Value.long.injEq, Value.ref.injEq, exists_eq_left', mk_I, mk_L, mk_wI, mk_wL, rf_s, rf_n, true_and, and_true, and_self, or_true, true_or, or_false, false_or, not_true_eq_false, not_false_eq_true, Option.toList_some, Option.toList_none, List.cons_append, List.nil_append, List.map_nil, List.map_cons, List.sum_nil, List.sum_cons, cat_i, cat_l, cat_r, cat_n, Nat.reduceLeDiff, Nat.reduceAdd, Nat.reduceEqDiff, Nat.zero_le, p_ent, p_u_ne, p_u_at, reduceIte, if_true, if_false, hr1, va_rs, t2, e16, s1, ne]
      · have eg : gdf c K m w 0 a mo p s = s := by
          show (if a = kn K 2 then _ else _) = _
          rw [if_neg ea]
        rw [eg]
        refine ⟨I, ⟨hfr, fun _ _ => rfl, fun _ _ => rfl, ⟨s1, s2, s3⟩⟩, ?_⟩
        clear s3 prune hrw h69 hmo
        generalize kn K 2 = A at *
        simp -implicitDefEqProofs (disch := first | omega | decide) only [P_m, ↓P_run_eq _ 50 _ (p_bk 50 0), bk_50_0, pb_50_0, ↓P_run_eq _ 50 _ (p_bk 50 1), bk_50_1, pb_50_1, ↓P_run_eq _ 50 _ (p_bk 50 2), bk_50_2, pb_50_2, ↓P_run_eq _ 50 _ (p_bk 50 4), bk_50_4, pb_50_4, pw_iload_n3, pw_aload_n0, pw_aloadN_n0, pw_getR, pw_iconst, il_2, pw_iald, pw_cle, pw_vret, pw_iload_n1, pw_iload_n2, pw_cge, il_3, pw_clt, pw_nop, pw_cne, pw_getI, il_0, pw_copy, kd_48, rf_48_0, rf_48_6, rf_48_7, rf_48_8, rf_48_9, rf_48_10, rf_48_12, rf_48_13, rf_48_14, rf_48_15, rf_48_1, rf_48_2, kd_71, rf_71_1, rf_71_3, rf_71_4, rf_71_5, rf_71_6, rf_71_11, rf_71_12, rf_71_14, kd_78, n_0, n_1, n_2, n_3, nn_lt, nn_nlt, nn_le, nn_nle, nn_ne, nn_sub, nn_mul, nI_add, nn_neg, nm_eq, mn_eq, mm_eq, mn_lt, nm_lt, mn_le, nm_le, nn_sub0, nn_of, implies_true, nn_c, nn_in, nn_div, nat_rem, Nat.reduceMul, Nat.reduceSub, Nat.reduceDiv, Nat.reduceMod, pf_at, pf_ne, mk_s, mk_1, Classical.not_not, b2i_T, b2i_F, false_imp_iff, true_imp_iff, false_and, and_false, p_sw, Int.reduceAdd, Int.zero_add, Option.some.injEq, Value.int.injEq, Value.long.injEq, Value.ref.injEq, exists_eq_left', mk_I, mk_L, mk_wI, mk_wL, rf_s, rf_n, true_and, and_true, and_self, or_true, true_or, or_false, false_or, not_true_eq_false, not_false_eq_true, Option.toList_some, Option.toList_none, List.cons_append, List.nil_append, List.map_nil, List.map_cons, List.sum_nil, List.sum_cons, cat_i, cat_l, cat_r, cat_n, Nat.reduceLeDiff, Nat.reduceAdd, Nat.reduceEqDiff, Nat.zero_le, p_ent, p_u_ne, p_u_at, reduceIte, if_true, if_false, hr1, va_rs, t2]
  | succ f ih =>
    intro pos a mo p s I hpos ha hpl hmo h69 hrw hfr hs hs8
    by_cases pr : kn K 2 < a
    · exact ⟨I, ⟨hfr, fun _ _ => rfl, fun _ _ => rfl, by rw [gdf_id (f + 1) _ _ _ _ pr]; exact hs⟩, prune (f + 1) pos a I hfr ha pr⟩
    · have e8 : 8 ^ (f + 1) = 8 * 8 ^ f := by rw [Nat.pow_succ]; omega
      have loop : ∀ q, q ≤ m → ∀ J, frU I0 J → (∀ j, j < pos → J 66 j = I 66 j) → (∀ q, q < 8 → J 69 q = I 69 q) → gcl J w (foG (fun q s => gdf c K m w f (a + yG c K a mo q) (moA mo q) (p ++ [q]) s) q s) k → P_run (d + f + 6 + 1) 50 (p_bk 50 6) 0 0 [.ref 48, .int (nI pos), .int (nI k), .int (nI a), .int (nI q)] [] (p_mk Ls J L R X) (fun v h' => v = none ∧ ∃ J', (frU I0 J' ∧ (∀ j, j < pos → J' 66 j = I 66 j) ∧ (∀ q, q < 8 → J' 69 q = I 69 q) ∧ gcl J' w (gdf c K m w (f + 1) a mo p s) k) ∧ h' = p_mk Ls J' L R X) := by
        refine down_ind ?_ ?_
        · intro J fJ rJ mJ sJ
          have j2 : J 71 2 = nI m := by rw [fJ.1 71 (by omega) (by omega) (by omega) (by omega) (by omega) (by omega)]; exact r2.trans m1
          have fin : gcl J w (gdf c K m w (f + 1) a mo p s) k := sJ
          clear ih sJ
          generalize gdf c K m w (f + 1) a mo p s = Z at *
          rw [P_run_eq, bk_50_6, pb_50_6]; simp -implicitDefEqProofs (disch := first | omega | decide) only [P_m, ↓P_run_eq _ 50 _ (p_bk 50 7), bk_50_7, pb_50_7, pw_iload_4, pw_aload_n0, pw_aloadN_n0, pw_getR, pw_getI, pw_cge, pw_iv3, pw_iconst, il_5, pw_iload_n3, pw_iast, il_3, pw_iald, pw_iadd, pw_sipush, sl_999, pw_min, pw_iload_n1, pw_dup2r, il_1, pw_iload_n2, pw_iv2, pw_iv4, pw_isub, pw_iinc_4, po_i4, po_r4, po_n4, po_u4, pw_goto, pw_vret, kd_48, rf_48_0, rf_48_6, rf_48_7, rf_48_8, rf_48_9, rf_48_10, rf_48_12, rf_48_13, rf_48_14, rf_48_15, rf_48_1, rf_48_2, kd_71, rf_71_1, rf_71_3, rf_71_4, rf_71_5, rf_71_6, rf_71_11, rf_71_12, rf_71_14, n_0, n_1, n_3, n_5, n_999, nn_lt, nn_nlt, nn_le, nn_nle, nn_ne, nn_sub, nn_mul, nI_add, nn_neg, nm_eq, mn_eq, mm_eq, mn_lt, nm_lt, mn_le, nm_le, nn_sub0, nn_of, implies_true, nn_c, nn_in, nn_div, nat_rem, Nat.reduceMul, Nat.reduceSub, Nat.reduceDiv, Nat.reduceMod, pf_at, pf_ne, mk_s, mk_1, Classical.not_not, b2i_T, b2i_F, false_imp_iff, true_imp_iff, false_and, and_false, p_sw, Int.reduceAdd, Int.zero_add, Option.some.injEq, Value.int.injEq, Value.long.injEq, Value.ref.injEq, exists_eq_left', mk_I, mk_L, mk_wI, mk_wL, rf_s, rf_n, true_and, and_true, and_self, or_true, true_or, or_false, false_or, not_true_eq_false, not_false_eq_true, Option.toList_some, Option.toList_none, List.cons_append, List.nil_append, List.map_nil, List.map_cons, List.sum_nil, List.sum_cons, cat_i, cat_l, cat_r, cat_n, Nat.reduceLeDiff, Nat.reduceAdd, Nat.reduceEqDiff, Nat.zero_le, p_ent, p_u_ne, p_u_at, reduceIte, if_true, if_false, hr1, va_rs, j2]
          exact ⟨J, ⟨fJ, rJ, mJ, fin⟩, rfl⟩
        · intro q hq nx J fJ rJ mJ sJ
          have q8 : q < 8 := by omega
          have fs : ∀ g, foG g (q + 1) s = g q (foG g q s) := fun g => rfl
          rw [fs] at nx
          have fl := foG_le (B := 8 ^ f) q s (fun i s (_ : i < q) => gdf_le (c := c) (K := K) (w := w) m2 f (a + yG c K a mo i) (moA mo i) (p ++ [i]) s)
          have f8 : q * 8 ^ f + 8 ^ f ≤ 8 * 8 ^ f := by
            rw [← Nat.succ_mul]
            exact Nat.mul_le_mul_right _ (by omega)
          generalize hS0 : foG (fun q s => gdf c K m w f (a + yG c K a mo q) (moA mo q) (p ++ [q]) s) q s = s0 at *
          have j2 : J 71 2 = nI m := by rw [fJ.1 71 (by omega) (by omega) (by omega) (by omega) (by omega) (by omega)]; exact r2.trans m1
          have hKJ : hutR J 71 K := hutR_f hK (fun b b1 b2 => fJ.1 b (by omega) (by omega) (by omega) (by omega) (by omega) (by omega))
          have s24 := sp_24p (d := d + f + 4) (Ls := Ls) (I := J) (L := L) (R := R) (X := X) (K := K) q8 hKJ k3 k1
          obtain ⟨q1, q2, q3, q4, q5⟩ := (hutR_at hKJ).2.2.1 q q8
          have h5q : K (5 + q) = nI (kn K (5 + q)) ∧ kn K (5 + q) ≤ 999 := by
            have := kn_e hV (j := 5 + q) (by omega) (by omega) (by omega)
            rw [mx_5 q q8] at this
            exact this
          have hmq := hmo q q8
          have mn : (if nI 999 < nI (kn K (5 + q) + mo q) then nI 999 else nI (kn K (5 + q) + mo q)) = nI (min (kn K (5 + q) + mo q) 999) := by
            rcases Nat.lt_or_ge 999 (kn K (5 + q) + mo q) with h | h
            · rw [if_pos (nI_lt h (by omega)), show min (kn K (5 + q) + mo q) 999 = 999 by omega]
            · rw [if_neg (nI_nlt h (by omega)), show min (kn K (5 + q) + mo q) 999 = kn K (5 + q) + mo q by omega]
          have w9' : w9 (upd (upd (lkW (J 50) K q (nI (pc (kn K 0)))) 5 (nI a)) 3 (nI (min (kn K (5 + q) + mo q) 999))) (wEnv (kG K a mo) q (nI (pc (kn K 0)))) := fun j hj => by
            rw [kG_w q8]
            have l9 := lkW_9 (W := J 50) (K := K) (q := q) (lf := nI (pc (kn K 0))) j hj
            unfold upd
            rw [l9]
          have he := env_G (mo := mo) hV q8 ha
          obtain ⟨b1, b2⟩ := wEnv_b he (pc_le (kn K 0))
          generalize hW : upd (upd (lkW (J 50) K q (nI (pc (kn K 0)))) 5 (nI a)) 3 (nI (min (kn K (5 + q) + mo q) 999)) = W at *
          have y9 := yG_le (c := c) (mo := mo) hV q8 ha
          obtain ⟨S', s27⟩ := years_cp (I := p_u (p_u (p_fn J 50 W) 66 pos (nI q)) 69 q (nI (mo q + 1))) (L := L) (D := d + f + 6) (clw_fr hc (fun b hb => by rw [p_u_ne (by omega), p_u_ne (by omega), pf_ne (by omega)]; exact fJ.1 b (by omega) (by omega) (by omega) (by omega) (by omega) (by omega))) (by rw [p_u_ne (by omega), p_u_ne (by omega), pf_at]; exact bW_9 w9' b1) (by rw [p_u_ne (by omega), p_u_ne (by omega), pf_at, w9' 1 (by omega)]; exact b2) (by omega)
          rw [p_u_ne (by omega), p_u_ne (by omega), pf_at, agF_c w9' hg, (yv_e he (pc_le _)).1] at s27
          replace s27 : P_m (d + f + 6) 27 [.ref 49, va_rf r] (p_mk Ls (p_u (p_u (p_fn J 50 W) 66 pos (nI q)) 69 q (nI (mo q + 1))) L R X) (fun v h' => v = some (.int (nI (yG c K a mo q))) ∧ h' = p_mk Ls (p_fn (p_u (p_u (p_fn J 50 W) 66 pos (nI q)) 69 q (nI (mo q + 1))) 51 S') L R X) := s27
          have lp1 : (p ++ [q]).length = pos + 1 := by simp [hpl]
          obtain ⟨J4, ⟨f4, r4, m4, g4⟩, s50⟩ := ih (pos + 1) (a + yG c K a mo q) (moA mo q) (p ++ [q]) s0 (p_fn (p_u (p_u (p_fn J 50 W) 66 pos (nI q)) 69 q (nI (mo q + 1))) 51 S') (by omega) (by omega) lp1 (fun q' hq' => by
              have := hmo q' hq'
              unfold moA; split <;> omega) (fun q' hq' => by
              rw [pf_ne (by omega), p_u_at]
              unfold moA
              by_cases e : q' = q
              · rw [if_pos e, if_pos e, e]
              · rw [if_neg e, if_neg e, p_u_ne (by omega), pf_ne (by omega), mJ q' hq', h69 q' hq']) (fun j hj => by
              rw [pf_ne (by omega), p_u_ne (by omega), p_u_at]
              by_cases ej : j = pos
              · rw [if_pos ej, ej, ← hpl]; simp
              · rw [if_neg ej, pf_ne (by omega), rJ j (by omega), hrw j (by omega)]
                rw [gd_ap (by omega)]) ⟨fun b b1 b2 b3 b4 b5 b6 => by rw [pf_ne b3, p_u_ne b6, p_u_ne b5, pf_ne b2]; exact fJ.1 b b1 b2 b3 b4 b5 b6, fun j hj => by rw [pf_ne (by omega), p_u_ne (by omega), p_u_ne (by omega), pf_ne (by omega)]; exact fJ.2 j hj⟩ (gcl_f sJ (by rw [pf_ne (by omega), p_u_ne (by omega), p_u_ne (by omega), pf_ne (by omega)]) (by rw [pf_ne (by omega), p_u_ne (by omega), p_u_ne (by omega), pf_ne (by omega)])) (by omega)
          replace nx := nx (p_u J4 69 q (nI (mo q))) ⟨fun b b1 b2 b3 b4 b5 b6 => by rw [p_u_ne b6]; exact f4.1 b b1 b2 b3 b4 b5 b6, fun j hj => by rw [p_u_ne (by omega)]; exact f4.2 j hj⟩ (fun j hj => by rw [p_u_ne (by omega), r4 j (by omega), pf_ne (by omega), p_u_ne (by omega), p_u_at, if_neg (by omega), pf_ne (by omega)]; exact rJ j hj) (fun q' hq' => by
              rw [p_u_at]
              by_cases e : q' = q
              · rw [if_pos e, e, h69 q q8]
              · rw [if_neg e, m4 q' hq', pf_ne (by omega), p_u_at, if_neg e, p_u_ne (by omega), pf_ne (by omega)]; exact mJ q' hq') (gcl_f g4 (by rw [p_u_ne (by omega)]) (by rw [p_u_ne (by omega)]))
          have a69 : J 69 q = nI (mo q) := by rw [mJ q q8, h69 q q8]
          have a76 : J 76 q = nI (kn K (5 + q)) := by rw [q5]; exact h5q.1
          have c69 : J4 69 q = nI (mo q + 1) := by rw [m4 q q8, pf_ne (by omega), p_u_at, if_pos rfl]
          have sm : nI (kn K (5 + q)) + nI (mo q) = nI (kn K (5 + q) + mo q) := (Int32.ofNat_add _ _).symm
          have rr : ∀ r : Option Nat, p_cats [.ref 49, va_rf r] ≤ p_mx 27 := fun r => by cases r <;> exact Nat.le_of_ble_eq_true rfl
          have eW : p_u (p_u (p_fn J 50 (lkW (J 50) K q (nI (pc (kn K 0))))) 50 5 (nI a)) 50 3 (nI (min (kn K (5 + q) + mo q) 999)) = p_fn J 50 W := by
            rw [← hW, pu_pf, pu_pf]
          clear ih sJ g4 w9' hW hS0 m4 r4 hmo h69 hrw prune
          generalize gdf c K m w (f + 1) a mo p s = Z at *
          generalize yG c K a mo q = Y at *
          generalize lkW (J 50) K q (nI (pc (kn K 0))) = V at *
          generalize hM : min (kn K (5 + q) + mo q) 999 = M at *
          generalize hN : kn K (5 + q) + mo q = N at *
          generalize mo q = mq at *
          generalize kn K (5 + q) = k5 at *
          rw [P_run_eq, bk_50_6, pb_50_6]; simp -implicitDefEqProofs (disch := first | omega | decide) only [P_m, pw_iload_4, pw_aload_n0, pw_aloadN_n0, pw_getR, pw_getI, pw_cge, pw_iv3, pw_iconst, il_5, pw_iload_n3, pw_iast, il_3, pw_iald, pw_iadd, pw_sipush, sl_999, pw_min, pw_iload_n1, pw_dup2r, il_1, pw_iload_n2, pw_iv2, pw_iv4, pw_isub, pw_iinc_4, po_i4, po_r4, po_n4, po_u4, pw_goto, kd_48, rf_48_0, rf_48_6, rf_48_7, rf_48_8, rf_48_9, rf_48_10, rf_48_12, rf_48_13, rf_48_14, rf_48_15, rf_48_1, rf_48_2, kd_49, rf_49_0, rf_49_1, kd_50, kd_66, kd_69, kd_71, rf_71_1, rf_71_3, rf_71_4, rf_71_5, rf_71_6, rf_71_11, rf_71_12, rf_71_14, kd_76, n_0, n_1, n_3, n_5, n_999, nn_lt, nn_nlt, nn_le, nn_nle, nn_ne, nn_sub, nn_mul, nI_add, nn_neg, nm_eq, mn_eq, mm_eq, mn_lt, nm_lt, mn_le, nm_le, nn_sub0, nn_of, implies_true, nn_c, nn_in, nn_div, nat_rem, Nat.reduceMul, Nat.reduceSub, Nat.reduceDiv, Nat.reduceMod, pf_at, pf_ne, mk_s, mk_1, Classical.not_not, b2i_T, b2i_F, false_imp_iff, true_imp_iff, false_and, and_false, p_sw, Int.reduceAdd, Int.zero_add, Option.some.injEq, Value.int.injEq, Value.long.injEq, Value.ref.injEq, exists_eq_left', mk_I, mk_L, mk_wI, mk_wL, rf_s, rf_n, true_and, and_true, and_self, or_true, true_or, or_false, false_or, not_true_eq_false, not_false_eq_true, Option.toList_some, Option.toList_none, List.cons_append, List.nil_append, List.map_nil, List.map_cons, List.sum_nil, List.sum_cons, cat_i, cat_l, cat_r, cat_n, Nat.reduceLeDiff, Nat.reduceAdd, Nat.reduceEqDiff, Nat.zero_le, p_ent, p_u_ne, p_u_at, reduceIte, if_true, if_false, hr1, hr, va_rs, va_rf_c, j2, a69, a76, c69, sm, mn, eW, P_ce s24, P_ce s27 (rr _), P_ce s50]
          exact nx
      have st := loop 0 (by omega) I hfr (fun _ _ => rfl) (fun _ _ => rfl) hs
      have t2 : I 78 2 = nI (kn K 2) := by rw [hfr.1 78 (by omega) (by omega) (by omega) (by omega) (by omega) (by omega)]; exact rb.2.2.trans g2.1
      have all : P_m (d + (f + 1) + 6) 50 [.ref 48, .int (nI pos), .int (nI k), .int (nI a)] (p_mk Ls I L R X) (fun v h' => v = none ∧ ∃ J', (frU I0 J' ∧ (∀ j, j < pos → J' 66 j = I 66 j) ∧ (∀ q, q < 8 → J' 69 q = I 69 q) ∧ gcl J' w (gdf c K m w (f + 1) a mo p s) k) ∧ h' = p_mk Ls J' L R X) := by
        rw [show d + (f + 1) + 6 = d + f + 6 + 1 by omega]
        clear ih loop hs prune h69 hrw hmo
        generalize gdf c K m w (f + 1) a mo p s = Z at *
        generalize kn K 2 = A at *
        simp -implicitDefEqProofs (disch := first | omega | decide) only [P_m, ↓P_run_eq _ 50 _ (p_bk 50 0), bk_50_0, pb_50_0, ↓P_run_eq _ 50 _ (p_bk 50 1), bk_50_1, pb_50_1, ↓P_run_eq _ 50 _ (p_bk 50 5), bk_50_5, pb_50_5, pw_iload_n3, pw_aload_n0, pw_aloadN_n0, pw_getR, pw_iconst, il_2, pw_iald, pw_cle, pw_vret, pw_iload_n1, pw_iload_n2, pw_cge, il_3, pw_clt, pw_nop, il_0, pw_istore, ps_4, pe_4, po_i4, po_r4, po_n4, po_u4, kd_48, rf_48_0, rf_48_6, rf_48_7, rf_48_8, rf_48_9, rf_48_10, rf_48_12, rf_48_13, rf_48_14, rf_48_15, rf_48_1, rf_48_2, kd_71, rf_71_1, rf_71_3, rf_71_4, rf_71_5, rf_71_6, rf_71_11, rf_71_12, rf_71_14, kd_78, n_0, n_1, n_2, n_3, nn_lt, nn_nlt, nn_le, nn_nle, nn_ne, nn_sub, nn_mul, nI_add, nn_neg, nm_eq, mn_eq, mm_eq, mn_lt, nm_lt, mn_le, nm_le, nn_sub0, nn_of, implies_true, nn_c, nn_in, nn_div, nat_rem, Nat.reduceMul, Nat.reduceSub, Nat.reduceDiv, Nat.reduceMod, pf_at, pf_ne, mk_s, mk_1, Classical.not_not, b2i_T, b2i_F, false_imp_iff, true_imp_iff, false_and, and_false, p_sw, Int.reduceAdd, Int.zero_add, Option.some.injEq, Value.int.injEq, Value.long.injEq, Value.ref.injEq, exists_eq_left', mk_I, mk_L, mk_wI, mk_wL, rf_s, rf_n, true_and, and_true, and_self, or_true, true_or, or_false, false_or, not_true_eq_false, not_false_eq_true, Option.toList_some, Option.toList_none, List.cons_append, List.nil_append, List.map_nil, List.map_cons, List.sum_nil, List.sum_cons, cat_i, cat_l, cat_r, cat_n, Nat.reduceLeDiff, Nat.reduceAdd, Nat.reduceEqDiff, Nat.zero_le, p_ent, p_u_ne, p_u_at, reduceIte, if_true, if_false, hr1, va_rs, t2]
        exact st
      obtain ⟨v, g, ⟨rfl, J', f1, rfl⟩, s⟩ := P_mex all
      exact ⟨J', f1, s⟩
end GV
