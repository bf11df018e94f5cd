section OJ
variable {d Ls : Nat} {I : Nat → Nat → Int32} {L : Nat → Nat → Int64} {R : Nat → Nat → Option Nat} {X : List pKd} {h : pHp} {c : Option (List tCl)} {K : Nat → Int32} {r : Option Nat}
def frC (I J : Nat → Nat → Int32) : Prop := (∀ a, ¬ a = 48 → ¬ a = 50 → ¬ a = 51 → ¬ a = 61 → ¬ a = 66 → ¬ a = 68 → J a = I a) ∧ ∀ k, ¬ k = 3 → J 48 k = I 48 k
theorem frC_rf : frC I I := ⟨fun _ _ _ _ _ _ _ => rfl, fun _ _ => rfl⟩
theorem frC_tr {J H : Nat → Nat → Int32} (h1 : frC I J) (h2 : frC J H) : frC I H := ⟨fun a a1 a2 a3 a4 a5 a6 => (h2.1 a a1 a2 a3 a4 a5 a6).trans (h1.1 a a1 a2 a3 a4 a5 a6), fun k hk => (h2.2 k hk).trans (h1.2 k hk)⟩
theorem frC_Y {J : Nat → Nat → Int32} (h : frY I J) : frC I J := ⟨fun a _ a2 a3 _ _ a6 => h a a2 a3 a6, fun k _ => by rw [h 48 (by omega) (by omega) (by omega)]⟩
/-- the best row yet, the class's -/
def bcl (I : Nat → Nat → Int32) (b : oB) (P : Nat) : Prop := I 48 3 = pnI (b.map Prod.fst) ∧ ∀ t l, b = some (t, l) → l.length = P ∧ t ≤ 693 ∧ ∀ j, j < P → I 61 j = nI (l.getD j 0)
theorem bcl_f {J : Nat → Nat → Int32} {b : oB} {P : Nat} (h : bcl I b P) (e1 : J 48 3 = I 48 3) (e2 : J 61 = I 61) : bcl J b P := by
  unfold bcl
  rw [e1, e2]
  exact h
def yC (c : Option (List tCl)) (K : Nat → Int32) (tq : Nat → Nat) (i u : Nat) : Option Nat := yL c K (tq i) u
def snI (c : Option (List tCl)) (K : Nat → Int32) (tq : Nat → Nat) (k : Nat) (L : Nat → Nat → Int64) (b : oB) (pos : Nat) : Prop := ∀ a v, a < 2 ^ k → v < 694 → pos ≤ pc a → sn L (a * 694 + v) → ∀ T, tot (yC c K tq) k (k - pc a) a v T → lsT T b
def snF (k : Nat) (L L' : Nat → Nat → Int64) (pos : Nat) : Prop := ∀ a v, a < 2 ^ k → v < 694 → pc a < pos → sn L' (a * 694 + v) → sn L (a * 694 + v)
def rwC (I : Nat → Nat → Int32) (p : List Nat) : Prop := ∀ j, j < p.length → I 66 j = nI (p.getD j 0)
def oW (c : Option (List tCl)) (K : Nat → Int32) (tq : Nat → Nat) (k : Nat) (I0 I J : Nat → Nat → Int32) (L L' : Nat → Nat → Int64) (pos : Nat) (b : oB) : Prop := frC I0 J ∧ (∀ j, j < pos → J 66 j = I 66 j) ∧ mb c K tq k J ∧ bcl J b k ∧ snI c K tq k L' b pos ∧ snF k L L' pos
theorem bt_adk : ∀ k, k ≤ 7 → ∀ s, s < 2 ^ k → ∀ q, q < k → bt s q = 0 → s + 2 ^ q < 2 ^ k := by decide +kernel
theorem sn_cd {a v a' v' : Nat} (hv : v < 694) (hv' : v' < 694) (h : a * 694 + v = a' * 694 + v') : a = a' ∧ v = v' := by omega
theorem en_46y {b : oB} {k u dn : Nat} {x : Int32} (hb : bcl I b k) (hu : u ≤ 693) (pr : lsT u b) : P_m (d + 1) 46 [.ref 48, .int x, .int (nI dn), .int (nI u)] (p_mk Ls I L R X) (fun w h' => w = none ∧ h' = p_mk Ls I L R X) := by
  obtain ⟨h1, h2⟩ := hb
  match b, h1, h2, pr with
  | none, _, _, pr => exact pr.elim
  | some (t, l), h1, h2, pr =>
    have pr : t ≤ u := pr
    replace h1 : I 48 3 = nI t := h1
    clear h2
    simp -implicitDefEqProofs (disch := first | omega | decide) only [P_m, ↓P_run_eq _ 46 _ (p_bk 46 0), bk_46_0, pb_46_0, ↓P_run_eq _ 46 _ (p_bk 46 2), bk_46_2, pb_46_2, pw_aload_n0, pw_aloadN_n0, pw_getI, pw_iconst, il_m1, pw_ceq, pw_iload_n3, pw_cge, pw_nop, pw_vret, kd_48, rf_48_0, rf_48_6, rf_48_7, rf_48_8, rf_48_9, rf_48_10, rf_48_12, rf_48_13, rf_48_14, rf_48_15, rf_48_1, rf_48_2, n_0, n_1, nn_lt, nn_nlt, nn_le, nn_nle, nn_ne, nn_sub, nn_mul, nI_add, nn_neg, nm_eq, mn_eq, mm_eq, mn_lt, nm_lt, mn_le, nm_le, nn_sub0, nn_of, implies_true, nn_c, nn_in, nn_div, nat_rem, Nat.reduceMul, Nat.reduceSub, Nat.reduceDiv, Nat.reduceMod, pf_at, pf_ne, mk_s, mk_1, Classical.not_not, b2i_T, b2i_F, false_imp_iff, true_imp_iff, false_and, and_false, p_sw, Int.reduceAdd, Int.zero_add, Option.some.injEq, Value.int.injEq, Value.long.injEq, Value.ref.injEq, exists_eq_left', mk_I, mk_L, mk_wI, mk_wL, rf_s, rf_n, true_and, and_true, and_self, or_true, true_or, or_false, false_or, not_true_eq_false, not_false_eq_true, Option.toList_some, Option.toList_none, List.cons_append, List.nil_append, List.map_nil, List.map_cons, List.sum_nil, List.sum_cons, cat_i, cat_l, cat_r, cat_n, Nat.reduceLeDiff, Nat.reduceAdd, Nat.reduceEqDiff, Nat.zero_le, p_ent, p_u_ne, p_u_at, reduceIte, if_true, if_false, h1]
theorem en_46s {b : oB} {k u dn : Nat} {x : Int32} (hb : bcl I b k) (hd : dn < 128) (hu : u ≤ 693) (pr : ¬ lsT u b) (hs : sn L (dn * 694 + u)) : P_m (d + 1) 46 [.ref 48, .int x, .int (nI dn), .int (nI u)] (p_mk Ls I L R X) (fun w h' => w = none ∧ h' = p_mk Ls I (mkS L (dn * 694 + u)) R X) := by
  rcases pl_48 (d := d) (Ls := Ls) (I := I) (L := L) (R := R) (X := X) (a := dn) (u := u) hd (by omega) with ⟨-, s⟩ | ⟨hn, -⟩
  · obtain ⟨h1, h2⟩ := hb
    match b, h1, h2, pr with
    | none, h1, _, pr =>
      replace h1 : I 48 3 = mI 1 := h1
      generalize mkS L (dn * 694 + u) = M at *
      simp -implicitDefEqProofs (disch := first | omega | decide) only [P_m, ↓P_run_eq _ 46 _ (p_bk 46 0), bk_46_0, pb_46_0, ↓P_run_eq _ 46 _ (p_bk 46 1), bk_46_1, pb_46_1, ↓P_run_eq _ 46 _ (p_bk 46 2), bk_46_2, pb_46_2, pw_aload_n0, pw_aloadN_n0, pw_getI, pw_iconst, il_m1, pw_ceq, pw_iload_n3, pw_cge, pw_nop, pw_iload_n2, pw_iv3, pw_zeq, pw_vret, kd_48, rf_48_0, rf_48_6, rf_48_7, rf_48_8, rf_48_9, rf_48_10, rf_48_12, rf_48_13, rf_48_14, rf_48_15, rf_48_1, rf_48_2, n_0, n_1, nn_lt, nn_nlt, nn_le, nn_nle, nn_ne, nn_sub, nn_mul, nI_add, nn_neg, nm_eq, mn_eq, mm_eq, mn_lt, nm_lt, mn_le, nm_le, nn_sub0, nn_of, implies_true, nn_c, nn_in, nn_div, nat_rem, Nat.reduceMul, Nat.reduceSub, Nat.reduceDiv, Nat.reduceMod, pf_at, pf_ne, mk_s, mk_1, Classical.not_not, b2i_T, b2i_F, false_imp_iff, true_imp_iff, false_and, and_false, p_sw, Int.reduceAdd, Int.zero_add, Option.some.injEq, Value.int.injEq, Value.long.injEq, Value.ref.injEq, exists_eq_left', mk_I, mk_L, mk_wI, mk_wL, rf_s, rf_n, true_and, and_true, and_self, or_true, true_or, or_false, false_or, not_true_eq_false, not_false_eq_true, Option.toList_some, Option.toList_none, List.cons_append, List.nil_append, List.map_nil, List.map_cons, List.sum_nil, List.sum_cons, cat_i, cat_l, cat_r, cat_n, Nat.reduceLeDiff, Nat.reduceAdd, Nat.reduceEqDiff, Nat.zero_le, p_ent, p_u_ne, p_u_at, reduceIte, if_true, if_false, h1, P_ce s]
    | some (t, l), h1, h2, pr =>
      have pr : u < t := Nat.not_le.mp pr
      have ht := (h2 t l rfl).2.1
      replace h1 : I 48 3 = nI t := h1
      clear h2
      generalize mkS L (dn * 694 + u) = M at *
      simp -implicitDefEqProofs (disch := first | omega | decide) only [P_m, ↓P_run_eq _ 46 _ (p_bk 46 0), bk_46_0, pb_46_0, ↓P_run_eq _ 46 _ (p_bk 46 1), bk_46_1, pb_46_1, ↓P_run_eq _ 46 _ (p_bk 46 2), bk_46_2, pb_46_2, pw_aload_n0, pw_aloadN_n0, pw_getI, pw_iconst, il_m1, pw_ceq, pw_iload_n3, pw_cge, pw_nop, pw_iload_n2, pw_iv3, pw_zeq, pw_vret, kd_48, rf_48_0, rf_48_6, rf_48_7, rf_48_8, rf_48_9, rf_48_10, rf_48_12, rf_48_13, rf_48_14, rf_48_15, rf_48_1, rf_48_2, n_0, n_1, nn_lt, nn_nlt, nn_le, nn_nle, nn_ne, nn_sub, nn_mul, nI_add, nn_neg, nm_eq, mn_eq, mm_eq, mn_lt, nm_lt, mn_le, nm_le, nn_sub0, nn_of, implies_true, nn_c, nn_in, nn_div, nat_rem, Nat.reduceMul, Nat.reduceSub, Nat.reduceDiv, Nat.reduceMod, pf_at, pf_ne, mk_s, mk_1, Classical.not_not, b2i_T, b2i_F, false_imp_iff, true_imp_iff, false_and, and_false, p_sw, Int.reduceAdd, Int.zero_add, Option.some.injEq, Value.int.injEq, Value.long.injEq, Value.ref.injEq, exists_eq_left', mk_I, mk_L, mk_wI, mk_wL, rf_s, rf_n, true_and, and_true, and_self, or_true, true_or, or_false, false_or, not_true_eq_false, not_false_eq_true, Option.toList_some, Option.toList_none, List.cons_append, List.nil_append, List.map_nil, List.map_cons, List.sum_nil, List.sum_cons, cat_i, cat_l, cat_r, cat_n, Nat.reduceLeDiff, Nat.reduceAdd, Nat.reduceEqDiff, Nat.zero_le, p_ent, p_u_ne, p_u_at, reduceIte, if_true, if_false, h1, P_ce s]
  · exact absurd hs hn
theorem en_46n {b : oB} {k u dn : Nat} {x : Int32} {Q : Option Value → pHp → Prop} (hb : bcl I b k) (hd : dn < 128) (hu : u ≤ 693) (pr : ¬ lsT u b) (hs : ¬ sn L (dn * 694 + u)) (nx : P_run (d + 1) 46 (p_bk 46 3) 0 0 [.ref 48, .int x, .int (nI dn), .int (nI u)] [] (p_mk Ls I (mkS L (dn * 694 + u)) R X) Q) : P_m (d + 1) 46 [.ref 48, .int x, .int (nI dn), .int (nI u)] (p_mk Ls I L R X) Q := by
  rcases pl_48 (d := d) (Ls := Ls) (I := I) (L := L) (R := R) (X := X) (a := dn) (u := u) hd (by omega) with ⟨hn, -⟩ | ⟨-, s⟩
  · exact absurd hn hs
  · obtain ⟨h1, h2⟩ := hb
    match b, h1, h2, pr with
    | none, h1, _, pr =>
      replace h1 : I 48 3 = mI 1 := h1
      generalize mkS L (dn * 694 + u) = M at *
      simp -implicitDefEqProofs (disch := first | omega | decide) only [P_m, ↓P_run_eq _ 46 _ (p_bk 46 0), bk_46_0, pb_46_0, ↓P_run_eq _ 46 _ (p_bk 46 1), bk_46_1, pb_46_1, pw_aload_n0, pw_aloadN_n0, pw_getI, pw_iconst, il_m1, pw_ceq, pw_iload_n3, pw_cge, pw_nop, pw_iload_n2, pw_iv3, pw_zeq, kd_48, rf_48_0, rf_48_6, rf_48_7, rf_48_8, rf_48_9, rf_48_10, rf_48_12, rf_48_13, rf_48_14, rf_48_15, rf_48_1, rf_48_2, n_0, n_1, nn_lt, nn_nlt, nn_le, nn_nle, nn_ne, nn_sub, nn_mul, nI_add, nn_neg, nm_eq, mn_eq, mm_eq, mn_lt, nm_lt, mn_le, nm_le, nn_sub0, nn_of, implies_true, nn_c, nn_in, nn_div, nat_rem, Nat.reduceMul, Nat.reduceSub, Nat.reduceDiv, Nat.reduceMod, pf_at, pf_ne, mk_s, mk_1, Classical.not_not, b2i_T, b2i_F, false_imp_iff, true_imp_iff, false_and, and_false, p_sw, Int.reduceAdd, Int.zero_add, Option.some.injEq, Value.int.injEq, Value.long.injEq, Value.ref.injEq, exists_eq_left', mk_I, mk_L, mk_wI, mk_wL, rf_s, rf_n, true_and, and_true, and_self, or_true, true_or, or_false, false_or, not_true_eq_false, not_false_eq_true, Option.toList_some, Option.toList_none, List.cons_append, List.nil_append, List.map_nil, List.map_cons, List.sum_nil, List.sum_cons, cat_i, cat_l, cat_r, cat_n, Nat.reduceLeDiff, Nat.reduceAdd, Nat.reduceEqDiff, Nat.zero_le, p_ent, p_u_ne, p_u_at, reduceIte, if_true, if_false, h1, P_ce s]
      exact nx
    | some (t, l), h1, h2, pr =>
      have pr : u < t := Nat.not_le.mp pr
      have ht := (h2 t l rfl).2.1
      replace h1 : I 48 3 = nI t := h1
      clear h2
      generalize mkS L (dn * 694 + u) = M at *
      simp -implicitDefEqProofs (disch := first | omega | decide) only [P_m, ↓P_run_eq _ 46 _ (p_bk 46 0), bk_46_0, pb_46_0, ↓P_run_eq _ 46 _ (p_bk 46 1), bk_46_1, pb_46_1, pw_aload_n0, pw_aloadN_n0, pw_getI, pw_iconst, il_m1, pw_ceq, pw_iload_n3, pw_cge, pw_nop, pw_iload_n2, pw_iv3, pw_zeq, kd_48, rf_48_0, rf_48_6, rf_48_7, rf_48_8, rf_48_9, rf_48_10, rf_48_12, rf_48_13, rf_48_14, rf_48_15, rf_48_1, rf_48_2, n_0, n_1, nn_lt, nn_nlt, nn_le, nn_nle, nn_ne, nn_sub, nn_mul, nI_add, nn_neg, nm_eq, mn_eq, mm_eq, mn_lt, nm_lt, mn_le, nm_le, nn_sub0, nn_of, implies_true, nn_c, nn_in, nn_div, nat_rem, Nat.reduceMul, Nat.reduceSub, Nat.reduceDiv, Nat.reduceMod, pf_at, pf_ne, mk_s, mk_1, Classical.not_not, b2i_T, b2i_F, false_imp_iff, true_imp_iff, false_and, and_false, p_sw, Int.reduceAdd, Int.zero_add, Option.some.injEq, Value.int.injEq, Value.long.injEq, Value.ref.injEq, exists_eq_left', mk_I, mk_L, mk_wI, mk_wL, rf_s, rf_n, true_and, and_true, and_self, or_true, true_or, or_false, false_or, not_true_eq_false, not_false_eq_true, Option.toList_some, Option.toList_none, List.cons_append, List.nil_append, List.map_nil, List.map_cons, List.sum_nil, List.sum_cons, cat_i, cat_l, cat_r, cat_n, Nat.reduceLeDiff, Nat.reduceAdd, Nat.reduceEqDiff, Nat.zero_le, p_ent, p_u_ne, p_u_at, reduceIte, if_true, if_false, h1, P_ce s]
      exact nx
theorem pl_46 {tq : Nat → Nat} {k : Nat} {I0 : Nat → Nat → Int32} (hV : vld K) (hK : hutR I0 71 K) (hc : clw Ls I0 R X r c) (hg : cgL c) (hr1 : R 48 1 = some 71) (hr : R 48 2 = r) (hk : k ≤ 7) (hq : ∀ i, i < k → tq i < 8) (h65 : ∀ i, i < k → I0 65 i = nI (tq i)) (h11 : I0 48 11 = nI k) (h9 : I0 1 2 = nI 9999) : ∀ f pos dn u p b I L, pos + f = k → dn < 2 ^ k → pc dn = pos → u ≤ 99 * pos → p.length = pos → rwC I p → frC I0 I → mb c K tq k I → bcl I b k → snI c K tq k L b pos →
    ∃ J L', oW c K tq k I0 I J L L' pos (dfs tq (yC c K tq) k f dn u p b) ∧ P_m (d + f + 6) 46 [.ref 48, .int (nI pos), .int (nI dn), .int (nI u)] (p_mk Ls I L R X) (fun w h' => w = none ∧ h' = p_mk Ls J L' R X) := by
  have pk : 2 ^ k ≤ 2 ^ 7 := Nat.pow_le_pow_right (by omega) hk
  have seen : ∀ f pos dn u p b L, pos + f = k → dn < 2 ^ k → pc dn = pos → u ≤ 693 → snI c K tq k L b pos → sn L (dn * 694 + u) → dfs tq (yC c K tq) k f dn u p b = b := fun f pos dn u p b L hpos hdn hpc hu hsn hs => dfs_id f dn u p b (fun T hT => hsn dn u hdn (by omega) (by omega) hs T (by rw [show k - pc dn = f by omega]; exact hT))
  have mkF : ∀ (L : Nat → Nat → Int64) dn u, sn L (dn * 694 + u) → ∀ n, sn (mkS L (dn * 694 + u)) n → sn L n := fun L dn u hs n hn => by
    rcases sn_mk.mp hn with h | h
    · exact h
    · rw [h]; exact hs
  intro f
  induction f with
  | zero =>
    intro pos dn u p b I L hpos hdn hpc hu hpl hrw hfr hmb hb hsn
    have e11 : I 48 11 = nI k := by rw [hfr.2 11 (by omega)]; exact h11
    by_cases pr : lsT u b
    · exact ⟨I, L, ⟨hfr, fun _ _ => rfl, hmb, by rw [dfs_prune pr]; exact hb, by rw [dfs_prune pr]; exact hsn, fun _ _ _ _ _ h => h⟩, en_46y hb (by omega) pr⟩
    · by_cases hs : sn L (dn * 694 + u)
      · refine ⟨I, mkS L (dn * 694 + u), ?_, en_46s hb (by omega) (by omega) pr hs⟩
        rw [seen 0 pos dn u p b L hpos hdn hpc (by omega) hsn hs]
        exact ⟨hfr, fun _ _ => rfl, hmb, hb, fun a v ha hv hp hn => hsn a v ha hv hp (mkF L dn u hs _ hn), fun a v _ _ _ hn => mkF L dn u hs _ hn⟩
      · refine ⟨p_fn (p_u I 48 3 (nI u)) 61 (va_cpy (I 66) (I 61) 0 0 7), mkS L (dn * 694 + u), ?_, en_46n hb (by omega) (by omega) pr hs ?_⟩
        · show oW c K tq k I0 I _ L _ pos (btr u p b)
          rw [btr_s pr]
          refine ⟨⟨fun a a1 a2 a3 a4 a5 a6 => by rw [pf_ne a4, p_u_ne a1]; exact hfr.1 a a1 a2 a3 a4 a5 a6, fun j hj => by rw [pf_ne (by omega), p_u_at, if_neg hj]; exact hfr.2 j hj⟩, fun j _ => by rw [pf_ne (by omega), p_u_ne (by omega)], fun i u hi hu => by rw [pf_ne (by omega), p_u_ne (by omega)]; exact hmb i u hi hu, ⟨by rw [pf_ne (by omega), p_u_at, if_pos rfl]; rfl, fun t l hh => ?_⟩, fun a v ha hv hp hn T hT => ?_, fun a v ha hv hp hn => ?_⟩
          · cases hh
            refine ⟨by omega, by omega, fun j hj => ?_⟩
            rw [pf_at]
            unfold va_cpy
            rw [if_pos (by omega)]
            rw [show 0 + (j - 0) = j by omega]
            exact hrw j (by omega)
          · have m1 := sn_mk.mp hn
            rcases m1 with h | h
            · have h2 := hsn a v ha hv hp h T hT
              have := lsT_btr (u := u) (p := p) h2
              rwa [btr_s pr] at this
            · obtain ⟨rfl, rfl⟩ := sn_cd (by omega) (by omega) h
              rw [show k - pc a = 0 by omega] at hT
              have hT : T = v := hT
              subst hT
              exact Nat.le_refl T
          · rcases sn_mk.mp hn with h | h
            · exact h
            · obtain ⟨rfl, rfl⟩ := sn_cd (by omega) (by omega) h
              omega
        · have e3 : pos = k := by omega
          clear hsn hmb hs hrw hb
          generalize mkS L (dn * 694 + u) = M at *
          rw [P_run_eq, bk_46_3, pb_46_3]; simp -implicitDefEqProofs (disch := first | omega | decide) only [P_m, ↓P_run_eq _ 46 _ (p_bk 46 4), bk_46_4, pb_46_4, pw_iload_n1, pw_aload_n0, pw_aloadN_n0, pw_getI, pw_cge, pw_bipush, bl_7, pw_clt, pw_nop, pw_iload_n3, pw_putI, pw_getR, pw_iconst, il_0, pw_copy, pw_vret, kd_48, rf_48_0, rf_48_6, rf_48_7, rf_48_8, rf_48_9, rf_48_10, rf_48_12, rf_48_13, rf_48_14, rf_48_15, rf_48_1, rf_48_2, kd_61, kd_66, n_0, n_1, n_7, nn_lt, nn_nlt, nn_le, nn_nle, nn_ne, nn_sub, nn_mul, nI_add, nn_neg, nm_eq, mn_eq, mm_eq, mn_lt, nm_lt, mn_le, nm_le, nn_sub0, nn_of, implies_true, nn_c, nn_in, nn_div, nat_rem, Nat.reduceMul, Nat.reduceSub, Nat.reduceDiv, Nat.reduceMod, pf_at, pf_ne, mk_s, mk_1, Classical.not_not, b2i_T, b2i_F, false_imp_iff, true_imp_iff, false_and, and_false, p_sw, Int.reduceAdd, Int.zero_add, Option.some.injEq, Value.int.injEq, Value.long.injEq, Value.ref.injEq, exists_eq_left', mk_I, mk_L, mk_wI, mk_wL, rf_s, rf_n, true_and, and_true, and_self, or_true, true_or, or_false, false_or, not_true_eq_false, not_false_eq_true, Option.toList_some, Option.toList_none, List.cons_append, List.nil_append, List.map_nil, List.map_cons, List.sum_nil, List.sum_cons, cat_i, cat_l, cat_r, cat_n, Nat.reduceLeDiff, Nat.reduceAdd, Nat.reduceEqDiff, Nat.zero_le, p_ent, p_u_ne, p_u_at, reduceIte, if_true, if_false, e11]
  | succ f ih =>
    intro pos dn u p b I L hpos hdn hpc hu hpl hrw hfr hmb hb hsn
    by_cases pr : lsT u b
    · exact ⟨I, L, ⟨hfr, fun _ _ => rfl, hmb, by rw [dfs_prune pr]; exact hb, by rw [dfs_prune pr]; exact hsn, fun _ _ _ _ _ h => h⟩, en_46y hb (by omega) pr⟩
    · by_cases hs : sn L (dn * 694 + u)
      · refine ⟨I, mkS L (dn * 694 + u), ?_, en_46s hb (by omega) (by omega) pr hs⟩
        rw [seen (f + 1) pos dn u p b L hpos hdn hpc (by omega) hsn hs]
        exact ⟨hfr, fun _ _ => rfl, hmb, hb, fun a v ha hv hp hn => hsn a v ha hv hp (mkF L dn u hs _ hn), fun a v _ _ _ hn => mkF L dn u hs _ hn⟩
      · have g2 : K 2 = nI (kn K 2) ∧ kn K 2 ≤ 9999 := kn_e hV (by omega) (by omega) (by omega)
        have rb := (hutR_at hK).2.1
        have loop : ∀ i, i ≤ k → ∀ J M, frC I0 J → (∀ j, j < pos → J 66 j = I 66 j) → mb c K tq k J → bcl J (foB (fun i b => if bt dn i = 1 then b else match yC c K tq i u with
            | none => b
            | some t => dfs tq (yC c K tq) k f (dn + 2 ^ i) (u + t) (p ++ [tq i]) b) i b) k → snI c K tq k M (foB (fun i b => if bt dn i = 1 then b else match yC c K tq i u with
            | none => b
            | some t => dfs tq (yC c K tq) k f (dn + 2 ^ i) (u + t) (p ++ [tq i]) b) i b) (pos + 1) → snF k (mkS L (dn * 694 + u)) M (pos + 1) → P_run (d + f + 6 + 1) 46 (p_bk 46 6) 0 0 [.ref 48, .int (nI pos), .int (nI dn), .int (nI u), .int (nI i)] [] (p_mk Ls J M R X) (fun w h' => w = none ∧ ∃ J' L', oW c K tq k I0 I J' L L' pos (dfs tq (yC c K tq) k (f + 1) dn u p b) ∧ h' = p_mk Ls J' L' R X) := by
          refine down_ind ?_ ?_
          · intro J M fJ rJ mJ bJ sJ tJ
            have e11 : J 48 11 = nI k := by rw [fJ.2 11 (by omega)]; exact h11
            have fin : oW c K tq k I0 I J L M pos (dfs tq (yC c K tq) k (f + 1) dn u p b) := by
              refine ⟨fJ, rJ, mJ, bJ, fun a v ha hv hp hn T hT => ?_, fun a v ha hv hp hn => ?_⟩
              · by_cases c1 : pos + 1 ≤ pc a
                · exact sJ a v ha hv c1 hn T hT
                · have h1 := tJ a v ha hv (by omega) hn
                  rcases sn_mk.mp h1 with h | h
                  · exact dfs_mono (f + 1) dn u p b (hsn a v ha hv hp h T hT)
                  · obtain ⟨rfl, rfl⟩ := sn_cd (by omega) (by omega) h
                    rw [show k - pc a = f + 1 by omega] at hT
                    exact dfs_tot (f + 1) a v p b hT
              · have h1 := tJ a v ha hv (by omega) hn
                rcases sn_mk.mp h1 with h | h
                · exact h
                · obtain ⟨rfl, rfl⟩ := sn_cd (by omega) (by omega) h
                  omega
            clear ih bJ sJ tJ mJ
            generalize dfs tq (yC c K tq) k (f + 1) dn u p b = Z at *
            rw [P_run_eq, bk_46_6, pb_46_6]; simp -implicitDefEqProofs (disch := first | omega | decide) only [P_m, ↓P_run_eq _ 46 _ (p_bk 46 10), bk_46_10, pb_46_10, pw_iload_4, pw_aload_n0, pw_aloadN_n0, pw_getI, pw_cge, pw_iload_n2, pw_ishr, pw_iconst, il_1, pw_iand, pw_zne, pw_iload_n3, pw_iv3, pw_goto, pw_vret, kd_48, rf_48_0, rf_48_6, rf_48_7, rf_48_8, rf_48_9, rf_48_10, rf_48_12, rf_48_13, rf_48_14, rf_48_15, rf_48_1, rf_48_2, n_0, n_1, nn_lt, nn_nlt, nn_le, nn_nle, nn_ne, nn_sub, nn_mul, nI_add, nn_neg, nm_eq, mn_eq, mm_eq, mn_lt, nm_lt, mn_le, nm_le, nn_sub0, nn_of, implies_true, nn_c, nn_in, nn_div, nat_rem, Nat.reduceMul, Nat.reduceSub, Nat.reduceDiv, Nat.reduceMod, pf_at, pf_ne, mk_s, mk_1, Classical.not_not, b2i_T, b2i_F, false_imp_iff, true_imp_iff, false_and, and_false, p_sw, Int.reduceAdd, Int.zero_add, Option.some.injEq, Value.int.injEq, Value.long.injEq, Value.ref.injEq, exists_eq_left', mk_I, mk_L, mk_wI, mk_wL, rf_s, rf_n, true_and, and_true, and_self, or_true, true_or, or_false, false_or, not_true_eq_false, not_false_eq_true, Option.toList_some, Option.toList_none, List.cons_append, List.nil_append, List.map_nil, List.map_cons, List.sum_nil, List.sum_cons, cat_i, cat_l, cat_r, cat_n, Nat.reduceLeDiff, Nat.reduceAdd, Nat.reduceEqDiff, Nat.zero_le, p_ent, p_u_ne, p_u_at, reduceIte, if_true, if_false, e11]
            exact ⟨J, M, fin, rfl⟩
          · intro i hi nx J M fJ rJ mJ bJ sJ tJ
            have i8 : i < 8 := by omega
            have e11 : J 48 11 = nI k := by rw [fJ.2 11 (by omega)]; exact h11
            have b5 := bit_n (s := dn) (t := i) (by omega) i8
            have fs : ∀ g, foB g (i + 1) b = g i (foB g i b) := fun g => rfl
            rw [fs] at nx
            generalize hB0 : foB (fun i b => if bt dn i = 1 then b else match yC c K tq i u with
              | none => b
              | some t => dfs tq (yC c K tq) k f (dn + 2 ^ i) (u + t) (p ++ [tq i]) b) i b = b0 at *
            rcases bt_01 dn i with e0 | e0
            · rw [e0] at b5
              rw [if_neg (by omega)] at nx
              obtain ⟨J1, f1, m1, s1⟩ := pl_47 (d := d + f + 2) (Ls := Ls) (I := J) (L := M) (R := R) (X := X) (u := u) hV (hutR_f hK (fun b b1 b2 => fJ.1 b (by omega) (by omega) (by omega) (by omega) (by omega) (by omega))) (clw_fr hc (fun a ha => fJ.1 a (by omega) (by omega) (by omega) (by omega) (by omega) (by omega))) hg hr1 hr hk hi (by omega) (hq i hi) (by rw [fJ.1 65 (by omega) (by omega) (by omega) (by omega) (by omega) (by omega)]; exact h65 i hi) mJ
              have fJ1 : frC I0 J1 := frC_tr fJ (frC_Y f1)
              have rJ1 : ∀ j, j < pos → J1 66 j = I 66 j := fun j hj => by rw [f1 66 (by omega) (by omega) (by omega)]; exact rJ j hj
              have bJ1 : bcl J1 b0 k := bcl_f bJ (by rw [f1 48 (by omega) (by omega) (by omega)]) (f1 61 (by omega) (by omega) (by omega))
              have skip : yC c K tq i u = none → P_run (d + f + 6 + 1) 46 (p_bk 46 6) 0 0 [.ref 48, .int (nI pos), .int (nI dn), .int (nI u), .int (nI (i + 1))] [] (p_mk Ls J1 M R X) (fun w h' => w = none ∧ ∃ J' L', oW c K tq k I0 I J' L L' pos (dfs tq (yC c K tq) k (f + 1) dn u p b) ∧ h' = p_mk Ls J' L' R X) := fun hy => by
                rw [hy] at nx
                exact nx J1 M fJ1 rJ1 m1 bJ1 sJ tJ
              cases hO : yO c K (tq i) u with
              | none =>
                rw [hO] at s1
                replace s1 : P_m (d + f + 2 + 4) 47 [.ref 48, .int (nI i), .int (nI u)] (p_mk Ls J M R X) (fun v h' => v = some (.int (mI 1)) ∧ h' = p_mk Ls J1 M R X) := s1
                have sk := skip (by unfold yC yL; rw [hO])
                clear ih bJ sJ tJ mJ m1 bJ1 skip nx
                generalize dfs tq (yC c K tq) k (f + 1) dn u p b = Z at *
                rw [P_run_eq, bk_46_6, pb_46_6]; simp -implicitDefEqProofs (disch := first | omega | decide) only [P_m, ↓P_run_eq _ 46 _ (p_bk 46 8), bk_46_8, pb_46_8, ↓P_run_eq _ 46 _ (p_bk 46 9), bk_46_9, pb_46_9, pw_iload_4, pw_aload_n0, pw_aloadN_n0, pw_getI, pw_cge, pw_iload_n2, pw_ishr, pw_iconst, il_1, pw_iand, pw_zne, pw_iload_n3, pw_iv3, pw_goto, pw_istore, ps_5, pe_5, po_i5, po_r5, po_n5, po_u5, pw_iload_5, il_m1, pw_ceq, pw_getR, il_2, pw_iald, pw_iadd, pw_getsR, pw_cgt, pw_iload_n1, pw_iast, pw_ishl, pw_ior, pw_iv4, pw_nop, pw_iinc_4, po_i4, po_r4, po_n4, po_u4, kd_48, rf_48_0, rf_48_6, rf_48_7, rf_48_8, rf_48_9, rf_48_10, rf_48_12, rf_48_13, rf_48_14, rf_48_15, rf_48_1, rf_48_2, n_0, n_1, n_2, nn_lt, nn_nlt, nn_le, nn_nle, nn_ne, nn_sub, nn_mul, nI_add, nn_neg, nm_eq, mn_eq, mm_eq, mn_lt, nm_lt, mn_le, nm_le, nn_sub0, nn_of, implies_true, nn_c, nn_in, nn_div, nat_rem, Nat.reduceMul, Nat.reduceSub, Nat.reduceDiv, Nat.reduceMod, pf_at, pf_ne, mk_s, mk_1, Classical.not_not, b2i_T, b2i_F, false_imp_iff, true_imp_iff, false_and, and_false, p_sw, Int.reduceAdd, Int.zero_add, Option.some.injEq, Value.int.injEq, Value.long.injEq, Value.ref.injEq, exists_eq_left', mk_I, mk_L, mk_wI, mk_wL, rf_s, rf_n, true_and, and_true, and_self, or_true, true_or, or_false, false_or, not_true_eq_false, not_false_eq_true, Option.toList_some, Option.toList_none, List.cons_append, List.nil_append, List.map_nil, List.map_cons, List.sum_nil, List.sum_cons, cat_i, cat_l, cat_r, cat_n, Nat.reduceLeDiff, Nat.reduceAdd, Nat.reduceEqDiff, Nat.zero_le, p_ent, p_u_ne, p_u_at, reduceIte, if_true, if_false, e11, b5, P_ce s1]
                exact P_ls sk one_l
              | some t =>
                have t99 := yO_le hV (hq i hi) (by omega) hO
                rw [hO] at s1
                replace s1 : P_m (d + f + 2 + 4) 47 [.ref 48, .int (nI i), .int (nI u)] (p_mk Ls J M R X) (fun v h' => v = some (.int (nI t)) ∧ h' = p_mk Ls J1 M R X) := s1
                have j78 : J1 78 2 = nI (kn K 2) := by rw [fJ1.1 78 (by omega) (by omega) (by omega) (by omega) (by omega) (by omega)]; exact rb.2.2.trans g2.1
                have j1 : J1 1 2 = nI 9999 := by rw [fJ1.1 1 (by omega) (by omega) (by omega) (by omega) (by omega) (by omega)]; exact h9
                have j65 : J1 65 i = nI (tq i) := by rw [fJ1.1 65 (by omega) (by omega) (by omega) (by omega) (by omega) (by omega)]; exact h65 i hi
                by_cases lim : kn K 2 + u + t ≤ 9999
                · have hy : yC c K tq i u = some t := by
                    unfold yC yL
                    rw [hO]
                    show (if _ then _ else _) = _
                    rw [if_pos lim]
                  rw [hy] at nx
                  obtain ⟨a1, a2, a3, a4⟩ := bt_ad dn (by omega) i i8 e0
                  have dk : dn + 2 ^ i < 2 ^ k := by
                    have := bt_adk k hk dn hdn i hi e0
                    exact this
                  have lp1 : (p ++ [tq i]).length = pos + 1 := by simp [hpl]
                  obtain ⟨J4, M4, ⟨f4, r4, m4, b4, s4, t4⟩, s46⟩ := ih (pos + 1) (dn + 2 ^ i) (u + t) (p ++ [tq i]) b0 (p_u J1 66 pos (nI (tq i))) M (by omega) dk (by omega) (by omega) lp1 (fun j hj => by
                      rw [p_u_at]
                      by_cases ej : j = pos
                      · rw [if_pos ej, ej, ← hpl]; simp
                      · rw [if_neg ej, rJ1 j (by omega), hrw j (by omega)]
                        rw [gd_ap (by omega)]) ⟨fun a a1 a2 a3 a4 a5 a6 => by rw [p_u_ne a5]; exact fJ1.1 a a1 a2 a3 a4 a5 a6, fun j hj => by rw [p_u_ne (by omega)]; exact fJ1.2 j hj⟩ (fun i u hi hu => by rw [p_u_ne (by omega)]; exact m1 i u hi hu) (bcl_f bJ1 (by rw [p_u_ne (by omega)]) (by rw [p_u_ne (by omega)])) sJ
                  replace nx := nx J4 M4 f4 (fun j hj => by rw [r4 j (by omega), p_u_at, if_neg (by omega)]; exact rJ1 j hj) m4 b4 s4 (fun a v ha hv hp hn => tJ a v ha hv hp (t4 a v ha hv hp hn))
                  have sh := shl_n8 (t := i) (by omega)
                  clear ih bJ sJ tJ mJ m1 bJ1 skip b4 s4 t4 m4 hsn hB0 dk a3
                  generalize dfs tq (yC c K tq) k (f + 1) dn u p b = Z at *
                  generalize kn K 2 = A at *
                  generalize dn + 2 ^ i = D2 at *
                  generalize 2 ^ i = Q2 at *
                  generalize tq i = qq at *
                  rw [P_run_eq, bk_46_6, pb_46_6]; simp -implicitDefEqProofs (disch := first | omega | decide) only [P_m, ↓P_run_eq _ 46 _ (p_bk 46 8), bk_46_8, pb_46_8, ↓P_run_eq _ 46 _ (p_bk 46 9), bk_46_9, pb_46_9, pw_iload_4, pw_aload_n0, pw_aloadN_n0, pw_getI, pw_cge, pw_iload_n2, pw_ishr, pw_iconst, il_1, pw_iand, pw_zne, pw_iload_n3, pw_iv3, pw_goto, pw_istore, ps_5, pe_5, po_i5, po_r5, po_n5, po_u5, pw_iload_5, il_m1, pw_ceq, pw_getR, il_2, pw_iald, pw_iadd, pw_getsR, pw_cgt, pw_iload_n1, pw_iast, pw_ishl, pw_ior, pw_iv4, pw_nop, pw_iinc_4, po_i4, po_r4, po_n4, po_u4, kd_48, rf_48_0, rf_48_6, rf_48_7, rf_48_8, rf_48_9, rf_48_10, rf_48_12, rf_48_13, rf_48_14, rf_48_15, rf_48_1, rf_48_2, kd_65, kd_66, kd_71, rf_71_1, rf_71_3, rf_71_4, rf_71_5, rf_71_6, rf_71_11, rf_71_12, rf_71_14, kd_78, kd_1, rf_30_1, rf_30_2, n_0, n_1, n_2, nn_lt, nn_nlt, nn_le, nn_nle, nn_ne, nn_sub, nn_mul, nI_add, nn_neg, nm_eq, mn_eq, mm_eq, mn_lt, nm_lt, mn_le, nm_le, nn_sub0, nn_of, implies_true, nn_c, nn_in, nn_div, nat_rem, Nat.reduceMul, Nat.reduceSub, Nat.reduceDiv, Nat.reduceMod, pf_at, pf_ne, mk_s, mk_1, Classical.not_not, b2i_T, b2i_F, false_imp_iff, true_imp_iff, false_and, and_false, p_sw, Int.reduceAdd, Int.zero_add, Option.some.injEq, Value.int.injEq, Value.long.injEq, Value.ref.injEq, exists_eq_left', mk_I, mk_L, mk_wI, mk_wL, rf_s, rf_n, true_and, and_true, and_self, or_true, true_or, or_false, false_or, not_true_eq_false, not_false_eq_true, Option.toList_some, Option.toList_none, List.cons_append, List.nil_append, List.map_nil, List.map_cons, List.sum_nil, List.sum_cons, cat_i, cat_l, cat_r, cat_n, Nat.reduceLeDiff, Nat.reduceAdd, Nat.reduceEqDiff, Nat.zero_le, p_ent, p_u_ne, p_u_at, reduceIte, if_true, if_false, hr1, va_rs, e11, b5, j78, j1, j65, sh, a4, P_ce s1, P_ce s46]
                  exact P_ls nx one_l
                · have sk := skip (by
                    unfold yC yL
                    rw [hO]
                    show (if _ then _ else _) = _
                    rw [if_neg lim])
                  clear ih bJ sJ tJ mJ m1 bJ1 skip nx
                  generalize dfs tq (yC c K tq) k (f + 1) dn u p b = Z at *
                  generalize kn K 2 = A at *
                  rw [P_run_eq, bk_46_6, pb_46_6]; simp -implicitDefEqProofs (disch := first | omega | decide) only [P_m, ↓P_run_eq _ 46 _ (p_bk 46 8), bk_46_8, pb_46_8, ↓P_run_eq _ 46 _ (p_bk 46 9), bk_46_9, pb_46_9, pw_iload_4, pw_aload_n0, pw_aloadN_n0, pw_getI, pw_cge, pw_iload_n2, pw_ishr, pw_iconst, il_1, pw_iand, pw_zne, pw_iload_n3, pw_iv3, pw_goto, pw_istore, ps_5, pe_5, po_i5, po_r5, po_n5, po_u5, pw_iload_5, il_m1, pw_ceq, pw_getR, il_2, pw_iald, pw_iadd, pw_getsR, pw_cgt, pw_iload_n1, pw_iast, pw_ishl, pw_ior, pw_iv4, pw_nop, pw_iinc_4, po_i4, po_r4, po_n4, po_u4, kd_48, rf_48_0, rf_48_6, rf_48_7, rf_48_8, rf_48_9, rf_48_10, rf_48_12, rf_48_13, rf_48_14, rf_48_15, rf_48_1, rf_48_2, kd_71, rf_71_1, rf_71_3, rf_71_4, rf_71_5, rf_71_6, rf_71_11, rf_71_12, rf_71_14, kd_78, kd_1, rf_30_1, rf_30_2, n_0, n_1, n_2, nn_lt, nn_nlt, nn_le, nn_nle, nn_ne, nn_sub, nn_mul, nI_add, nn_neg, nm_eq, mn_eq, mm_eq, mn_lt, nm_lt, mn_le, nm_le, nn_sub0, nn_of, implies_true, nn_c, nn_in, nn_div, nat_rem, Nat.reduceMul, Nat.reduceSub, Nat.reduceDiv, Nat.reduceMod, pf_at, pf_ne, mk_s, mk_1, Classical.not_not, b2i_T, b2i_F, false_imp_iff, true_imp_iff, false_and, and_false, p_sw, Int.reduceAdd, Int.zero_add, Option.some.injEq, Value.int.injEq, Value.long.injEq, Value.ref.injEq, exists_eq_left', mk_I, mk_L, mk_wI, mk_wL, rf_s, rf_n, true_and, and_true, and_self, or_true, true_or, or_false, false_or, not_true_eq_false, not_false_eq_true, Option.toList_some, Option.toList_none, List.cons_append, List.nil_append, List.map_nil, List.map_cons, List.sum_nil, List.sum_cons, cat_i, cat_l, cat_r, cat_n, Nat.reduceLeDiff, Nat.reduceAdd, Nat.reduceEqDiff, Nat.zero_le, p_ent, p_u_ne, p_u_at, reduceIte, if_true, if_false, hr1, va_rs, e11, b5, j78, j1, P_ce s1]
                  exact P_ls sk one_l
            · rw [e0] at b5
              rw [if_pos e0] at nx
              have sk := nx J M fJ rJ mJ bJ sJ tJ
              clear ih bJ sJ tJ mJ nx
              generalize dfs tq (yC c K tq) k (f + 1) dn u p b = Z at *
              rw [P_run_eq, bk_46_6, pb_46_6]; simp -implicitDefEqProofs (disch := first | omega | decide) only [P_m, ↓P_run_eq _ 46 _ (p_bk 46 7), bk_46_7, pb_46_7, ↓P_run_eq _ 46 _ (p_bk 46 8), bk_46_8, pb_46_8, ↓P_run_eq _ 46 _ (p_bk 46 9), bk_46_9, pb_46_9, pw_iload_4, pw_aload_n0, pw_aloadN_n0, pw_getI, pw_cge, pw_iload_n2, pw_ishr, pw_iconst, il_1, pw_iand, pw_zne, pw_iload_n3, pw_iv3, pw_goto, il_m1, pw_nop, pw_istore, ps_5, pe_5, po_i5, po_r5, po_n5, po_u5, pw_iload_5, pw_ceq, pw_getR, il_2, pw_iald, pw_iadd, pw_getsR, pw_cgt, pw_iload_n1, pw_iast, pw_ishl, pw_ior, pw_iv4, pw_iinc_4, po_i4, po_r4, po_n4, po_u4, kd_48, rf_48_0, rf_48_6, rf_48_7, rf_48_8, rf_48_9, rf_48_10, rf_48_12, rf_48_13, rf_48_14, rf_48_15, rf_48_1, rf_48_2, n_0, n_1, n_2, nn_lt, nn_nlt, nn_le, nn_nle, nn_ne, nn_sub, nn_mul, nI_add, nn_neg, nm_eq, mn_eq, mm_eq, mn_lt, nm_lt, mn_le, nm_le, nn_sub0, nn_of, implies_true, nn_c, nn_in, nn_div, nat_rem, Nat.reduceMul, Nat.reduceSub, Nat.reduceDiv, Nat.reduceMod, pf_at, pf_ne, mk_s, mk_1, Classical.not_not, b2i_T, b2i_F, false_imp_iff, true_imp_iff, false_and, and_false, p_sw, Int.reduceAdd, Int.zero_add, Option.some.injEq, Value.int.injEq, Value.long.injEq, Value.ref.injEq, exists_eq_left', mk_I, mk_L, mk_wI, mk_wL, rf_s, rf_n, true_and, and_true, and_self, or_true, true_or, or_false, false_or, not_true_eq_false, not_false_eq_true, Option.toList_some, Option.toList_none, List.cons_append, List.nil_append, List.map_nil, List.map_cons, List.sum_nil, List.sum_cons, cat_i, cat_l, cat_r, cat_n, Nat.reduceLeDiff, Nat.reduceAdd, Nat.reduceEqDiff, Nat.zero_le, p_ent, p_u_ne, p_u_at, reduceIte, if_true, if_false, e11, b5]
              exact P_ls sk one_l
        have st := loop 0 (by omega) I (mkS L (dn * 694 + u)) hfr (fun _ _ => rfl) hmb hb (fun a v ha hv hp hn => by
          rcases sn_mk.mp hn with h | h
          · exact hsn a v ha hv (by omega) h
          · obtain ⟨rfl, rfl⟩ := sn_cd (by omega) (by omega) h
            omega) (fun _ _ _ _ _ h => h)
        have e11 : I 48 11 = nI k := by rw [hfr.2 11 (by omega)]; exact h11
        have all : P_m (d + (f + 1) + 6) 46 [.ref 48, .int (nI pos), .int (nI dn), .int (nI u)] (p_mk Ls I L R X) (fun w h' => w = none ∧ ∃ J' L', oW c K tq k I0 I J' L L' pos (dfs tq (yC c K tq) k (f + 1) dn u p b) ∧ h' = p_mk Ls J' L' R X) := by
          rw [show d + (f + 1) + 6 = d + f + 6 + 1 by omega]
          refine en_46n hb (by omega) (by omega) pr hs ?_
          clear ih loop hb hsn hmb hs
          generalize mkS L (dn * 694 + u) = M at *
          generalize dfs tq (yC c K tq) k (f + 1) dn u p b = Z at *
          rw [P_run_eq, bk_46_3, pb_46_3]; simp -implicitDefEqProofs (disch := first | omega | decide) only [P_m, ↓P_run_eq _ 46 _ (p_bk 46 5), bk_46_5, pb_46_5, pw_iload_n1, pw_aload_n0, pw_aloadN_n0, pw_getI, pw_cge, pw_bipush, bl_7, pw_clt, pw_nop, pw_iconst, il_0, pw_istore, ps_4, pe_4, po_i4, po_r4, po_n4, po_u4, kd_48, rf_48_0, rf_48_6, rf_48_7, rf_48_8, rf_48_9, rf_48_10, rf_48_12, rf_48_13, rf_48_14, rf_48_15, rf_48_1, rf_48_2, n_0, n_1, n_7, nn_lt, nn_nlt, nn_le, nn_nle, nn_ne, nn_sub, nn_mul, nI_add, nn_neg, nm_eq, mn_eq, mm_eq, mn_lt, nm_lt, mn_le, nm_le, nn_sub0, nn_of, implies_true, nn_c, nn_in, nn_div, nat_rem, Nat.reduceMul, Nat.reduceSub, Nat.reduceDiv, Nat.reduceMod, pf_at, pf_ne, mk_s, mk_1, Classical.not_not, b2i_T, b2i_F, false_imp_iff, true_imp_iff, false_and, and_false, p_sw, Int.reduceAdd, Int.zero_add, Option.some.injEq, Value.int.injEq, Value.long.injEq, Value.ref.injEq, exists_eq_left', mk_I, mk_L, mk_wI, mk_wL, rf_s, rf_n, true_and, and_true, and_self, or_true, true_or, or_false, false_or, not_true_eq_false, not_false_eq_true, Option.toList_some, Option.toList_none, List.cons_append, List.nil_append, List.map_nil, List.map_cons, List.sum_nil, List.sum_cons, cat_i, cat_l, cat_r, cat_n, Nat.reduceLeDiff, Nat.reduceAdd, Nat.reduceEqDiff, Nat.zero_le, p_ent, p_u_ne, p_u_at, reduceIte, if_true, if_false, e11]
          exact st
        obtain ⟨w, g, ⟨rfl, J', L', f1, rfl⟩, s⟩ := P_mex all
        exact ⟨J', L', f1, s⟩
end OJ
