/-! ROW -/
theorem updL_app (K : Nat → Int32) : ∀ (a b : List (Nat × Int32)), updL K (a ++ b) = updL (updL K a) b
  | [], _ => rfl
  | (k, v) :: r, b => updL_app (upd K k v) r b
theorem wC_app {A : Nat} (I : Nat → Nat → Int32) : ∀ (a b : List (Nat × Int32)), wC A I (a ++ b) = wC A (wC A I a) b
  | [], _ => rfl
  | (k, v) :: r, b => wC_app (p_u I (A + da k) (ix k) v) r b
theorem wsOk_app : ∀ (a b : List (Nat × Int32)), wsOk a → wsOk b → wsOk (a ++ b)
  | [], _, _, h => h
  | _ :: r, b, h1, h2 => ⟨h1.1, wsOk_app r b h1.2 h2⟩
theorem wC_fr {A b : Nat} : ∀ (ws : List (Nat × Int32)) (I : Nat → Nat → Int32), wsOk ws → (b < A ∨ A + 7 < b) → wC A I ws b = I b
  | [], _, _, _ => rfl
  | (k, v) :: r, I, o, h => by
    have := da_le k o.1.1
    rw [wC, wC_fr r _ o.2 h, p_u_ne (by omega)]
/-- the writes of a question -/
def qW (q y s a : Nat) : List (Nat × Int32) := [(21 + q, nI y), (29 + q, nI s), (37 + q, nI a), (5 + q, 0), (53, nI (q + 1))]
def canB (B : Nat → Nat) (q i : Nat) : Bool := decide (q < 8) && (decide (B (4 * i) ≤ 99) && decide (B (4 * i + 1) ≤ 1))
/-- behind i rows: the writes, how many questions, how many hens -/
def rwW (B : Nat → Nat) (q0 : Nat) : Nat → List (Nat × Int32) × Nat × Nat
  | 0 => ([], q0, 0)
  | i + 1 => if canB B (rwW B q0 i).2.1 i = true then ((rwW B q0 i).1 ++ qW (rwW B q0 i).2.1 (B (4 * i)) (B (4 * i + 1)) (256 * B (4 * i + 2) + B (4 * i + 3)), (rwW B q0 i).2.1 + 1, (rwW B q0 i).2.2) else ((rwW B q0 i).1, (rwW B q0 i).2.1, (rwW B q0 i).2.2 + 1)
theorem canB_t {B : Nat → Nat} {q i : Nat} : canB B q i = true ↔ q < 8 ∧ B (4 * i) ≤ 99 ∧ B (4 * i + 1) ≤ 1 := by
  unfold canB; simp only [Bool.and_eq_true, decide_eq_true_eq]
theorem rw_t {B : Nat → Nat} {q0 i : Nat} (c : canB B (rwW B q0 i).2.1 i = true) : rwW B q0 (i + 1) = ((rwW B q0 i).1 ++ qW (rwW B q0 i).2.1 (B (4 * i)) (B (4 * i + 1)) (256 * B (4 * i + 2) + B (4 * i + 3)), (rwW B q0 i).2.1 + 1, (rwW B q0 i).2.2) := by
  show (if canB B (rwW B q0 i).2.1 i = true then _ else _) = _
  rw [if_pos c]
theorem rw_f {B : Nat → Nat} {q0 i : Nat} (c : ¬ canB B (rwW B q0 i).2.1 i = true) : rwW B q0 (i + 1) = ((rwW B q0 i).1, (rwW B q0 i).2.1, (rwW B q0 i).2.2 + 1) := by
  show (if canB B (rwW B q0 i).2.1 i = true then _ else _) = _
  rw [if_neg c]
/-- what holds of the writes behind i rows -/
theorem rw_ok {B : Nat → Nat} {q0 : Nat} (hq : q0 ≤ 8) (hB : ∀ k, B k ≤ 255) : ∀ i, wsOk (rwW B q0 i).1 ∧ q0 ≤ (rwW B q0 i).2.1 ∧ (rwW B q0 i).2.1 ≤ 8 ∧ (rwW B q0 i).2.2 ≤ i ∧ (∀ K : Nat → Int32, K 53 = nI q0 → updL K (rwW B q0 i).1 53 = nI (rwW B q0 i).2.1 ∧ ∀ k, (k = 0 ∨ k = 4 ∨ 45 ≤ k) → k ≠ 53 → updL K (rwW B q0 i).1 k = K k)
  | 0 => ⟨trivial, Nat.le_refl _, hq, Nat.le_refl _, fun K e => ⟨e, fun _ _ _ => rfl⟩⟩
  | i + 1 => by
    obtain ⟨o1, o2, o3, o4, o5⟩ := rw_ok hq hB i
    by_cases c : canB B (rwW B q0 i).2.1 i = true
    · rw [rw_t c]
      obtain ⟨c1, c2, c3⟩ := canB_t.mp c
      have b1 := hB (4 * i + 2)
      have b2 := hB (4 * i + 3)
      generalize rwW B q0 i = w at *
      obtain ⟨ws, q, hn⟩ := w
      dsimp only at *
      refine ⟨wsOk_app _ _ o1 ⟨⟨by omega, by omega, Or.inr (Or.inr (Or.inr ?_))⟩, ⟨by omega, by omega, Or.inr (Or.inr (Or.inr ?_))⟩, ⟨by omega, by omega, Or.inr (Or.inr (Or.inr ?_))⟩, ⟨by omega, by omega, Or.inr (Or.inr (Or.inr ?_))⟩, ⟨by omega, by omega, Or.inr (Or.inr (Or.inr ?_))⟩, trivial⟩, by omega, by omega, by omega, fun K e => ?_⟩
      · rw [mx_21 q c1]; exact ⟨_, c2, rfl⟩
      · rw [mx_29 q c1]; exact ⟨_, c3, rfl⟩
      · rw [mx_37 q c1]; exact ⟨_, by omega, rfl⟩
      · rw [mx_5 q c1]; exact ⟨0, by omega, rfl⟩
      · exact ⟨q + 1, c1, rfl⟩
      · rw [updL_app]
        refine ⟨rfl, fun k k1 k2 => ?_⟩
        rw [← (o5 K e).2 k k1 k2]
        show upd (upd (upd (upd (upd (updL K ws) (21 + q) _) (29 + q) _) (37 + q) _) (5 + q) _) 53 _ k = _
        rw [upd_ne k2, upd_ne (by omega), upd_ne (by omega), upd_ne (by omega), upd_ne (by omega)]
    · rw [rw_f c]
      exact ⟨o1, o2, o3, by show _ + 1 ≤ _; omega, o5⟩
theorem sb_255 : ∀ b, b ≤ 255 → ((nI b).toInt8.toInt32 &&& nI 255) = nI b := by decide +kernel
theorem sb_99 : ∀ b, b ≤ 255 → (0 ≤ (nI b).toInt8.toInt32 ∧ (nI b).toInt8.toInt32 ≤ 99 ↔ b ≤ 99) := by decide +kernel
theorem sb_1 : ∀ b, b ≤ 255 → (0 ≤ (nI b).toInt8.toInt32 ∧ (nI b).toInt8.toInt32 ≤ 1 ↔ b ≤ 1) := by decide +kernel
theorem sb_id : ∀ b, b ≤ 99 → (nI b).toInt8.toInt32 = nI b := by decide +kernel
section RW
variable {d Ls : Nat} {I J : Nat → Nat → Int32} {L : Nat → Nat → Int64} {R Q : Nat → Nat → Option Nat} {X : List pKd} {h : pHp}
theorem canQ_n {y s a : Nat} (hy : y ≤ 255) (hs : s ≤ 255) (ha : a ≤ 65535) : canQ (nI y) (nI s) (nI a) ↔ y ≤ 99 ∧ s ≤ 1 := by
  unfold canQ
  have e1 : (0 : Int32) ≤ nI y := nI_pos' (by omega)
  have e2 : (0 : Int32) ≤ nI s := nI_pos' (by omega)
  have e3 : (0 : Int32) ≤ nI a := nI_pos' (by omega)
  have e4 : nI a ≤ 65535 := (nI_leI (b := 65535) (by omega) (by omega)).mpr ha
  have e5 : nI y ≤ 99 ↔ y ≤ 99 := nI_leI (b := 99) (by omega) (by omega)
  have e6 : nI s ≤ 1 ↔ s ≤ 1 := nI_leI (b := 1) (by omega) (by omega)
  simp only [e1, e2, e3, e4, e5, e6, true_and, and_true]
theorem canQ_s {y s a : Nat} (hy : y ≤ 255) (hs : s ≤ 255) (ha : a ≤ 65535) : canQ (nI y).toInt8.toInt32 (nI s).toInt8.toInt32 (nI a) ↔ y ≤ 99 ∧ s ≤ 1 := by
  unfold canQ
  have e3 : (0 : Int32) ≤ nI a := nI_pos' (by omega)
  have e4 : nI a ≤ 65535 := (nI_leI (b := 65535) (by omega) (by omega)).mpr ha
  rw [sb_99 y hy, sb_1 s hs]
  simp only [e3, e4, and_true]
theorem sp_153 {i : Nat} {B : Nat → Nat} (hi : 4 * i + 4 ≤ 400) (hB : ∀ k, B k ≤ 255) (e : ∀ k, k < 4 * i + 4 → I 130 k = (nI (B k)).toInt8.toInt32) : P_m d 153 [.ref 123, .int (nI (4 * i))] (p_mk Ls I L R X) (fun v h' => v = some (.int (nI (256 * B (4 * i + 2) + B (4 * i + 3)))) ∧ h' = p_mk Ls I L R X) := by
  have e2 := e (4 * i + 2) (by omega)
  have e3 := e (4 * i + 3) (by omega)
  have f2 := sb_255 _ (hB (4 * i + 2))
  have f3 := sb_255 _ (hB (4 * i + 3))
  simp -implicitDefEqProofs (disch := first | omega | decide) only [P_m, ↓P_run_eq _ 153 _ (p_bk 153 0), bk_153_0, pb_153_0, pw_aload_n0, pw_aloadN_n0, pw_getR, pw_iload_n1, pw_iconst, il_2, pw_iadd, pw_bald, pw_sipush, sl_255, pw_iand, pw_istore_n2, ps_2, pe_2, po_i2, po_r2, po_n2, po_u2, il_3, pw_istore_n3, ps_3, pe_3, po_i3, po_r3, po_n3, po_u3, sl_256, pw_iload_n2, pw_imul, pw_iload_n3, pw_ret0, kd_123, rf_123_1, rf_123_2, rf_123_3, rf_123_4, rf_123_5, rf_123_7, rf_123_11, rf_123_12, rf_123_15, rf_123_16, rf_123_17, rf_123_26, rf_123_29, rf_123_30, rf_123_32, rf_123_34, rf_123_35, rf_123_45, kd_130, n_0, n_1, n_2, n_3, n_255, n_256, nn_lt, nn_nlt, nn_le, nn_nle, nn_ne, nn_sub, nn_mul, nI_add, nn_neg, nm_eq, mn_eq, mm_eq, mn_lt, nm_lt, mn_le, nm_le, nn_sub0, nn_of, implies_true, nn_c, nn_in, nn_div, nat_rem, Nat.reduceMul, Nat.reduceSub, Nat.reduceDiv, Nat.reduceMod, pf_at, pf_ne, mk_s, mk_1, Classical.not_not, b2i_T, b2i_F, false_imp_iff, true_imp_iff, false_and, and_false, p_sw, Int.reduceAdd, Int.zero_add, Option.some.injEq, Value.int.injEq, Value.long.injEq, Value.ref.injEq, exists_eq_left', mk_I, mk_L, mk_wI, mk_wL, rf_s, rf_n, true_and, and_true, and_self, or_true, true_or, or_false, false_or, not_true_eq_false, not_false_eq_true, Option.toList_some, Option.toList_none, List.cons_append, List.nil_append, List.map_nil, List.map_cons, List.sum_nil, List.sum_cons, cat_i, cat_l, cat_r, cat_n, Nat.reduceLeDiff, Nat.reduceAdd, Nat.reduceEqDiff, Nat.zero_le, p_ent, p_u_ne, p_u_at, reduceIte, if_true, if_false, e2, e3, f2, f3]
theorem ce_153 {i : Nat} {B : Nat → Nat} (hi : 4 * i + 4 ≤ 400) (hB : ∀ k, B k ≤ 255) {yy : Nat} {rr : List pI} {kc ks : Nat} {lls st : List Value} {Q : Option Value → pHp → Prop} (e : ∀ k, k < 4 * i + 4 → I 130 k = (nI (B k)).toInt8.toInt32) : P_call d yy 153 [.ref 123, .int (nI (4 * i))] rr kc ks lls st (p_mk Ls I L R X) Q = P_w (d + 1) yy Q rr kc ks lls ((.int (nI (256 * B (4 * i + 2) + B (4 * i + 3)))) :: st) (p_mk Ls I L R X) := P_ce (sp_153 hi hB e)
/-- one row on the class's side -/
theorem sp_119 {i n q0 : Nat} {B : Nat → Nat} (hq : q0 ≤ 8) (hn : n ≤ 400) (hB : ∀ k, B k ≤ 255) (e0 : I 71 2 = nI q0) (e1 : I 33 1 = nI n) (e2 : ∀ k, k < n → I 34 k = nI (B k)) (hi : 4 * i + 4 ≤ n) : P_m (d + 1) 119 [.ref 32, .int (nI (4 * i))] (p_mk Ls I L R X) (fun v h' => v = some (.int (if canB B q0 i = true then 1 else 0)) ∧ h' = p_mk Ls (if canB B q0 i = true then wC 71 I (qW q0 (B (4 * i)) (B (4 * i + 1)) (256 * B (4 * i + 2) + B (4 * i + 3))) else I) L R X) := by
  have f0 := e2 (4 * i) (by omega)
  have f1 := e2 (4 * i + 1) (by omega)
  have f2 := e2 (4 * i + 2) (by omega)
  have f3 := e2 (4 * i + 3) (by omega)
  have b0 := hB (4 * i)
  have b1 := hB (4 * i + 1)
  have b2 := hB (4 * i + 2)
  have b3 := hB (4 * i + 3)
  by_cases c : canB B q0 i = true
  · rw [if_pos c, if_pos c]
    obtain ⟨c1, c2, c3⟩ := canB_t.mp c
    have g1 : b2i (canQ (nI (B (4 * i))) (nI (B (4 * i + 1))) (nI (256 * B (4 * i + 2) + B (4 * i + 3)))) = nI 1 := b2i_t ((canQ_n b0 b1 (by omega)).mpr ⟨c2, c3⟩)
    have w1 := (da_21 q0 c1).1
    have w2 := (da_21 q0 c1).2
    have w3 := (da_29 q0 c1).1
    have w4 := (da_29 q0 c1).2
    have w5 := (da_37 q0 c1).1
    have w6 := (da_37 q0 c1).2
    have w7 := (da_5 q0 c1).1
    have w8 := (da_5 q0 c1).2
    simp -implicitDefEqProofs (disch := first | omega | decide) only [P_m, ↓P_run_eq _ 119 _ (p_bk 119 0), bk_119_0, pb_119_0, ↓P_run_eq _ 119 _ (p_bk 119 1), bk_119_1, pb_119_1, ↓P_run_eq _ 119 _ (p_bk 119 2), bk_119_2, pb_119_2, ↓P_run_eq _ 119 _ (p_bk 119 3), bk_119_3, pb_119_3, pw_iload_n1, pw_iconst, il_4, pw_iadd, pw_aload_n0, pw_aloadN_n0, pw_getR, pw_getI, pw_cgt, pw_bipush, bl_8, pw_clt, pw_nop, il_0, pw_ret1, pw_sipush, sl_256, il_2, pw_iald, pw_imul, il_3, pw_istore_n2, ps_2, pe_2, po_i2, po_r2, po_n2, po_u2, il_1, pw_iload_n2, pw_is3, pw_zne, pw_iv4, pw_popi, pw_popr, kd_32, rf_32_0, rf_32_1, rf_32_2, rf_32_3, rf_32_4, rf_32_5, rf_32_6, rf_32_7, rf_32_8, rf_32_9, rf_32_11, rf_32_12, rf_32_13, kd_33, rf_33_0, kd_34, kd_71, rf_71_1, rf_71_3, rf_71_4, rf_71_5, rf_71_6, rf_71_11, rf_71_12, rf_71_14, n_0, n_1, n_2, n_3, n_4, n_8, n_256, nn_lt, nn_nlt, nn_le, nn_nle, nn_ne, nn_sub, nn_mul, nI_add, nn_neg, nm_eq, mn_eq, mm_eq, mn_lt, nm_lt, mn_le, nm_le, nn_sub0, nn_of, implies_true, nn_c, nn_in, nn_div, nat_rem, Nat.reduceMul, Nat.reduceSub, Nat.reduceDiv, Nat.reduceMod, pf_at, pf_ne, mk_s, mk_1, Classical.not_not, b2i_T, b2i_F, false_imp_iff, true_imp_iff, false_and, and_false, p_sw, Int.reduceAdd, Int.zero_add, Option.some.injEq, Value.int.injEq, Value.long.injEq, Value.ref.injEq, exists_eq_left', mk_I, mk_L, mk_wI, mk_wL, rf_s, rf_n, true_and, and_true, and_self, or_true, true_or, or_false, false_or, not_true_eq_false, not_false_eq_true, Option.toList_some, Option.toList_none, List.cons_append, List.nil_append, List.map_nil, List.map_cons, List.sum_nil, List.sum_cons, cat_i, cat_l, cat_r, cat_n, Nat.reduceLeDiff, Nat.reduceAdd, Nat.reduceEqDiff, Nat.zero_le, p_ent, p_u_ne, p_u_at, reduceIte, if_true, if_false, e0, e1, f0, f1, f2, f3, P_ce (sp_4 _ _ _), g1, P_ce (sp_6 _ _ _ c1 e0)]
    simp only [qW, wC, w1, w2, w3, w4, w5, w6, w7, w8]
    rfl
  · rw [if_neg c, if_neg c]
    have c' := mt canB_t.mpr c
    rcases Nat.lt_or_ge q0 8 with c1 | c1
    · have g1 : b2i (canQ (nI (B (4 * i))) (nI (B (4 * i + 1))) (nI (256 * B (4 * i + 2) + B (4 * i + 3)))) = nI 0 := b2i_f (fun x => c' ⟨c1, (canQ_n b0 b1 (by omega)).mp x⟩)
      simp -implicitDefEqProofs (disch := first | omega | decide) only [P_m, ↓P_run_eq _ 119 _ (p_bk 119 0), bk_119_0, pb_119_0, ↓P_run_eq _ 119 _ (p_bk 119 1), bk_119_1, pb_119_1, ↓P_run_eq _ 119 _ (p_bk 119 2), bk_119_2, pb_119_2, pw_iload_n1, pw_iconst, il_4, pw_iadd, pw_aload_n0, pw_aloadN_n0, pw_getR, pw_getI, pw_cgt, pw_bipush, bl_8, pw_clt, pw_nop, il_0, pw_ret1, pw_sipush, sl_256, il_2, pw_iald, pw_imul, il_3, pw_istore_n2, ps_2, pe_2, po_i2, po_r2, po_n2, po_u2, il_1, pw_iload_n2, pw_is3, pw_zne, kd_32, rf_32_0, rf_32_1, rf_32_2, rf_32_3, rf_32_4, rf_32_5, rf_32_6, rf_32_7, rf_32_8, rf_32_9, rf_32_11, rf_32_12, rf_32_13, kd_33, rf_33_0, kd_34, kd_71, rf_71_1, rf_71_3, rf_71_4, rf_71_5, rf_71_6, rf_71_11, rf_71_12, rf_71_14, n_0, n_1, n_2, n_3, n_4, n_8, n_256, nn_lt, nn_nlt, nn_le, nn_nle, nn_ne, nn_sub, nn_mul, nI_add, nn_neg, nm_eq, mn_eq, mm_eq, mn_lt, nm_lt, mn_le, nm_le, nn_sub0, nn_of, implies_true, nn_c, nn_in, nn_div, nat_rem, Nat.reduceMul, Nat.reduceSub, Nat.reduceDiv, Nat.reduceMod, pf_at, pf_ne, mk_s, mk_1, Classical.not_not, b2i_T, b2i_F, false_imp_iff, true_imp_iff, false_and, and_false, p_sw, Int.reduceAdd, Int.zero_add, Option.some.injEq, Value.int.injEq, Value.long.injEq, Value.ref.injEq, exists_eq_left', mk_I, mk_L, mk_wI, mk_wL, rf_s, rf_n, true_and, and_true, and_self, or_true, true_or, or_false, false_or, not_true_eq_false, not_false_eq_true, Option.toList_some, Option.toList_none, List.cons_append, List.nil_append, List.map_nil, List.map_cons, List.sum_nil, List.sum_cons, cat_i, cat_l, cat_r, cat_n, Nat.reduceLeDiff, Nat.reduceAdd, Nat.reduceEqDiff, Nat.zero_le, p_ent, p_u_ne, p_u_at, reduceIte, if_true, if_false, e0, e1, f0, f1, f2, f3, P_ce (sp_4 _ _ _), g1]
    · simp -implicitDefEqProofs (disch := first | omega | decide) only [P_m, ↓P_run_eq _ 119 _ (p_bk 119 0), bk_119_0, pb_119_0, ↓P_run_eq _ 119 _ (p_bk 119 1), bk_119_1, pb_119_1, pw_iload_n1, pw_iconst, il_4, pw_iadd, pw_aload_n0, pw_aloadN_n0, pw_getR, pw_getI, pw_cgt, pw_bipush, bl_8, pw_clt, pw_nop, il_0, pw_ret1, kd_32, rf_32_0, rf_32_1, rf_32_2, rf_32_3, rf_32_4, rf_32_5, rf_32_6, rf_32_7, rf_32_8, rf_32_9, rf_32_11, rf_32_12, rf_32_13, kd_33, rf_33_0, kd_34, kd_71, rf_71_1, rf_71_3, rf_71_4, rf_71_5, rf_71_6, rf_71_11, rf_71_12, rf_71_14, n_0, n_1, n_4, n_8, nn_lt, nn_nlt, nn_le, nn_nle, nn_ne, nn_sub, nn_mul, nI_add, nn_neg, nm_eq, mn_eq, mm_eq, mn_lt, nm_lt, mn_le, nm_le, nn_sub0, nn_of, implies_true, nn_c, nn_in, nn_div, nat_rem, Nat.reduceMul, Nat.reduceSub, Nat.reduceDiv, Nat.reduceMod, pf_at, pf_ne, mk_s, mk_1, Classical.not_not, b2i_T, b2i_F, false_imp_iff, true_imp_iff, false_and, and_false, p_sw, Int.reduceAdd, Int.zero_add, Option.some.injEq, Value.int.injEq, Value.long.injEq, Value.ref.injEq, exists_eq_left', mk_I, mk_L, mk_wI, mk_wL, rf_s, rf_n, true_and, and_true, and_self, or_true, true_or, or_false, false_or, not_true_eq_false, not_false_eq_true, Option.toList_some, Option.toList_none, List.cons_append, List.nil_append, List.map_nil, List.map_cons, List.sum_nil, List.sum_cons, cat_i, cat_l, cat_r, cat_n, Nat.reduceLeDiff, Nat.reduceAdd, Nat.reduceEqDiff, Nat.zero_le, p_ent, p_u_ne, p_u_at, reduceIte, if_true, if_false, e0, e1]
theorem ce_119 {i n q0 : Nat} {B : Nat → Nat} (hq : q0 ≤ 8) (hn : n ≤ 400) (hB : ∀ k, B k ≤ 255) (hi : 4 * i + 4 ≤ n) {yy : Nat} {rr : List pI} {kc ks : Nat} {lls st : List Value} {Q : Option Value → pHp → Prop} (e0 : I 71 2 = nI q0) (e1 : I 33 1 = nI n) (e2 : ∀ k, k < n → I 34 k = nI (B k)) : P_call (d + 1) yy 119 [.ref 32, .int (nI (4 * i))] rr kc ks lls st (p_mk Ls I L R X) Q = P_w ((d + 1) + 1) yy Q rr kc ks lls ((.int (if canB B q0 i = true then 1 else 0)) :: st) (p_mk Ls (if canB B q0 i = true then wC 71 I (qW q0 (B (4 * i)) (B (4 * i + 1)) (256 * B (4 * i + 2) + B (4 * i + 3))) else I) L R X) := P_ce (sp_119 hq hn hB e0 e1 e2 hi)
end RW
