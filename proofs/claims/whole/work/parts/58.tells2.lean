/-! what a law tells, through all its clauses -/
def clT (W : Nat → Int32) (hd : Nat) (c : tCl) (t : Int) : Int := stT (cl_k c) hd (cl_f c W).isNone (cl_g c W).isNone ((cl_g c W).getD true) ((cl_f c W).getD 0) t
def lawT (CL : List tCl) (W : Nat → Int32) (hd : Nat) (t : Int) : Int := CL.foldl (fun t c => clT W hd c t) t
theorem clT_1 {W : Nat → Int32} {c : tCl} {t : Int} : clT W 1 c t = clA W c t := by
  unfold clT stT clA
  cases hg : cl_g c W with
  | none =>
    rw [if_neg (by rintro ⟨-, -, h, -⟩; cases h), if_neg (by rintro ⟨-, h⟩; cases h)]
  | some b =>
    cases b with
    | false =>
      rw [if_neg (by rintro ⟨-, h, -⟩; cases h), if_neg (by rintro ⟨-, h⟩; cases h)]
    | true =>
      cases hf : cl_f c W with
      | none =>
        rw [if_neg (by rintro ⟨-, -, -, h⟩; cases h)]
        split <;> rfl
      | some v =>
        by_cases hk : cl_k c = 0
        · rw [if_pos ⟨by omega, rfl, rfl, rfl⟩, if_pos ⟨hk, rfl⟩]; rfl
        · rw [if_neg (fun h => hk (by omega)), if_neg (fun h => hk h.1)]
theorem lawT_1 {W : Nat → Int32} {CL : List tCl} {t : Int} : lawT CL W 1 t = lawA CL W t := by
  unfold lawT lawA
  congr 1
  funext t c
  exact clT_1
theorem lawT_h {W : Nat → Int32} {hd : Nat} (h1 : 1 ≤ hd) : ∀ (CL : List tCl) (t : Int), (∀ c ∈ CL, cl_k c = hd → cl_f c = fun _ => some 1) → lawT CL W (hd + 1) t = if lawH CL W hd = true then 1 else t
  | [], t, _ => rfl
  | c :: r, t, h => by
    show lawT r W (hd + 1) (clT W (hd + 1) c t) = if (clH W hd c || lawH r W hd) = true then 1 else t
    rw [lawT_h h1 r _ (fun x hx => h x (List.mem_cons_of_mem _ hx))]
    by_cases hr : lawH r W hd = true
    · rw [if_pos hr, hr, Bool.or_true, if_pos rfl]
    · rw [if_neg hr]
      have hr' : lawH r W hd = false := by cases hh : lawH r W hd with
        | true => exact absurd hh hr
        | false => rfl
      rw [hr', Bool.or_false]
      unfold clH clT stT
      by_cases hk : cl_k c = hd
      · have hf := h c (List.mem_cons_self ..) hk
        rw [decide_eq_true hk, Bool.true_and, hf]
        cases hg : cl_g c W with
        | none =>
          rw [if_neg (by rintro ⟨-, -, h, -⟩; cases h)]; rfl
        | some b =>
          cases b with
          | true => rw [if_pos ⟨by omega, rfl, rfl, rfl⟩]; rfl
          | false => rw [if_neg (by rintro ⟨-, h, -⟩; cases h)]; rfl
      · rw [decide_eq_false hk, Bool.false_and, if_neg (fun h => hk (by omega))]; rfl
section TX
variable {Ls i : Nat} {I : Nat → Nat → Int32} {W : Nat → Int32}
/-- one clause -/
theorem pC_r {D n k l c hd T : Nat} {a : Nat × Nat × tCl} {L : Nat → Nat → Int64} {R : Nat → Nat → Option Nat} {X : List pKd} {Q : Option Value → pHp → Prop} {q lf wo : Int32} {Z : Nat → Nat → Int32} {t : Int} {r : List Value} (hE : evH false I i W) (hzz : zOk Z I (400 * i + k)) (hr : okT r) (eT : I 123 23 = nI (400 * i + T)) (eK : I 125 (57 + i) = nI T) (hT : T ≤ 400) (hl : l ≤ 50) (hhd : hd ≤ 3) (h : pC false (kC (I 125) i) (kV (I 125) i) n k l c = some (.ok a)) (ha : a.1 ≤ 400) (hD : 44 ≤ D)
    (H : ∀ r' B, okT r' → P_run (D + 2) 198 (p_bk 198 2) 0 0 (.ref 123 :: .int (nI hd) :: .int q :: .int lf :: .int wo :: .long (lI (clT W hd a.2.2 t)) :: .retAddr 0 :: r') [] (p_mk Ls (EV I (400 * i + (a.1 + 1)) B) L R X) Q) :
    P_run (D + 2) 198 (p_bk 198 2) 0 0 (.ref 123 :: .int (nI hd) :: .int q :: .int lf :: .int wo :: .long (lI t) :: .retAddr 0 :: r) [] (p_mk Ls Z L R X) Q := by
  have hW := hE.2.2.2.2.2
  unfold pC at h
  split at h
  · cases h
  rename_i hk
  obtain ⟨x, e1, e2⟩ := bnd_iok h
  obtain ⟨y, e3, e4⟩ := bnd_iok e2
  obtain ⟨z, e5, e6⟩ := bnd_iok e4
  cases e6
  have hk' : 1 ≤ kC (I 125) i k ∧ kC (I 125) i k ≤ 3 := by
    unfold hdK at hk
    rw [if_neg (by decide)] at hk
    split at hk
    · assumption
    · exact absurd rfl hk
  have hkd : hdK false (kC (I 125) i k) = kC (I 125) i k - 1 := by
    unfold hdK; rw [if_neg (by decide), if_pos hk']
  have hkT : k < T := by
    rcases Nat.lt_or_ge k T with h | h
    · exact h
    · rw [kC_0 eK hT h] at hk'; omega
  have ey : y = (x.1, 1) := by
    unfold pTm at e3
    rw [if_neg (by rintro ⟨h, -⟩; cases h)] at e3
    cases e3; rfl
  subst ey
  have hz : z.1 ≤ 400 := ha
  have mono : x.1 ≤ z.1 ∧ x.2.1 ≤ 50 := by
    constructor
    · unfold pIf at e5
      split at e5
      · have := ((pB_g n).2.1 _ _ _ _ _ _ _ _ e5).2.2.2.1
        dsimp only at this
        omega
      · cases e5; exact Nat.le_refl _
    · unfold pSm at e1
      split at e1
      · exact ((pS_g n).2.1 _ _ _ _ _ _ e1).2.2.1
      · cases e1; exact hl
  have ht : ∃ w : Bool, okw W true false z.2.2.1 w ∧ (kC (I 125) i x.1 = 4 → P_m (D + 1) 192 [.ref 123, .int (nI 1)] (p_mk Ls (EV I (400 * i + (x.1 + 1)) false) L R X) (fun v' h' => v' = some (.int (bI w)) ∧ h' = p_mk Ls (EV I (400 * i + z.1) (rb true false (z.2.2.1 W))) L R X)) ∧ (¬ kC (I 125) i x.1 = 4 → z.1 = x.1 ∧ w = true ∧ rb true false (z.2.2.1 W) = false) := by
    unfold pIf at e5
    dsimp only at e5
    split at e5
    · rename_i h4
      obtain ⟨w, hw, s⟩ := (pB_r (Ls := Ls) hE n).2.1 _ _ _ _ _ _ _ _ e5 (by omega) mono.2 (by omega) (D + 1) (by omega) L R X true false
      exact ⟨w, hw, fun _ => s, fun h => absurd h4 h⟩
    · rename_i h4
      cases e5
      exact ⟨true, fun _ _ x hx => by cases hx; rfl, fun h => absurd h h4, fun _ => ⟨rfl, rfl, rfl⟩⟩
  obtain ⟨w, hw, ht1, ht2⟩ := ht
  have fin : clT W hd (hdK false (kC (I 125) i k), 1, x.2.2.2, z.2.2.2, x.2.2.1, z.2.2.1) t = stT (kC (I 125) i k - 1) hd (rb true false (x.2.2.1 W)) (rb true false (z.2.2.1 W)) w ((x.2.2.1 W).getD 0) t := by
    unfold clT
    show stT (hdK false (kC (I 125) i k)) hd (x.2.2.1 W).isNone (z.2.2.1 W).isNone ((z.2.2.1 W).getD true) ((x.2.2.1 W).getD 0) t = _
    rw [hkd]
    have r1 : rb true false (x.2.2.1 W) = (x.2.2.1 W).isNone := by unfold rb; rw [Bool.false_or, Bool.true_and]
    have r2 : rb true false (z.2.2.1 W) = (z.2.2.1 W).isNone := by unfold rb; rw [Bool.false_or, Bool.true_and]
    rw [r1, r2]
    cases hg : z.2.2.1 W with
    | none =>
      unfold stT
      rw [if_neg (by rintro ⟨-, -, h, -⟩; cases h), if_neg (by rintro ⟨-, -, h, -⟩; cases h)]
    | some b =>
      rw [hw rfl rfl b hg]; rfl
  have hs : inB ((x.2.2.1 W).getD 0) ∧ (kC (I 125) i k - 1 = 0 → P_m (D + 1) 188 [.ref 123, .int (nI 1)] (p_mk Ls (EV I (400 * i + (k + 1)) false) L R X) (fun v' h' => v' = some (.long (lI ((x.2.2.1 W).getD 0))) ∧ h' = p_mk Ls (EV I (400 * i + x.1) (rb true false (x.2.2.1 W))) L R X)) ∧ (¬ kC (I 125) i k - 1 = 0 → x.1 = k + 1 ∧ rb true false (x.2.2.1 W) = false ∧ (x.2.2.1 W).getD 0 = 1) := by
    rw [hkd] at e1
    unfold pSm hasS at e1
    rw [if_neg (by decide : ¬ (false = true))] at e1
    by_cases k0 : kC (I 125) i k - 1 = 0
    · rw [if_pos (decide_eq_true k0)] at e1
      have gs := ((pS_g n).2.1 _ _ _ _ _ _ e1).1
      have s := (pS_r (Ls := Ls) hE n).2.1 _ _ _ _ _ _ e1 (by omega) hl (by omega) (D + 1) (by omega) L R X true false
      rw [rv_t] at s
      refine ⟨?_, fun _ => s, fun h => absurd k0 h⟩
      cases hf : x.2.2.1 W with
      | none => unfold inB; rw [Option.getD_none]; omega
      | some v => exact gs.2.1 W hW v hf
    · rw [if_neg (by rw [decide_eq_false k0]; decide)] at e1
      cases e1
      exact ⟨by show inB 1; unfold inB; omega, fun h => absurd h k0, fun _ => ⟨rfl, rfl, rfl⟩⟩
  refine st_198 (kd := kC (I 125) i k - 1) hr hzz hE eT hT hkT (by omega) (by omega) (by omega) hhd (by omega) hs.1 hs.2.1 hs.2.2 ht1 ht2 (fun r' hr' => ?_)
  have := H r' (rb true false (z.2.2.1 W)) hr'
  dsimp only at this
  rw [fin] at this
  exact this
theorem pX_r {hd T D : Nat} {L : Nat → Nat → Int64} {R : Nat → Nat → Option Nat} {X : List pKd} {q lf wo : Int32} (hE : evH false I i W) (eT : I 123 23 = nI (400 * i + T)) (eK : I 125 (57 + i) = nI T) (hT : T ≤ 400) (hhd : hd ≤ 3) (hD : 44 ≤ D) : ∀ n m k l c acc CL, l ≤ 50 → pX false (kC (I 125) i) (kV (I 125) i) T n m k l c acc = some (.ok CL) → ∃ rest, CL = acc ++ rest ∧ ∀ (r : List Value) (Z : Nat → Nat → Int32) (t : Int), zOk Z I (400 * i + k) → okT r → P_run (D + 2) 198 (p_bk 198 2) 0 0 (.ref 123 :: .int (nI hd) :: .int q :: .int lf :: .int wo :: .long (lI t) :: .retAddr 0 :: r) [] (p_mk Ls Z L R X) (fun v h' => v = some (.int (zI (lawT rest W hd t))) ∧ ∃ B, h' = p_mk Ls (EV I (400 * i + (T + 1)) B) L R X)
  | 0, _, _, _, _, _, _, _, h => by cases h
  | n + 1, m, k, l, c, acc, CL, hl, h => by
    have h2 := hE.2.1
    unfold pX at h
    obtain ⟨a, e1, e2⟩ := bnd_iok h
    obtain ⟨g1, g2, g3, g4, g5⟩ := pC_g hl e1
    split at e2
    · rename_i hTe
      cases e2
      refine ⟨[a.2.2], rfl, fun r Z t hz hr => pC_r hE hz hr eT eK hT hl hhd e1 (by omega) hD (fun r' B hr' => ?_)⟩
      rw [hTe]
      have hx : lawT [a.2.2] W hd t = clT W hd a.2.2 t := rfl
      rw [hx]
      rcases hr' with rfl | ⟨a1, a2, a3, a4, rfl⟩ <;> (rw [P_run_eq, bk_198_2, pb_198_2]; simp -implicitDefEqProofs (disch := first | omega | decide) only [P_m, ↓P_run_eq _ 198 _ (p_bk 198 12), bk_198_12, pb_198_12, pw_aload_n0, pw_aloadN_n0, pw_getI, pw_cge, pw_iv2, pw_istore, ps_7, pe_7, po_i7, po_r7, po_n7, po_u7, pw_iconst, il_0, pw_putZ, pw_dupi, pw_dupr, il_1, pw_iadd, pw_putI, pw_iload_7, pw_cne, pw_goto, pw_lload_5, pw_l2i, pw_ret0, kd_123, rf_123_1, rf_123_2, rf_123_3, rf_123_4, rf_123_5, rf_123_7, rf_123_11, rf_123_12, rf_123_15, rf_123_16, rf_123_17, rf_123_26, rf_123_29, rf_123_30, rf_123_32, rf_123_34, rf_123_35, rf_123_45, n_0, n_1, nn_lt, nn_nlt, nn_le, nn_nle, nn_ne, nn_sub, nn_mul, nI_add, nn_neg, nm_eq, mn_eq, mm_eq, mn_lt, nm_lt, mn_le, nm_le, nn_sub0, nn_of, implies_true, nn_c, nn_in, nn_div, nat_rem, Nat.reduceMul, Nat.reduceSub, Nat.reduceDiv, Nat.reduceMod, pf_at, pf_ne, mk_s, mk_1, Classical.not_not, b2i_T, b2i_F, false_imp_iff, true_imp_iff, false_and, and_false, p_sw, Int.reduceAdd, Int.zero_add, Option.some.injEq, Value.int.injEq, Value.long.injEq, Value.ref.injEq, exists_eq_left', mk_I, mk_L, mk_wI, mk_wL, rf_s, rf_n, true_and, and_true, and_self, or_true, true_or, or_false, false_or, not_true_eq_false, not_false_eq_true, Option.toList_some, Option.toList_none, List.cons_append, List.nil_append, List.map_nil, List.map_cons, List.sum_nil, List.sum_cons, cat_i, cat_l, cat_r, cat_n, Nat.reduceLeDiff, Nat.reduceAdd, Nat.reduceEqDiff, Nat.zero_le, p_ent, p_u_ne, p_u_at, reduceIte, if_true, if_false, ev_go, ev_f, eT, lI_32]; exact ⟨B, rfl⟩)
    · split at e2
      · rename_i h159
        split at e2
        · cases e2
        · obtain ⟨rest, e3, ih⟩ := pX_r hE eT eK hT hhd hD n _ _ _ _ _ CL g4 e2
          have haT : a.1 < T := by
            rcases Nat.lt_or_ge a.1 T with h | h
            · exact h
            · rw [kC_0 eK hT h] at h159; omega
          refine ⟨a.2.2 :: rest, by rw [e3, List.append_assoc]; rfl, fun r Z t hz hr => pC_r hE hz hr eT eK hT hl hhd e1 (by omega) hD (fun r' B hr' => ?_)⟩
          exact ih r' _ (clT W hd a.2.2 t) zOk_ev hr'
      · cases e2
end TX
