/-! LAWS LOOK AT NINE WORDS ALONE -/
def w9 (W W' : Nat → Int32) : Prop := ∀ j, j < 9 → W j = W' j
def cgS (f : tDS) : Prop := ∀ W W', w9 W W' → f W = f W'
def cgB (g : tDB) : Prop := ∀ W W', w9 W W' → g W = g W'
theorem cgS_op {p : Nat} {f g : tDS} (h1 : cgS f) (h2 : cgS g) : cgS (opS p f g) := fun W W' h => by unfold opS; rw [h1 W W' h, h2 W W' h]
theorem cgB_cmp {p : Nat} {f g : tDS} (h1 : cgS f) (h2 : cgS g) : cgB (cmpS p f g) := fun W W' h => by unfold cmpS; rw [h1 W W' h, h2 W W' h]
theorem cgB_not {p : Bool} {g : tDB} (h1 : cgB g) : cgB (notD p g) := fun W W' h => by unfold notD; rw [h1 W W' h]
theorem cgB_and {g h : tDB} (h1 : cgB g) (h2 : cgB h) : cgB (andD g h) := fun W W' e => by unfold andD; rw [h1 W W' e, h2 W W' e]
theorem cgB_or {g h : tDB} (h1 : cgB g) (h2 : cgB h) : cgB (orD g h) := fun W W' e => by unfold orD; rw [h1 W W' e, h2 W W' e]
section CG
variable {C V : Nat → Nat}
theorem pLf_c {k l : Nat} {r : Nat × Nat × tDS × tCd} (h : pLf false C V k l = some (.ok r)) : cgS r.2.2.1 := by
  unfold pLf at h
  split at h
  · cases h
  rename_i h1
  split at h
  · cases h
  split at h
  · cases h
    exact fun _ _ _ => rfl
  rename_i h3
  rw [if_neg (by rintro ⟨h, -⟩; cases h)] at h
  cases h
  have h1 : isLf false (C k) (V k) = true := by
    cases hh : isLf false (C k) (V k) with
    | true => rfl
    | false => exact absurd hh h1
  unfold isLf at h1
  rw [decide_eq_false h3, Bool.false_and, Bool.false_or] at h1
  simp only [Bool.false_eq_true, if_false, Bool.and_eq_true, decide_eq_true_eq] at h1
  intro W W' hw
  show some (W (wdi (C k))).toInt = some (W' (wdi (C k))).toInt
  rw [hw _ (wdi_9 _ h1.1 h1.2)]
theorem pS_c : ∀ n,
    (∀ d k l f cs r, pS false C V n 0 d k l f cs = some (.ok r) → cgS r.2.2.1) ∧
    (∀ d k l f cs r, pS false C V n 1 d k l f cs = some (.ok r) → cgS r.2.2.1) ∧
    (∀ d k l f cs r, cgS f → pS false C V n 2 d k l f cs = some (.ok r) → cgS r.2.2.1) ∧
    (∀ d k l f cs r, cgS f → pS false C V n 3 d k l f cs = some (.ok r) → cgS r.2.2.1)
  | 0 => ⟨fun _ _ _ _ _ _ h => (by cases h), fun _ _ _ _ _ _ h => (by cases h), fun _ _ _ _ _ _ _ h => (by cases h), fun _ _ _ _ _ _ _ h => (by cases h)⟩
  | n + 1 => by
    obtain ⟨i0, i1, i2, i3⟩ := pS_c n
    refine ⟨fun d k l f cs r h => ?_, fun d k l f cs r h => ?_, fun d k l f cs r hg h => ?_, fun d k l f cs r hg h => ?_⟩
    · unfold pS at h
      split at h
      · split at h
        · cases h
        · obtain ⟨a, e1, e2⟩ := bnd_iok h
          split at e2
          · cases e2; exact (i1 _ _ _ _ _ _ e1 :)
          · cases e2
      · exact pLf_c h
    · unfold pS at h
      obtain ⟨a, e1, e2⟩ := bnd_iok h
      obtain ⟨b, e3, e4⟩ := bnd_iok e2
      exact i3 _ _ _ _ _ _ (i2 _ _ _ _ _ _ (i0 _ _ _ _ _ _ e1) e3) e4
    · unfold pS at h
      split at h
      · cases h; exact hg
      · obtain ⟨a, e1, e2⟩ := bnd_iok h
        exact i2 _ _ _ _ _ _ (cgS_op hg (i0 _ _ _ _ _ _ e1)) e2
    · unfold pS at h
      split at h
      · cases h; exact hg
      · obtain ⟨a, e1, e2⟩ := bnd_iok h
        obtain ⟨b, e3, e4⟩ := bnd_iok e2
        exact i3 _ _ _ _ _ _ (cgS_op hg (i2 _ _ _ _ _ _ (i0 _ _ _ _ _ _ e1) e3)) e4
theorem pB_c : ∀ n,
    (∀ p d k l c g cs r, pB false C V n 0 p d k l c g cs = some (.ok r) → cgB r.2.2.1) ∧
    (∀ p d k l c g cs r, pB false C V n 1 p d k l c g cs = some (.ok r) → cgB r.2.2.1) ∧
    (∀ p d k l c g cs r, cgB g → pB false C V n 2 p d k l c g cs = some (.ok r) → cgB r.2.2.1) ∧
    (∀ p d k l c g cs r, cgB g → pB false C V n 3 p d k l c g cs = some (.ok r) → cgB r.2.2.1)
  | 0 => ⟨fun _ _ _ _ _ _ _ _ h => (by cases h), fun _ _ _ _ _ _ _ _ h => (by cases h), fun _ _ _ _ _ _ _ _ _ h => (by cases h), fun _ _ _ _ _ _ _ _ _ h => (by cases h)⟩
  | n + 1 => by
    obtain ⟨i0, i1, i2, i3⟩ := pB_c n
    have s1 := (pS_c (C := C) (V := V) n).2.1
    refine ⟨fun p d k l c g cs r h => ?_, fun p d k l c g cs r h => ?_, fun p d k l c g cs r hg h => ?_, fun p d k l c g cs r hg h => ?_⟩
    · unfold pB at h
      split at h
      · exact i0 _ _ _ _ _ _ _ _ h
      split at h
      · split at h
        · cases h
        · obtain ⟨a, e1, e2⟩ := bnd_iok h
          split at e2
          · cases e2; exact cgB_not (i1 _ _ _ _ _ _ _ _ e1)
          · cases e2
      · obtain ⟨a, e1, e2⟩ := bnd_iok h
        split at e2
        · cases e2
        · obtain ⟨b, e3, e4⟩ := bnd_iok e2
          cases e4
          exact cgB_not (cgB_cmp (s1 _ _ _ _ _ _ e1) (s1 _ _ _ _ _ _ e3))
    · unfold pB at h
      obtain ⟨a, e1, e2⟩ := bnd_iok h
      obtain ⟨b, e3, e4⟩ := bnd_iok e2
      exact i3 _ _ _ _ _ _ _ _ (i2 _ _ _ _ _ _ _ _ (i0 _ _ _ _ _ _ _ _ e1) e3) e4
    · unfold pB at h
      split at h
      · obtain ⟨a, e1, e2⟩ := bnd_iok h
        exact i2 _ _ _ _ _ _ _ _ (cgB_and hg (i0 _ _ _ _ _ _ _ _ e1)) e2
      · cases h; exact hg
    · unfold pB at h
      split at h
      · obtain ⟨a, e1, e2⟩ := bnd_iok h
        obtain ⟨b, e3, e4⟩ := bnd_iok e2
        exact i3 _ _ _ _ _ _ _ _ (cgB_or hg (i2 _ _ _ _ _ _ _ _ (i0 _ _ _ _ _ _ _ _ e1) e3)) e4
      · cases h; exact hg
theorem pX_c {T : Nat} : ∀ n m k l c acc CL, (∀ x ∈ acc, cgS (cl_f x) ∧ cgB (cl_g x)) → pX false C V T n m k l c acc = some (.ok CL) → ∀ x ∈ CL, cgS (cl_f x) ∧ cgB (cl_g x)
  | 0, _, _, _, _, _, _, _, h => by cases h
  | n + 1, m, k, l, c, acc, CL, ha, h => by
    unfold pX at h
    obtain ⟨a, e1, e2⟩ := bnd_iok h
    have hx : cgS (cl_f a.2.2) ∧ cgB (cl_g a.2.2) := by
      unfold pC at e1
      split at e1
      · cases e1
      obtain ⟨x, f1, f2⟩ := bnd_iok e1
      obtain ⟨y, f3, f4⟩ := bnd_iok f2
      obtain ⟨z, f5, f6⟩ := bnd_iok f4
      cases f6
      constructor
      · unfold pSm at f1
        split at f1
        · exact (pS_c n).2.1 _ _ _ _ _ _ f1
        · cases f1; exact fun _ _ _ => rfl
      · unfold pIf at f5
        split at f5
        · exact (pB_c n).2.1 _ _ _ _ _ _ _ _ f5
        · cases f5; exact fun _ _ _ => rfl
    have hacc : ∀ x ∈ acc ++ [a.2.2], cgS (cl_f x) ∧ cgB (cl_g x) := by
      intro x hx'
      rcases List.mem_append.mp hx' with h' | h'
      · exact ha x h'
      · rw [List.mem_singleton.mp h']; exact hx
    split at e2
    · cases e2; exact hacc
    · split at e2
      · split at e2
        · cases e2
        · exact pX_c n _ _ _ _ _ CL hacc e2
      · cases e2
end CG
theorem lawA_c {W W' : Nat → Int32} (hw : w9 W W') : ∀ (CL : List tCl) (y : Int), (∀ x ∈ CL, cgS (cl_f x) ∧ cgB (cl_g x)) → lawA CL W y = lawA CL W' y
  | [], y, _ => rfl
  | c :: r, y, h => by
    have hc := h c (List.mem_cons_self ..)
    have e : clA W c y = clA W' c y := by unfold clA; rw [hc.1 W W' hw, hc.2 W W' hw]
    show lawA r W (clA W c y) = lawA r W' (clA W' c y)
    rw [e]
    exact lawA_c hw r _ (fun x hx => h x (List.mem_cons_of_mem _ hx))
theorem lawH_c {W W' : Nat → Int32} (hw : w9 W W') (kd : Nat) : ∀ (CL : List tCl), (∀ x ∈ CL, cgS (cl_f x) ∧ cgB (cl_g x)) → lawH CL W kd = lawH CL W' kd
  | [], _ => rfl
  | c :: r, h => by
    have hc := h c (List.mem_cons_self ..)
    have e : clH W kd c = clH W' kd c := by unfold clH; rw [hc.2 W W' hw]
    show (clH W kd c || lawH r W kd) = (clH W' kd c || lawH r W' kd)
    rw [e, lawH_c hw kd r (fun x hx => h x (List.mem_cons_of_mem _ hx))]
/-- a law that looks at nine words alone -/
def cgL (c : Option (List tCl)) : Prop := ∀ CL, c = some CL → ∀ x ∈ CL, cgS (cl_f x) ∧ cgB (cl_g x)
theorem agF_c {W W' : Nat → Int32} {c : Option (List tCl)} (hw : w9 W W') (h : cgL c) : agF c W = agF c W' := by
  cases c with
  | none => unfold agF; rw [hw 1 (by omega)]
  | some CL => unfold agF; dsimp only; rw [hw 1 (by omega)]; exact lawA_c hw CL _ (h CL rfl)
theorem hdF_c {W W' : Nat → Int32} {c : Option (List tCl)} {kd : Nat} (hw : w9 W W') (h : cgL c) : hdF c W kd = hdF c W' kd := by
  cases c with
  | none => rfl
  | some CL => exact lawH_c hw kd CL (h CL rfl)
theorem lawOf_c {K : Nat → Int32} {c : Option (List tCl)} (h : lawOf K c) : cgL c := by
  rcases h with ⟨-, rfl⟩ | ⟨f, n, T, CL, -, -, -, -, -, hp, rfl⟩
  · intro CL h; cases h
  · intro CL' h; cases h
    exact pX_c n 0 0 0 0 [] CL (fun x hx => by cases hx) hp
/-- clauses without a sum -/
theorem lawOf_k {K : Nat → Int32} {c : Option (List tCl)} (h : lawOf K c) {CL : List tCl} (e : c = some CL) : (∀ j cl, CL[j]? = some cl → clOk false (clB CL j) cl) ∧ ∀ x ∈ CL, ∀ hd, 1 ≤ hd → cl_k x = hd → cl_f x = fun _ => some 1 := by
  rcases h with ⟨-, rfl⟩ | ⟨f, n, T, CL', -, -, -, -, -, hp, rfl⟩
  · cases e
  · cases e
    have h1 := (pX_g n 0 0 0 0 [] CL (by omega) rfl (by omega) rfl (by omega) (fun j cl hj => by cases hj) hp).1
    refine ⟨h1, fun x hx hd h0 hk => ?_⟩
    obtain ⟨j, hj, ej⟩ := List.mem_iff_getElem.mp hx
    have h2 := h1 j x (by rw [List.getElem?_eq_getElem hj, ej])
    rcases h2.1 with ⟨hs, -⟩ | ⟨-, -, h3⟩
    · unfold hasS at hs
      rw [if_neg (by decide)] at hs
      have := of_decide_eq_true hs
      omega
    · exact h3
section AG2
variable {Ls : Nat} {I : Nat → Nat → Int32} {L : Nat → Nat → Int64} {R : Nat → Nat → Option Nat} {X : List pKd}
theorem ages_r {D q lf : Nat} {c : Option (List tCl)} (hc : lawOf (I 125) c) (hq : envOk (I 125) q) (hl : lf ≤ 8) (hD : 47 ≤ D) : ∃ J, frE I J ∧ P_m D 199 [.ref 123, .int (nI q), .int (nI lf)] (p_mk Ls I L R X) (fun v h' => v = some (.int (zI (agF c (wEnv (I 125) q (nI lf))))) ∧ h' = p_mk Ls J L R X) := by
  obtain ⟨D', rfl⟩ : ∃ D', D = D' + 1 := ⟨D - 1, by omega⟩
  obtain ⟨J, hJ, s⟩ := tells_r (Ls := Ls) (L := L) (R := R) (X := X) (D := D') (hd := 1) (wo := I 125 (21 + q)) hc hq hl (by omega) (by omega)
  refine ⟨J, hJ, ?_⟩
  have h0 := hq.1
  have e : tlF c (wEnv (I 125) q (nI lf)) 1 (I 125 (21 + q)) = zI (agF c (wEnv (I 125) q (nI lf))) := by
    cases c with
    | none => exact (zI_of _).symm
    | some CL => unfold tlF; dsimp only; rw [lawT_1]; rfl
  rw [e] at s
  simp -implicitDefEqProofs (disch := first | omega | decide) only [P_m, ↓P_run_eq _ 199 _ (p_bk 199 0), bk_199_0, pb_199_0, pw_aload_n0, pw_aloadN_n0, pw_iconst, il_1, pw_iload_n1, pw_iload_n2, pw_getR, pw_bipush, bl_21, pw_iadd, pw_iald, pw_iv5, pw_ret0, kd_123, rf_123_1, rf_123_2, rf_123_3, rf_123_4, rf_123_5, rf_123_7, rf_123_11, rf_123_12, rf_123_15, rf_123_16, rf_123_17, rf_123_26, rf_123_29, rf_123_30, rf_123_32, rf_123_34, rf_123_35, rf_123_45, kd_125, n_0, n_1, n_21, nn_lt, nn_nlt, nn_le, nn_nle, nn_ne, nn_sub, nn_mul, nI_add, nn_neg, nm_eq, mn_eq, mm_eq, mn_lt, nm_lt, mn_le, nm_le, nn_sub0, nn_of, implies_true, nn_c, nn_in, nn_div, nat_rem, Nat.reduceMul, Nat.reduceSub, Nat.reduceDiv, Nat.reduceMod, pf_at, pf_ne, mk_s, mk_1, Classical.not_not, b2i_T, b2i_F, false_imp_iff, true_imp_iff, false_and, and_false, p_sw, Int.reduceAdd, Int.zero_add, Option.some.injEq, Value.int.injEq, Value.long.injEq, Value.ref.injEq, exists_eq_left', mk_I, mk_L, mk_wI, mk_wL, rf_s, rf_n, true_and, and_true, and_self, or_true, true_or, or_false, false_or, not_true_eq_false, not_false_eq_true, Option.toList_some, Option.toList_none, List.cons_append, List.nil_append, List.map_nil, List.map_cons, List.sum_nil, List.sum_cons, cat_i, cat_l, cat_r, cat_n, Nat.reduceLeDiff, Nat.reduceAdd, Nat.reduceEqDiff, Nat.zero_le, p_ent, p_u_ne, p_u_at, reduceIte, if_true, if_false, P_ce s]
theorem turns_r {D q sk : Nat} {c : Option (List tCl)} (hc : lawOf (I 125) c) (hq : envOk (I 125) q) (hs : sk < 256) (es : I 125 0 = nI sk) (hD : 47 ≤ D) : ∃ J, frE I J ∧ P_m D 200 [.ref 123, .int (nI q)] (p_mk Ls I L R X) (fun v h' => v = some (.int (bI (hdF c (wEnv (I 125) q (nI (pc sk))) 1))) ∧ h' = p_mk Ls J L R X) := by
  obtain ⟨D', rfl⟩ : ∃ D', D = D' + 2 := ⟨D - 2, by omega⟩
  have hl := pc_le sk
  obtain ⟨J, hJ, s⟩ := tells_r (Ls := Ls) (L := L) (R := R) (X := X) (D := D' + 1) (hd := 2) (q := q) (lf := pc sk) (wo := nI 0) hc hq hl (by omega) (by omega)
  refine ⟨J, hJ, ?_⟩
  have s1 := sp_196 (d := D') (Ls := Ls) (I := I) (L := L) (R := R) (X := X) hs es
  have e : tlF c (wEnv (I 125) q (nI (pc sk))) 2 (nI 0) = bI (hdF c (wEnv (I 125) q (nI (pc sk))) 1) := by
    cases hcc : c with
    | none => rfl
    | some CL =>
      unfold tlF
      dsimp only
      rw [lawT_h (hd := 1) (by omega) CL _ (fun x hx hk => (lawOf_k hc hcc).2 x hx 1 (by omega) hk)]
      unfold hdF
      dsimp only
      cases lawH CL (wEnv (I 125) q (nI (pc sk))) 1 <;> rfl
  rw [e] at s
  simp -implicitDefEqProofs (disch := first | omega | decide) only [P_m, ↓P_run_eq _ 200 _ (p_bk 200 0), bk_200_0, pb_200_0, pw_aload_n0, pw_aloadN_n0, pw_iconst, il_2, pw_iload_n1, pw_iv1, il_0, pw_iv5, pw_ret0, kd_123, rf_123_1, rf_123_2, rf_123_3, rf_123_4, rf_123_5, rf_123_7, rf_123_11, rf_123_12, rf_123_15, rf_123_16, rf_123_17, rf_123_26, rf_123_29, rf_123_30, rf_123_32, rf_123_34, rf_123_35, rf_123_45, kd_125, n_0, n_1, n_2, nn_lt, nn_nlt, nn_le, nn_nle, nn_ne, nn_sub, nn_mul, nI_add, nn_neg, nm_eq, mn_eq, mm_eq, mn_lt, nm_lt, mn_le, nm_le, nn_sub0, nn_of, implies_true, nn_c, nn_in, nn_div, nat_rem, Nat.reduceMul, Nat.reduceSub, Nat.reduceDiv, Nat.reduceMod, pf_at, pf_ne, mk_s, mk_1, Classical.not_not, b2i_T, b2i_F, false_imp_iff, true_imp_iff, false_and, and_false, p_sw, Int.reduceAdd, Int.zero_add, Option.some.injEq, Value.int.injEq, Value.long.injEq, Value.ref.injEq, exists_eq_left', mk_I, mk_L, mk_wI, mk_wL, rf_s, rf_n, true_and, and_true, and_self, or_true, true_or, or_false, false_or, not_true_eq_false, not_false_eq_true, Option.toList_some, Option.toList_none, List.cons_append, List.nil_append, List.map_nil, List.map_cons, List.sum_nil, List.sum_cons, cat_i, cat_l, cat_r, cat_n, Nat.reduceLeDiff, Nat.reduceAdd, Nat.reduceEqDiff, Nat.zero_le, p_ent, p_u_ne, p_u_at, reduceIte, if_true, if_false, P_ce s1, P_ce s]
theorem bars_r {D q lf : Nat} {c : Option (List tCl)} (hc : lawOf (I 125) c) (hq : envOk (I 125) q) (hl : lf ≤ 8) (hD : 47 ≤ D) : ∃ J, frE I J ∧ P_m D 201 [.ref 123, .int (nI q), .int (nI lf)] (p_mk Ls I L R X) (fun v h' => v = some (.int (bI (hdF c (wEnv (I 125) q (nI lf)) 2))) ∧ h' = p_mk Ls J L R X) := by
  obtain ⟨D', rfl⟩ : ∃ D', D = D' + 1 := ⟨D - 1, by omega⟩
  obtain ⟨J, hJ, s⟩ := tells_r (Ls := Ls) (L := L) (R := R) (X := X) (D := D') (hd := 3) (q := q) (lf := lf) (wo := nI 0) hc hq hl (by omega) (by omega)
  refine ⟨J, hJ, ?_⟩
  have e : tlF c (wEnv (I 125) q (nI lf)) 3 (nI 0) = bI (hdF c (wEnv (I 125) q (nI lf)) 2) := by
    cases hcc : c with
    | none => rfl
    | some CL =>
      unfold tlF
      dsimp only
      rw [lawT_h (hd := 2) (by omega) CL _ (fun x hx hk => (lawOf_k hc hcc).2 x hx 2 (by omega) hk)]
      unfold hdF
      dsimp only
      cases lawH CL (wEnv (I 125) q (nI lf)) 2 <;> rfl
  rw [e] at s
  clear e
  cases hh : hdF c (wEnv (I 125) q (nI lf)) 2 with
  | true =>
    rw [hh, bI_t] at s
    rw [bI_t]
    simp -implicitDefEqProofs (disch := first | omega | decide) only [P_m, ↓P_run_eq _ 201 _ (p_bk 201 0), bk_201_0, pb_201_0, ↓P_run_eq _ 201 _ (p_bk 201 1), bk_201_1, pb_201_1, ↓P_run_eq _ 201 _ (p_bk 201 2), bk_201_2, pb_201_2, pw_aload_n0, pw_aloadN_n0, pw_iconst, il_3, pw_iload_n1, pw_iload_n2, il_0, pw_iv5, il_1, pw_cne, pw_goto, pw_nop, pw_ret1, kd_123, rf_123_1, rf_123_2, rf_123_3, rf_123_4, rf_123_5, rf_123_7, rf_123_11, rf_123_12, rf_123_15, rf_123_16, rf_123_17, rf_123_26, rf_123_29, rf_123_30, rf_123_32, rf_123_34, rf_123_35, rf_123_45, kd_125, n_0, n_1, n_3, nn_lt, nn_nlt, nn_le, nn_nle, nn_ne, nn_sub, nn_mul, nI_add, nn_neg, nm_eq, mn_eq, mm_eq, mn_lt, nm_lt, mn_le, nm_le, nn_sub0, nn_of, implies_true, nn_c, nn_in, nn_div, nat_rem, Nat.reduceMul, Nat.reduceSub, Nat.reduceDiv, Nat.reduceMod, pf_at, pf_ne, mk_s, mk_1, Classical.not_not, b2i_T, b2i_F, false_imp_iff, true_imp_iff, false_and, and_false, p_sw, Int.reduceAdd, Int.zero_add, Option.some.injEq, Value.int.injEq, Value.long.injEq, Value.ref.injEq, exists_eq_left', mk_I, mk_L, mk_wI, mk_wL, rf_s, rf_n, true_and, and_true, and_self, or_true, true_or, or_false, false_or, not_true_eq_false, not_false_eq_true, Option.toList_some, Option.toList_none, List.cons_append, List.nil_append, List.map_nil, List.map_cons, List.sum_nil, List.sum_cons, cat_i, cat_l, cat_r, cat_n, Nat.reduceLeDiff, Nat.reduceAdd, Nat.reduceEqDiff, Nat.zero_le, p_ent, p_u_ne, p_u_at, reduceIte, if_true, if_false, P_ce s]
  | false =>
    rw [hh, bI_f] at s
    rw [bI_f]
    simp -implicitDefEqProofs (disch := first | omega | decide) only [P_m, ↓P_run_eq _ 201 _ (p_bk 201 0), bk_201_0, pb_201_0, ↓P_run_eq _ 201 _ (p_bk 201 1), bk_201_1, pb_201_1, ↓P_run_eq _ 201 _ (p_bk 201 2), bk_201_2, pb_201_2, pw_aload_n0, pw_aloadN_n0, pw_iconst, il_3, pw_iload_n1, pw_iload_n2, il_0, pw_iv5, il_1, pw_cne, pw_goto, pw_nop, pw_ret1, kd_123, rf_123_1, rf_123_2, rf_123_3, rf_123_4, rf_123_5, rf_123_7, rf_123_11, rf_123_12, rf_123_15, rf_123_16, rf_123_17, rf_123_26, rf_123_29, rf_123_30, rf_123_32, rf_123_34, rf_123_35, rf_123_45, kd_125, n_0, n_1, n_3, nn_lt, nn_nlt, nn_le, nn_nle, nn_ne, nn_sub, nn_mul, nI_add, nn_neg, nm_eq, mn_eq, mm_eq, mn_lt, nm_lt, mn_le, nm_le, nn_sub0, nn_of, implies_true, nn_c, nn_in, nn_div, nat_rem, Nat.reduceMul, Nat.reduceSub, Nat.reduceDiv, Nat.reduceMod, pf_at, pf_ne, mk_s, mk_1, Classical.not_not, b2i_T, b2i_F, false_imp_iff, true_imp_iff, false_and, and_false, p_sw, Int.reduceAdd, Int.zero_add, Option.some.injEq, Value.int.injEq, Value.long.injEq, Value.ref.injEq, exists_eq_left', mk_I, mk_L, mk_wI, mk_wL, rf_s, rf_n, true_and, and_true, and_self, or_true, true_or, or_false, false_or, not_true_eq_false, not_false_eq_true, Option.toList_some, Option.toList_none, List.cons_append, List.nil_append, List.map_nil, List.map_cons, List.sum_nil, List.sum_cons, cat_i, cat_l, cat_r, cat_n, Nat.reduceLeDiff, Nat.reduceAdd, Nat.reduceEqDiff, Nat.zero_le, p_ent, p_u_ne, p_u_at, reduceIte, if_true, if_false, P_ce s]
end AG2
