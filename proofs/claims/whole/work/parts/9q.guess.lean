/-! GUESS: rows by their numbers -/
def rowN (m : Nat) : Nat → Nat → List Nat
  | 0, _ => []
  | k + 1, N => rowN m k (N / m) ++ [N % m]
def gE (c : Option (List tCl)) (K : Nat → Int32) : List Nat → Nat → (Nat → Nat) → Nat
  | [], a, _ => a
  | q :: r, a, mo => gE c K r (a + yG c K a mo q) (moA mo q)
def gR (c : Option (List tCl)) (K : Nat → Int32) (m : Nat) (w : Option Nat) (f a : Nat) (mo : Nat → Nat) (p : List Nat) (n : Nat) (s : guT) : guT := foG (fun N s => if gE c K (rowN m f N) a mo = kn K 2 then stG w (p ++ rowN m f N) s else s) n s
theorem rowN_len {m : Nat} : ∀ k N, (rowN m k N).length = k
  | 0, _ => rfl
  | k + 1, N => by unfold rowN; rw [List.length_append, rowN_len k]; rfl
theorem rowN_s : ∀ m, m ≤ 8 → ∀ f, f < 3 → ∀ q, q < m → ∀ N, N < m ^ f → rowN m (f + 1) (q * m ^ f + N) = q :: rowN m f N := by decide +kernel
theorem rowN_lt {m : Nat} (hm : 0 < m) : ∀ k N, ∀ q ∈ rowN m k N, q < m
  | 0, _, q, h => by cases h
  | k + 1, N, q, h => by
    unfold rowN at h
    rcases List.mem_append.mp h with h | h
    · exact rowN_lt hm k _ q h
    · rw [List.mem_singleton] at h
      rw [h]; exact Nat.mod_lt _ hm
theorem foG_cg {g g' : Nat → guT → guT} : ∀ n s, (∀ i s, i < n → g i s = g' i s) → foG g n s = foG g' n s
  | 0, _, _ => rfl
  | n + 1, s, h => by
    show g n (foG g n s) = g' n (foG g' n s)
    rw [foG_cg n s (fun i s hi => h i s (by omega)), h n _ (by omega)]
theorem foG_add {g : Nat → guT → guT} {a : Nat} : ∀ n s, foG g (a + n) s = foG (fun N s => g (a + N) s) n (foG g a s)
  | 0, _ => rfl
  | n + 1, s => by
    show g (a + n) (foG g (a + n) s) = g (a + n) _
    rw [foG_add n s]
theorem foG_mul {g : Nat → guT → guT} {M : Nat} : ∀ m s, foG g (m * M) s = foG (fun q s => foG (fun N s => g (q * M + N) s) M s) m s
  | 0, s => by rw [Nat.zero_mul]; rfl
  | m + 1, s => by
    rw [Nat.succ_mul, foG_add, foG_mul m s]
    rfl
theorem gdf_R {c : Option (List tCl)} {K : Nat → Int32} {m : Nat} {w : Option Nat} (hm : m ≤ 8) : ∀ f, f ≤ 3 → ∀ a mo p s, gdf c K m w f a mo p s = gR c K m w f a mo p (m ^ f) s
  | 0, _, a, mo, p, s => by
    show (if a = kn K 2 then stG w p s else s) = (if a = kn K 2 then stG w (p ++ []) s else s)
    rw [List.append_nil]
  | f + 1, hf, a, mo, p, s => by
    unfold gdf gR
    rw [Nat.pow_succ, Nat.mul_comm, foG_mul]
    refine foG_cg m s (fun q s hq => ?_)
    rw [gdf_R hm f (by omega)]
    unfold gR
    refine foG_cg _ s (fun N s hN => ?_)
    rw [rowN_s m hm f (by omega) q hq N hN]
    rw [List.append_assoc]
    rfl
theorem lawOf_13 {K K' : Nat → Int32} {c : Option (List tCl)} (h : lawOf K c) (e : ∀ j, 13 ≤ j → K' j = K j) : lawOf K' c := by
  rcases h with ⟨e1, rfl⟩ | ⟨f, n, T, CL, hf, ef, ho', eT, hT, hp, rfl⟩
  · exact Or.inl ⟨(e 56 (by omega)).trans e1, rfl⟩
  · obtain ⟨c1, c2, c3⟩ := kC_same (K' := K') hf (fun k k1 _ => e k (by omega)) ho'
    refine Or.inr ⟨f, n, T, CL, hf, (e 56 (by omega)).trans ef, ?_, c3.trans eT, hT, by rw [c1, c2]; exact hp, rfl⟩
    obtain ⟨T', hT', e', hk⟩ := ho'
    refine ⟨T', hT', c3.trans e', fun k hk' => ?_⟩
    rw [c1, c2, e _ (by omega), e _ (by omega)]
    exact hk k hk'
section GW
variable {d Ls : Nat} {I : Nat → Nat → Int32} {L : Nat → Nat → Int64} {R : Nat → Nat → Option Nat} {X : List pKd} {h : pHp} {c : Option (List tCl)} {K : Nat → Int32}
theorem gE_le (hV : vld K) : ∀ (l : List Nat) a mo, (∀ q ∈ l, q < 8) → a + 99 * l.length ≤ 12000 → gE c K l a mo ≤ a + 99 * l.length
  | [], a, _, _, _ => Nat.le_refl a
  | q :: r, a, mo, h, ha => by
    rw [List.length_cons] at ha ⊢
    have y := yG_le (c := c) (mo := mo) (a := a) hV (h q (List.mem_cons_self)) (by omega)
    have := gE_le hV r (a + yG c K a mo q) (moA mo q) (fun x hx => h x (List.mem_cons_of_mem _ hx)) (by omega)
    show gE c K r _ _ ≤ _
    omega
theorem kG_ag {q a y : Nat} {mo : Nat → Nat} (hq : q < 8) (hV : vld K) : upd (upd (kG K a mo) 2 (nI (a + y))) (5 + q) (nI (min (min (kn K (5 + q) + mo q) 999 + 1) 999)) = kG K (a + y) (moA mo q) := by
  funext j
  unfold upd kG
  by_cases h5 : j = 5 + q
  · subst h5
    rw [if_pos rfl, if_neg (by omega), if_pos (by omega), show 5 + q - 5 = q by omega]
    unfold moA
    rw [if_pos rfl]
    congr 1
    omega
  · rw [if_neg h5]
    by_cases h2 : j = 2
    · rw [if_pos h2, if_pos h2]
    · rw [if_neg h2, if_neg h2, if_neg h2]
      by_cases hj : 5 ≤ j ∧ j < 13
      · rw [if_pos hj, if_pos hj]
        unfold moA
        rw [if_neg (by omega)]
      · rw [if_neg hj, if_neg hj]
theorem kG_st {a : Nat} (hV : vld K) : upd K 2 (nI a) = kG K a (fun _ => 0) := by
  funext j
  unfold upd kG
  by_cases h2 : j = 2
  · rw [if_pos h2, if_pos h2]
  · rw [if_neg h2, if_neg h2]
    by_cases hj : 5 ≤ j ∧ j < 13
    · rw [if_pos hj]
      have := kn_e hV (j := j) (by omega) (by omega) (by omega)
      have m5 : mxk j = 999 := by
        have := mx_5 (j - 5) (by omega)
        rwa [show 5 + (j - 5) = j by omega] at this
      rw [m5] at this
      rw [show min (kn K j + 0) 999 = kn K j by omega]
      exact this.1
    · rw [if_neg hj]
theorem ages_w {D q : Nat} (h : I 125 = K) (hc : lawOf K c) (he : envOk K q) (k1 : K 0 = nI (kn K 0)) (k3 : kn K 0 < 256) (hq : q < 8) (hD : 48 ≤ D) (h5 : kn K (5 + q) ≤ 1200 ∧ K (5 + q) = nI (kn K (5 + q))) (h2 : kn K 2 ≤ 20000 ∧ K 2 = nI (kn K 2)) : ∃ J, frE (p_fn I 125 (upd (upd K 2 (nI (kn K 2 + yv c K q (pc (kn K 0))))) (5 + q) (nI (min (kn K (5 + q) + 1) 999)))) J ∧ P_m D 205 [.ref 123, .int (nI q)] (p_mk Ls I L R X) (fun v h' => v = none ∧ h' = p_mk Ls J L R X) := by
  obtain ⟨D', rfl⟩ : ∃ D', D = D' + 2 := ⟨D - 2, by omega⟩
  have s0 := sp_196 (d := D') (Ls := Ls) (I := I) (L := L) (R := R) (X := X) k3 (by rw [h]; exact k1)
  obtain ⟨J, f, s⟩ := ages_r (Ls := Ls) (I := I) (L := L) (R := R) (X := X) (D := D' + 1) (q := q) (c := c) (by rw [h]; exact hc) (by rw [h]; exact he) (pc_le (kn K 0)) (by omega)
  rw [h, (yv_e he (pc_le _)).1] at s
  have yle := (yv_e (c := c) he (pc_le (kn K 0))).2
  have j125 : J 125 = K := (f.1 125 (by omega) (by omega)).trans h
  have a2 : I 125 2 = nI (kn K 2) := by rw [h]; exact h2.2
  have a5 : J 125 (5 + q) = nI (kn K (5 + q)) := by rw [j125]; exact h5.2
  have mn : (if nI 999 < nI (kn K (5 + q) + 1) then nI 999 else nI (kn K (5 + q) + 1)) = nI (min (kn K (5 + q) + 1) 999) := by
    rcases Nat.lt_or_ge 999 (kn K (5 + q) + 1) with h | h
    · rw [if_pos (nI_lt h (by omega)), show min (kn K (5 + q) + 1) 999 = 999 by omega]
    · rw [if_neg (nI_nlt h (by omega)), show min (kn K (5 + q) + 1) 999 = kn K (5 + q) + 1 by omega]
  refine ⟨p_fn J 125 (upd (upd K 2 (nI (kn K 2 + yv c K q (pc (kn K 0))))) (5 + q) (nI (min (kn K (5 + q) + 1) 999))), ⟨fun a a1 a2 => ?_, fun k k1 k2 k3 k4 => ?_⟩, ?_⟩
  · by_cases e : a = 125
    · subst e; rw [pf_at, pf_at]
    · rw [pf_ne e, pf_ne e]; exact f.1 a a1 a2
  · rw [pf_ne (by omega), pf_ne (by omega)]; exact f.2 k k1 k2 k3 k4
  · generalize yv c K q (pc (kn K 0)) = Y at *
    have n5 : ¬ 5 + q = 2 := by omega
    simp -implicitDefEqProofs (disch := first | omega | decide) only [P_m, ↓P_run_eq _ 205 _ (p_bk 205 0), bk_205_0, pb_205_0, pw_aload_n0, pw_aloadN_n0, pw_getR, pw_iconst, il_2, pw_dup2r, pw_iald, pw_iload_n1, pw_iv1, pw_iv3, pw_iadd, pw_iast, il_5, pw_sipush, sl_999, il_1, pw_is2, pw_vret, kd_123, rf_123_1, rf_123_2, rf_123_3, rf_123_4, rf_123_5, rf_123_7, rf_123_11, rf_123_12, rf_123_15, rf_123_16, rf_123_17, rf_123_26, rf_123_29, rf_123_30, rf_123_32, rf_123_34, rf_123_35, rf_123_45, kd_125, n_0, n_1, n_2, n_5, n_999, nn_lt, nn_nlt, nn_le, nn_nle, nn_ne, nn_sub, nn_mul, nI_add, nn_neg, nm_eq, mn_eq, mm_eq, mn_lt, nm_lt, mn_le, nm_le, nn_sub0, nn_of, implies_true, nn_c, nn_in, nn_div, nat_rem, Nat.reduceMul, Nat.reduceSub, Nat.reduceDiv, Nat.reduceMod, pf_at, pf_ne, mk_s, mk_1, Classical.not_not, b2i_T, b2i_F, false_imp_iff, true_imp_iff, false_and, and_false, p_sw, Int.reduceAdd, Int.zero_add, Option.some.injEq, Value.int.injEq, Value.long.injEq, Value.ref.injEq, exists_eq_left', mk_I, mk_L, mk_wI, mk_wL, rf_s, rf_n, true_and, and_true, and_self, or_true, true_or, or_false, false_or, not_true_eq_false, not_false_eq_true, Option.toList_some, Option.toList_none, List.cons_append, List.nil_append, List.map_nil, List.map_cons, List.sum_nil, List.sum_cons, cat_i, cat_l, cat_r, cat_n, Nat.reduceLeDiff, Nat.reduceAdd, Nat.reduceEqDiff, Nat.zero_le, p_ent, p_u_ne, p_u_at, reduceIte, if_true, if_false, P_ce s0, P_ce s, a2, a5, P_ce (sp_126 _ _), mn, n5]
    simp only [pu_fn, pf_pf, pf_at, j125]
/-- she ages by a question of a row -/
theorem ages_g {D q a : Nat} {mo : Nat → Nat} (hV : vld K) (hc : lawOf K c) (h : I 125 = kG K a mo) (hq : q < 8) (ha : a ≤ 12000) (hD : 48 ≤ D) : ∃ J, frE (p_fn I 125 (kG K (a + yG c K a mo q) (moA mo q))) J ∧ P_m D 205 [.ref 123, .int (nI q)] (p_mk Ls I L R X) (fun v h' => v = none ∧ h' = p_mk Ls J L R X) := by
  obtain ⟨k1, k2, k3⟩ := kn_0 hV
  have e0 : kn (kG K a mo) 0 = kn K 0 := by unfold kn; rw [kG_0]
  have e2 : kG K a mo 2 = nI a := by unfold kG; rw [if_pos rfl]
  have n2 : kn (kG K a mo) 2 = a := by unfold kn; rw [e2, nI_clamp (by omega)]
  have e5 : kG K a mo (5 + q) = nI (min (kn K (5 + q) + mo q) 999) := by unfold kG; rw [if_neg (by omega), if_pos (by omega), show 5 + q - 5 = q by omega]
  have n5 : kn (kG K a mo) (5 + q) = min (kn K (5 + q) + mo q) 999 := by
    show (kG K a mo (5 + q)).toNatClampNeg = _
    rw [e5, nI_clamp (by omega)]
  have lw : lawOf (kG K a mo) c := by
    have h1 : ∀ j, 13 ≤ j → kG K a mo j = K j := fun j hj => by unfold kG; rw [if_neg (by omega), if_neg (by omega)]
    exact lawOf_13 hc h1
  obtain ⟨J, f, s⟩ := ages_w (Ls := Ls) (L := L) (R := R) (X := X) (D := D) h lw (env_G hV hq ha) (by rw [kG_0, e0]; exact k1) (by rw [e0]; exact k3) hq hD ⟨by omega, by rw [n5]; exact e5⟩ ⟨by omega, by rw [n2]; exact e2⟩
  rw [n2, n5, e0] at f
  have ek := kG_ag (K := K) (q := q) (a := a) (y := yG c K a mo q) (mo := mo) hq hV
  unfold yG at ek
  rw [ek] at f
  exact ⟨J, f, s⟩
end GW
