section PD
variable {d Ls : Nat} {I : Nat → Nat → Int32} {L : Nat → Nat → Int64} {R : Nat → Nat → Option Nat} {X : List pKd} {h : pHp}
theorem p_uu {α : Type} {f : Nat → Nat → α} {a k : Nat} {v v' : α} : p_u (p_u f a k v) a k v' = p_u f a k v' := by
  funext b j
  by_cases e : b = a
  · subst e
    rw [p_u_at, p_u_at, p_u_at]
    split <;> rfl
  · rw [p_u_ne e, p_u_ne e, p_u_ne e]
def fsI (I : Nat → Nat → Int32) : Option (Nat × Nat) → Nat → Nat → Int32
  | none => I
  | some b => p_u I 48 4 (nI b.2)
theorem fsI_u {I : Nat → Nat → Int32} {o : Option (Nat × Nat)} {v : Int32} : p_u (fsI I o) 48 4 v = p_u I 48 4 v := by
  cases o with
  | none => rfl
  | some b => exact p_uu
theorem fsI_ne {I : Nat → Nat → Int32} {o : Option (Nat × Nat)} {a : Nat} (h : ¬ a = 48) : fsI I o a = I a := by
  cases o with
  | none => rfl
  | some b => exact p_u_ne h
def yo (y : Nat → Nat → Nat) (ok : Nat → Nat → Bool) (q l : Nat) : Option Nat := if ok q l = true then some (y q l) else none
theorem wtS_16 {n s : Nat} {w : Nat → Nat} {md : Bool} : (if md = true then wSum w s n else 1) = wtS n w md s := rfl
theorem pl_39 {s n m A : Nat} {a w : Nat → Nat} {y : Nat → Nat → Nat} {ok : Nat → Nat → Bool} {T : Nat → Option Nat} {md : Bool} (hn : n ≤ 8) (hm : m ≤ 8) (hw : ∀ t, t < n → w t ≤ 99) (hy : ∀ q l, q < m → l ≤ 8 → y q l ≤ 99) (hs : s < 256) (hp : 2 ≤ pc s) (hA : dn s A = 0) (hA2 : A < 256) (hb : tbB n w md T)
    (hT : ∀ s', s' < s → dn s' A = 0 → I 62 s' = pnI (T s')) (hth : ∀ q x, q < m → x < 4 → I 64 (q * 4 + x) = nI (thA (a q) n x)) (hyo : ∀ q l, q < m → 2 ≤ l → l ≤ pc A → I 63 (q * 9 + l) = pnI (yo y ok q l))
    (h71 : I 71 0 = nI n) (h712 : I 71 2 = nI m) (h72 : ∀ t, t < n → I 72 t = nI (w t)) (hR : R 48 1 = some 71) :
    P_m (d + 1) 39 [.ref 48, .int (nI s), .int (nI (bN md))] (p_mk Ls I L R X) (fun v h' => v = some (.int (pnI ((cel n a w y ok md T s m).map Prod.fst))) ∧ h' = p_mk Ls (fsI I (cel n a w y ok md T s m)) L R X) := by
  have pl := pc_le s
  have pA := dn_pc hs hA2 hA
  have wl := wtS_le (md := md) hn hw s
  have loop : ∀ q, q ≤ m → P_run (d + 1) 39 (p_bk 39 3) 0 0 [.ref 48, .int (nI s), .int (nI (bN md)), .int (nI (pc s)), .int (nI (wtS n w md s)), .int (pnI ((cel n a w y ok md T s q).map Prod.fst)), .int (nI q)] [] (p_mk Ls (fsI I (cel n a w y ok md T s q)) L R X) (fun v h' => v = some (.int (pnI ((cel n a w y ok md T s m).map Prod.fst))) ∧ h' = p_mk Ls (fsI I (cel n a w y ok md T s m)) L R X) := by
    refine down_ind ?_ ?_
    · have j1 : fsI I (cel n a w y ok md T s m) 71 2 = nI m := by rw [fsI_ne (by omega)]; exact h712
      generalize cel n a w y ok md T s m = C at *
      generalize fsI I C = J at *
      rw [P_run_eq, bk_39_3, pb_39_3]; simp -implicitDefEqProofs (disch := first | omega | decide) only [P_m, ↓P_run_eq _ 39 _ (p_bk 39 8), bk_39_8, pb_39_8, pw_iload_6, pw_aload_n0, pw_aloadN_n0, pw_getR, pw_getI, pw_cge, pw_bipush, bl_9, pw_imul, pw_iload_n3, pw_iadd, pw_iald, pw_istore, ps_7, pe_7, po_i7, po_r7, po_n7, po_u7, pw_iload_7, pw_iconst, il_m1, pw_cne, pw_goto, pw_iload_5, pw_ret0, kd_48, rf_48_0, rf_48_6, rf_48_7, rf_48_8, rf_48_9, rf_48_10, rf_48_12, rf_48_13, rf_48_14, rf_48_15, rf_48_1, rf_48_2, kd_71, rf_71_1, rf_71_3, rf_71_4, rf_71_5, rf_71_6, rf_71_11, rf_71_12, rf_71_14, n_0, n_1, n_9, nn_lt, nn_nlt, nn_le, nn_nle, nn_ne, nn_sub, nn_mul, nI_add, nn_neg, nm_eq, mn_eq, mm_eq, mn_lt, nm_lt, mn_le, nm_le, nn_sub0, nn_of, implies_true, nn_c, nn_in, nn_div, nat_rem, Nat.reduceMul, Nat.reduceSub, Nat.reduceDiv, Nat.reduceMod, pf_at, pf_ne, mk_s, mk_1, Classical.not_not, b2i_T, b2i_F, false_imp_iff, true_imp_iff, false_and, and_false, p_sw, Int.reduceAdd, Int.zero_add, Option.some.injEq, Value.int.injEq, Value.long.injEq, Value.ref.injEq, exists_eq_left', mk_I, mk_L, mk_wI, mk_wL, rf_s, rf_n, true_and, and_true, and_self, or_true, true_or, or_false, false_or, not_true_eq_false, not_false_eq_true, Option.toList_some, Option.toList_none, List.cons_append, List.nil_append, List.map_nil, List.map_cons, List.sum_nil, List.sum_cons, cat_i, cat_l, cat_r, cat_n, Nat.reduceLeDiff, Nat.reduceAdd, Nat.reduceEqDiff, Nat.zero_le, p_ent, p_u_ne, p_u_at, reduceIte, if_true, if_false, hR, va_rs, j1]
    · intro q hq ih
      have cb := fun b e => cel_b (q := q) hn hw hs (by omega) hb b (a := a) (ok := ok) (fun j hj => hy j _ (by omega) pl) e
      have j1 : fsI I (cel n a w y ok md T s q) 71 2 = nI m := by rw [fsI_ne (by omega)]; exact h712
      have j2 : fsI I (cel n a w y ok md T s q) 63 (q * 9 + pc s) = pnI (yo y ok q (pc s)) := by rw [fsI_ne (by omega)]; exact hyo q _ hq hp pA
      have s4 := pl_40 (d := d) (Ls := Ls) (I := fsI I (cel n a w y ok md T s q)) (L := L) (R := R) (X := X) (q := q) (a := a q) hn hw hs (by omega) hA hb (fun s' h1 h2 => by rw [fsI_ne (by omega)]; exact hT s' h1 h2) (fun x hx => by rw [fsI_ne (by omega)]; exact hth q x hq hx)
      have ec : cel n a w y ok md T s (q + 1) = (match cnd n a w y ok md T s q with
          | none => cel n a w y ok md T s q
          | some v => match cel n a w y ok md T s q with
            | none => some (v, q)
            | some b => if v < b.1 then some (v, q) else some b) := rfl
      have yl := hy q (pc s) hq pl
      by_cases o : ok q (pc s) = true
      · have o1 : yo y ok q (pc s) = some (y q (pc s)) := if_pos o
        rw [o1] at j2
        replace j2 : fsI I (cel n a w y ok md T s q) 63 (q * 9 + pc s) = nI (y q (pc s)) := j2
        have cd : cnd n a w y ok md T s q = (match bhx T (a q) n s 4 with
            | none => none
            | some b => some (y q (pc s) * wtS n w md s + (if md = true then b.1 else b.2))) := if_pos o
        cases e4 : bhx T (a q) n s 4 with
        | none =>
          rw [e4] at s4 cd
          replace s4 : P_m d 40 [.ref 48, .int (nI s), .int (nI q), .int (nI (bN md))] (p_mk Ls (fsI I (cel n a w y ok md T s q)) L R X) (fun v h' => v = some (.int (mI 1)) ∧ h' = p_mk Ls (fsI I (cel n a w y ok md T s q)) L R X) := s4
          have cd : cnd n a w y ok md T s q = none := cd
          rw [cd] at ec
          rw [ec] at ih
          dsimp only at ih
          generalize cel n a w y ok md T s q = C at *
          generalize fsI I C = J at *
          generalize pc s = P at *
          generalize y q P = Y at *
          rw [P_run_eq, bk_39_3, pb_39_3]; simp -implicitDefEqProofs (disch := first | omega | decide) only [P_m, ↓P_run_eq _ 39 _ (p_bk 39 4), bk_39_4, pb_39_4, ↓P_run_eq _ 39 _ (p_bk 39 5), bk_39_5, pb_39_5, ↓P_run_eq _ 39 _ (p_bk 39 7), bk_39_7, pb_39_7, pw_iload_6, pw_aload_n0, pw_aloadN_n0, pw_getR, pw_getI, pw_cge, pw_bipush, bl_9, pw_imul, pw_iload_n3, pw_iadd, pw_iald, pw_istore, ps_7, pe_7, po_i7, po_r7, po_n7, po_u7, pw_iload_7, pw_iconst, il_m1, pw_cne, pw_goto, pw_iload_n1, pw_iload_n2, pw_iv4, pw_nop, ps_8, pe_8, po_i8, po_r8, po_n8, po_u8, pw_iload_8, pw_ceq, pw_iload_5, pw_iload_4, pw_iinc_6, il_1, po_i6, po_r6, po_n6, po_u6, kd_48, rf_48_0, rf_48_6, rf_48_7, rf_48_8, rf_48_9, rf_48_10, rf_48_12, rf_48_13, rf_48_14, rf_48_15, rf_48_1, rf_48_2, kd_63, kd_71, rf_71_1, rf_71_3, rf_71_4, rf_71_5, rf_71_6, rf_71_11, rf_71_12, rf_71_14, n_0, n_1, n_9, nn_lt, nn_nlt, nn_le, nn_nle, nn_ne, nn_sub, nn_mul, nI_add, nn_neg, nm_eq, mn_eq, mm_eq, mn_lt, nm_lt, mn_le, nm_le, nn_sub0, nn_of, implies_true, nn_c, nn_in, nn_div, nat_rem, Nat.reduceMul, Nat.reduceSub, Nat.reduceDiv, Nat.reduceMod, pf_at, pf_ne, mk_s, mk_1, Classical.not_not, b2i_T, b2i_F, false_imp_iff, true_imp_iff, false_and, and_false, p_sw, Int.reduceAdd, Int.zero_add, Option.some.injEq, Value.int.injEq, Value.long.injEq, Value.ref.injEq, exists_eq_left', mk_I, mk_L, mk_wI, mk_wL, rf_s, rf_n, true_and, and_true, and_self, or_true, true_or, or_false, false_or, not_true_eq_false, not_false_eq_true, Option.toList_some, Option.toList_none, List.cons_append, List.nil_append, List.map_nil, List.map_cons, List.sum_nil, List.sum_cons, cat_i, cat_l, cat_r, cat_n, Nat.reduceLeDiff, Nat.reduceAdd, Nat.reduceEqDiff, Nat.zero_le, p_ent, p_u_ne, p_u_at, reduceIte, if_true, if_false, hR, va_rs, j1, j2, P_ce s4]
          exact P_ls ih (lsLe_ap _ [_, _] (by simp only [List.mem_cons, List.not_mem_nil, or_false]; rintro _ (rfl | rfl) <;> rfl))
        | some b =>
          rw [e4] at s4 cd
          have vb := cnd_b (v := y q (pc s) * wtS n w md s + (if md = true then b.1 else b.2)) hn hw hs (by omega) yl hb cd
          have vb2 : 99 * pc s * wtS n w md s ≤ 792 * 792 := Nat.mul_le_mul (by omega) wl
          replace s4 : P_m d 40 [.ref 48, .int (nI s), .int (nI q), .int (nI (bN md))] (p_mk Ls (fsI I (cel n a w y ok md T s q)) L R X) (fun v h' => v = some (.int (nI (if md = true then b.1 else b.2))) ∧ h' = p_mk Ls (fsI I (cel n a w y ok md T s q)) L R X) := s4
          have cd : cnd n a w y ok md T s q = some (y q (pc s) * wtS n w md s + (if md = true then b.1 else b.2)) := cd
          rw [cd] at ec
          dsimp only at ec
          have fu := fun v => fsI_u (I := I) (o := cel n a w y ok md T s q) (v := v)
          have hbs : (if md = true then b.1 else b.2) ≤ 627264 := by omega
          have hyw : y q (pc s) * wtS n w md s ≤ 627264 := by omega
          cases hC : cel n a w y ok md T s q with
          | none =>
            rw [hC] at ec s4 j1 j2 fu
            rw [ec] at ih
            replace ih : P_run (d + 1) 39 (p_bk 39 3) 0 0 [.ref 48, .int (nI s), .int (nI (bN md)), .int (nI (pc s)), .int (nI (wtS n w md s)), .int (nI (y q (pc s) * wtS n w md s + (if md = true then b.1 else b.2))), .int (nI (q + 1))] [] (p_mk Ls (p_u I 48 4 (nI q)) L R X) _ := ih
            show P_run (d + 1) 39 (p_bk 39 3) 0 0 [.ref 48, .int (nI s), .int (nI (bN md)), .int (nI (pc s)), .int (nI (wtS n w md s)), .int (mI 1), .int (nI q)] [] (p_mk Ls I L R X) _
            replace s4 : P_m d 40 [.ref 48, .int (nI s), .int (nI q), .int (nI (bN md))] (p_mk Ls I L R X) (fun v h' => v = some (.int (nI (if md = true then b.1 else b.2))) ∧ h' = p_mk Ls I L R X) := s4
            replace j1 : I 71 2 = nI m := j1
            replace j2 : I 63 (q * 9 + pc s) = nI (y q (pc s)) := j2
            clear cb cd hC ec
            generalize (if md = true then b.1 else b.2) = B at *
            generalize pc s = P at *
            generalize y q P = Y at *
            generalize wtS n w md s = W at *
            rw [P_run_eq, bk_39_3, pb_39_3]; simp -implicitDefEqProofs (disch := first | omega | decide) only [P_m, ↓P_run_eq _ 39 _ (p_bk 39 4), bk_39_4, pb_39_4, ↓P_run_eq _ 39 _ (p_bk 39 5), bk_39_5, pb_39_5, ↓P_run_eq _ 39 _ (p_bk 39 6), bk_39_6, pb_39_6, ↓P_run_eq _ 39 _ (p_bk 39 7), bk_39_7, pb_39_7, pw_iload_6, pw_aload_n0, pw_aloadN_n0, pw_getR, pw_getI, pw_cge, pw_bipush, bl_9, pw_imul, pw_iload_n3, pw_iadd, pw_iald, pw_istore, ps_7, pe_7, po_i7, po_r7, po_n7, po_u7, pw_iload_7, pw_iconst, il_m1, pw_cne, pw_goto, pw_iload_n1, pw_iload_n2, pw_iv4, pw_nop, ps_8, pe_8, po_i8, po_r8, po_n8, po_u8, pw_iload_8, pw_ceq, pw_iload_5, pw_iload_4, ps_5, pe_5, po_i5, po_r5, po_n5, po_u5, pw_putI, pw_iinc_6, il_1, po_i6, po_r6, po_n6, po_u6, kd_48, rf_48_0, rf_48_6, rf_48_7, rf_48_8, rf_48_9, rf_48_10, rf_48_12, rf_48_13, rf_48_14, rf_48_15, rf_48_1, rf_48_2, kd_63, kd_71, rf_71_1, rf_71_3, rf_71_4, rf_71_5, rf_71_6, rf_71_11, rf_71_12, rf_71_14, n_0, n_1, n_9, nn_lt, nn_nlt, nn_le, nn_nle, nn_ne, nn_sub, nn_mul, nI_add, nn_neg, nm_eq, mn_eq, mm_eq, mn_lt, nm_lt, mn_le, nm_le, nn_sub0, nn_of, implies_true, nn_c, nn_in, nn_div, nat_rem, Nat.reduceMul, Nat.reduceSub, Nat.reduceDiv, Nat.reduceMod, pf_at, pf_ne, mk_s, mk_1, Classical.not_not, b2i_T, b2i_F, false_imp_iff, true_imp_iff, false_and, and_false, p_sw, Int.reduceAdd, Int.zero_add, Option.some.injEq, Value.int.injEq, Value.long.injEq, Value.ref.injEq, exists_eq_left', mk_I, mk_L, mk_wI, mk_wL, rf_s, rf_n, true_and, and_true, and_self, or_true, true_or, or_false, false_or, not_true_eq_false, not_false_eq_true, Option.toList_some, Option.toList_none, List.cons_append, List.nil_append, List.map_nil, List.map_cons, List.sum_nil, List.sum_cons, cat_i, cat_l, cat_r, cat_n, Nat.reduceLeDiff, Nat.reduceAdd, Nat.reduceEqDiff, Nat.zero_le, p_ent, p_u_ne, p_u_at, reduceIte, if_true, if_false, hR, va_rs, j1, j2, P_ce s4]
            exact P_ls ih (lsLe_ap _ [_, _] (by simp only [List.mem_cons, List.not_mem_nil, or_false]; rintro _ (rfl | rfl) <;> rfl))
          | some x =>
            obtain ⟨x1, x2⟩ := x
            obtain ⟨c1, c2⟩ := cb _ hC
            dsimp only at c1 c2
            rw [hC] at ec s4 j1 j2 fu
            rw [ec] at ih
            show P_run (d + 1) 39 (p_bk 39 3) 0 0 [.ref 48, .int (nI s), .int (nI (bN md)), .int (nI (pc s)), .int (nI (wtS n w md s)), .int (nI x1), .int (nI q)] [] (p_mk Ls (fsI I (some (x1, x2))) L R X) _
            dsimp only at ih
            have c1 : x1 ≤ 627264 := by omega
            clear cb cd hC ec
            generalize hB : (if md = true then b.1 else b.2) = B at *
            generalize pc s = P at *
            generalize y q P = Y at *
            generalize wtS n w md s = W at *
            by_cases lt : Y * W + B < x1
            · rw [if_pos lt] at ih
              replace ih : P_run (d + 1) 39 (p_bk 39 3) 0 0 [.ref 48, .int (nI s), .int (nI (bN md)), .int (nI P), .int (nI W), .int (nI (Y * W + B)), .int (nI (q + 1))] [] (p_mk Ls (p_u I 48 4 (nI q)) L R X) _ := ih
              generalize fsI I (some (x1, x2)) = J at *
              rw [P_run_eq, bk_39_3, pb_39_3]; simp -implicitDefEqProofs (disch := first | omega | decide) only [P_m, ↓P_run_eq _ 39 _ (p_bk 39 4), bk_39_4, pb_39_4, ↓P_run_eq _ 39 _ (p_bk 39 5), bk_39_5, pb_39_5, ↓P_run_eq _ 39 _ (p_bk 39 6), bk_39_6, pb_39_6, ↓P_run_eq _ 39 _ (p_bk 39 7), bk_39_7, pb_39_7, pw_iload_6, pw_aload_n0, pw_aloadN_n0, pw_getR, pw_getI, pw_cge, pw_bipush, bl_9, pw_imul, pw_iload_n3, pw_iadd, pw_iald, pw_istore, ps_7, pe_7, po_i7, po_r7, po_n7, po_u7, pw_iload_7, pw_iconst, il_m1, pw_cne, pw_goto, pw_iload_n1, pw_iload_n2, pw_iv4, pw_nop, ps_8, pe_8, po_i8, po_r8, po_n8, po_u8, pw_iload_8, pw_ceq, pw_iload_5, pw_iload_4, ps_5, pe_5, po_i5, po_r5, po_n5, po_u5, pw_putI, pw_iinc_6, il_1, po_i6, po_r6, po_n6, po_u6, kd_48, rf_48_0, rf_48_6, rf_48_7, rf_48_8, rf_48_9, rf_48_10, rf_48_12, rf_48_13, rf_48_14, rf_48_15, rf_48_1, rf_48_2, kd_63, kd_71, rf_71_1, rf_71_3, rf_71_4, rf_71_5, rf_71_6, rf_71_11, rf_71_12, rf_71_14, n_0, n_1, n_9, nn_lt, nn_nlt, nn_le, nn_nle, nn_ne, nn_sub, nn_mul, nI_add, nn_neg, nm_eq, mn_eq, mm_eq, mn_lt, nm_lt, mn_le, nm_le, nn_sub0, nn_of, implies_true, nn_c, nn_in, nn_div, nat_rem, Nat.reduceMul, Nat.reduceSub, Nat.reduceDiv, Nat.reduceMod, pf_at, pf_ne, mk_s, mk_1, Classical.not_not, b2i_T, b2i_F, false_imp_iff, true_imp_iff, false_and, and_false, p_sw, Int.reduceAdd, Int.zero_add, Option.some.injEq, Value.int.injEq, Value.long.injEq, Value.ref.injEq, exists_eq_left', mk_I, mk_L, mk_wI, mk_wL, rf_s, rf_n, true_and, and_true, and_self, or_true, true_or, or_false, false_or, not_true_eq_false, not_false_eq_true, Option.toList_some, Option.toList_none, List.cons_append, List.nil_append, List.map_nil, List.map_cons, List.sum_nil, List.sum_cons, cat_i, cat_l, cat_r, cat_n, Nat.reduceLeDiff, Nat.reduceAdd, Nat.reduceEqDiff, Nat.zero_le, p_ent, p_u_ne, p_u_at, reduceIte, if_true, if_false, hR, va_rs, j1, j2, P_ce s4, fu]
              exact P_ls ih (lsLe_ap _ [_, _] (by simp only [List.mem_cons, List.not_mem_nil, or_false]; rintro _ (rfl | rfl) <;> rfl))
            · rw [if_neg lt] at ih
              replace ih : P_run (d + 1) 39 (p_bk 39 3) 0 0 [.ref 48, .int (nI s), .int (nI (bN md)), .int (nI P), .int (nI W), .int (nI x1), .int (nI (q + 1))] [] (p_mk Ls (fsI I (some (x1, x2))) L R X) _ := ih
              generalize fsI I (some (x1, x2)) = J at *
              rw [P_run_eq, bk_39_3, pb_39_3]; simp -implicitDefEqProofs (disch := first | omega | decide) only [P_m, ↓P_run_eq _ 39 _ (p_bk 39 4), bk_39_4, pb_39_4, ↓P_run_eq _ 39 _ (p_bk 39 5), bk_39_5, pb_39_5, ↓P_run_eq _ 39 _ (p_bk 39 6), bk_39_6, pb_39_6, ↓P_run_eq _ 39 _ (p_bk 39 7), bk_39_7, pb_39_7, pw_iload_6, pw_aload_n0, pw_aloadN_n0, pw_getR, pw_getI, pw_cge, pw_bipush, bl_9, pw_imul, pw_iload_n3, pw_iadd, pw_iald, pw_istore, ps_7, pe_7, po_i7, po_r7, po_n7, po_u7, pw_iload_7, pw_iconst, il_m1, pw_cne, pw_goto, pw_iload_n1, pw_iload_n2, pw_iv4, pw_nop, ps_8, pe_8, po_i8, po_r8, po_n8, po_u8, pw_iload_8, pw_ceq, pw_iload_5, pw_iload_4, ps_5, pe_5, po_i5, po_r5, po_n5, po_u5, pw_putI, pw_iinc_6, il_1, po_i6, po_r6, po_n6, po_u6, kd_48, rf_48_0, rf_48_6, rf_48_7, rf_48_8, rf_48_9, rf_48_10, rf_48_12, rf_48_13, rf_48_14, rf_48_15, rf_48_1, rf_48_2, kd_63, kd_71, rf_71_1, rf_71_3, rf_71_4, rf_71_5, rf_71_6, rf_71_11, rf_71_12, rf_71_14, n_0, n_1, n_9, nn_lt, nn_nlt, nn_le, nn_nle, nn_ne, nn_sub, nn_mul, nI_add, nn_neg, nm_eq, mn_eq, mm_eq, mn_lt, nm_lt, mn_le, nm_le, nn_sub0, nn_of, implies_true, nn_c, nn_in, nn_div, nat_rem, Nat.reduceMul, Nat.reduceSub, Nat.reduceDiv, Nat.reduceMod, pf_at, pf_ne, mk_s, mk_1, Classical.not_not, b2i_T, b2i_F, false_imp_iff, true_imp_iff, false_and, and_false, p_sw, Int.reduceAdd, Int.zero_add, Option.some.injEq, Value.int.injEq, Value.long.injEq, Value.ref.injEq, exists_eq_left', mk_I, mk_L, mk_wI, mk_wL, rf_s, rf_n, true_and, and_true, and_self, or_true, true_or, or_false, false_or, not_true_eq_false, not_false_eq_true, Option.toList_some, Option.toList_none, List.cons_append, List.nil_append, List.map_nil, List.map_cons, List.sum_nil, List.sum_cons, cat_i, cat_l, cat_r, cat_n, Nat.reduceLeDiff, Nat.reduceAdd, Nat.reduceEqDiff, Nat.zero_le, p_ent, p_u_ne, p_u_at, reduceIte, if_true, if_false, hR, va_rs, j1, j2, P_ce s4]
              exact P_ls ih (lsLe_ap _ [_, _] (by simp only [List.mem_cons, List.not_mem_nil, or_false]; rintro _ (rfl | rfl) <;> rfl))
      · have o1 : yo y ok q (pc s) = none := if_neg o
        rw [o1] at j2
        replace j2 : fsI I (cel n a w y ok md T s q) 63 (q * 9 + pc s) = mI 1 := j2
        have cd : cnd n a w y ok md T s q = none := if_neg o
        rw [cd] at ec
        rw [ec] at ih
        dsimp only at ih
        generalize cel n a w y ok md T s q = C at *
        generalize fsI I C = J at *
        generalize pc s = P at *
        rw [P_run_eq, bk_39_3, pb_39_3]; simp -implicitDefEqProofs (disch := first | omega | decide) only [P_m, ↓P_run_eq _ 39 _ (p_bk 39 4), bk_39_4, pb_39_4, ↓P_run_eq _ 39 _ (p_bk 39 5), bk_39_5, pb_39_5, ↓P_run_eq _ 39 _ (p_bk 39 7), bk_39_7, pb_39_7, pw_iload_6, pw_aload_n0, pw_aloadN_n0, pw_getR, pw_getI, pw_cge, pw_bipush, bl_9, pw_imul, pw_iload_n3, pw_iadd, pw_iald, pw_istore, ps_7, pe_7, po_i7, po_r7, po_n7, po_u7, pw_iload_7, pw_iconst, il_m1, pw_cne, pw_goto, pw_iload_n1, pw_iload_n2, pw_iv4, pw_nop, ps_8, pe_8, po_i8, po_r8, po_n8, po_u8, pw_iload_8, pw_ceq, pw_iload_5, pw_iload_4, pw_iinc_6, il_1, po_i6, po_r6, po_n6, po_u6, kd_48, rf_48_0, rf_48_6, rf_48_7, rf_48_8, rf_48_9, rf_48_10, rf_48_12, rf_48_13, rf_48_14, rf_48_15, rf_48_1, rf_48_2, kd_63, kd_71, rf_71_1, rf_71_3, rf_71_4, rf_71_5, rf_71_6, rf_71_11, rf_71_12, rf_71_14, n_0, n_1, n_9, nn_lt, nn_nlt, nn_le, nn_nle, nn_ne, nn_sub, nn_mul, nI_add, nn_neg, nm_eq, mn_eq, mm_eq, mn_lt, nm_lt, mn_le, nm_le, nn_sub0, nn_of, implies_true, nn_c, nn_in, nn_div, nat_rem, Nat.reduceMul, Nat.reduceSub, Nat.reduceDiv, Nat.reduceMod, pf_at, pf_ne, mk_s, mk_1, Classical.not_not, b2i_T, b2i_F, false_imp_iff, true_imp_iff, false_and, and_false, p_sw, Int.reduceAdd, Int.zero_add, Option.some.injEq, Value.int.injEq, Value.long.injEq, Value.ref.injEq, exists_eq_left', mk_I, mk_L, mk_wI, mk_wL, rf_s, rf_n, true_and, and_true, and_self, or_true, true_or, or_false, false_or, not_true_eq_false, not_false_eq_true, Option.toList_some, Option.toList_none, List.cons_append, List.nil_append, List.map_nil, List.map_cons, List.sum_nil, List.sum_cons, cat_i, cat_l, cat_r, cat_n, Nat.reduceLeDiff, Nat.reduceAdd, Nat.reduceEqDiff, Nat.zero_le, p_ent, p_u_ne, p_u_at, reduceIte, if_true, if_false, hR, va_rs, j1, j2]
        exact P_ls ih (lsLe_ap _ [_, _] (by simp only [List.mem_cons, List.not_mem_nil, or_false]; rintro _ (rfl | rfl) <;> rfl))
  have c1 := sp_266n (d := d) (h := p_mk Ls I L R X) hs
  have start := loop 0 (by omega)
  replace start : P_run (d + 1) 39 (p_bk 39 3) 0 0 [.ref 48, .int (nI s), .int (nI (bN md)), .int (nI (pc s)), .int (nI (wtS n w md s)), .int (mI 1), .int (nI 0)] [] (p_mk Ls I L R X) _ := start
  cases md with
  | false =>
    simp -implicitDefEqProofs (disch := first | omega | decide) only [P_m, ↓P_run_eq _ 39 _ (p_bk 39 0), bk_39_0, pb_39_0, ↓P_run_eq _ 39 _ (p_bk 39 1), bk_39_1, pb_39_1, ↓P_run_eq _ 39 _ (p_bk 39 2), bk_39_2, pb_39_2, pw_iload_n1, pw_is1, pw_istore_n3, ps_3, pe_3, po_i3, po_r3, po_n3, po_u3, pw_iload_n2, pw_zeq, pw_aload_n0, pw_aloadN_n0, pw_getR, pw_iv2, pw_goto, pw_iconst, il_1, pw_nop, pw_istore, ps_4, pe_4, po_i4, po_r4, po_n4, po_u4, il_m1, ps_5, pe_5, po_i5, po_r5, po_n5, po_u5, il_0, ps_6, pe_6, po_i6, po_r6, po_n6, po_u6, kd_48, rf_48_0, rf_48_6, rf_48_7, rf_48_8, rf_48_9, rf_48_10, rf_48_12, rf_48_13, rf_48_14, rf_48_15, rf_48_1, rf_48_2, n_0, n_1, nn_lt, nn_nlt, nn_le, nn_nle, nn_ne, nn_sub, nn_mul, nI_add, nn_neg, nm_eq, mn_eq, mm_eq, mn_lt, nm_lt, mn_le, nm_le, nn_sub0, nn_of, implies_true, nn_c, nn_in, nn_div, nat_rem, Nat.reduceMul, Nat.reduceSub, Nat.reduceDiv, Nat.reduceMod, pf_at, pf_ne, mk_s, mk_1, Classical.not_not, b2i_T, b2i_F, false_imp_iff, true_imp_iff, false_and, and_false, p_sw, Int.reduceAdd, Int.zero_add, Option.some.injEq, Value.int.injEq, Value.long.injEq, Value.ref.injEq, exists_eq_left', mk_I, mk_L, mk_wI, mk_wL, rf_s, rf_n, true_and, and_true, and_self, or_true, true_or, or_false, false_or, not_true_eq_false, not_false_eq_true, Option.toList_some, Option.toList_none, List.cons_append, List.nil_append, List.map_nil, List.map_cons, List.sum_nil, List.sum_cons, cat_i, cat_l, cat_r, cat_n, Nat.reduceLeDiff, Nat.reduceAdd, Nat.reduceEqDiff, Nat.zero_le, p_ent, p_u_ne, p_u_at, reduceIte, if_true, if_false, bN, P_ce c1]
    exact start
  | true =>
    have c2 := sp_16 (d := d) (Ls := Ls) (I := I) (L := L) (R := R) (X := X) hs hn hw h71 h72
    simp -implicitDefEqProofs (disch := first | omega | decide) only [P_m, ↓P_run_eq _ 39 _ (p_bk 39 0), bk_39_0, pb_39_0, ↓P_run_eq _ 39 _ (p_bk 39 1), bk_39_1, pb_39_1, ↓P_run_eq _ 39 _ (p_bk 39 2), bk_39_2, pb_39_2, pw_iload_n1, pw_is1, pw_istore_n3, ps_3, pe_3, po_i3, po_r3, po_n3, po_u3, pw_iload_n2, pw_zeq, pw_aload_n0, pw_aloadN_n0, pw_getR, pw_iv2, pw_goto, pw_iconst, il_1, pw_nop, pw_istore, ps_4, pe_4, po_i4, po_r4, po_n4, po_u4, il_m1, ps_5, pe_5, po_i5, po_r5, po_n5, po_u5, il_0, ps_6, pe_6, po_i6, po_r6, po_n6, po_u6, kd_48, rf_48_0, rf_48_6, rf_48_7, rf_48_8, rf_48_9, rf_48_10, rf_48_12, rf_48_13, rf_48_14, rf_48_15, rf_48_1, rf_48_2, kd_71, rf_71_1, rf_71_3, rf_71_4, rf_71_5, rf_71_6, rf_71_11, rf_71_12, rf_71_14, n_0, n_1, nn_lt, nn_nlt, nn_le, nn_nle, nn_ne, nn_sub, nn_mul, nI_add, nn_neg, nm_eq, mn_eq, mm_eq, mn_lt, nm_lt, mn_le, nm_le, nn_sub0, nn_of, implies_true, nn_c, nn_in, nn_div, nat_rem, Nat.reduceMul, Nat.reduceSub, Nat.reduceDiv, Nat.reduceMod, pf_at, pf_ne, mk_s, mk_1, Classical.not_not, b2i_T, b2i_F, false_imp_iff, true_imp_iff, false_and, and_false, p_sw, Int.reduceAdd, Int.zero_add, Option.some.injEq, Value.int.injEq, Value.long.injEq, Value.ref.injEq, exists_eq_left', mk_I, mk_L, mk_wI, mk_wL, rf_s, rf_n, true_and, and_true, and_self, or_true, true_or, or_false, false_or, not_true_eq_false, not_false_eq_true, Option.toList_some, Option.toList_none, List.cons_append, List.nil_append, List.map_nil, List.map_cons, List.sum_nil, List.sum_cons, cat_i, cat_l, cat_r, cat_n, Nat.reduceLeDiff, Nat.reduceAdd, Nat.reduceEqDiff, Nat.zero_le, p_ent, p_u_ne, p_u_at, reduceIte, if_true, if_false, hR, va_rs, bN, P_ce c1, P_ce c2]
    exact start
end PD
