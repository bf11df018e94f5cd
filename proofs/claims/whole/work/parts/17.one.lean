/-! ONE PLAIN INSTRUCTION of the pure machine is the machine's own -/
section ZO
variable {p : Program} {l : Launch} {e : Env} {R : Room} {s : State} {m : MethodId} {args : Array Value} {below : List Frame} {meth : Method} {c : Code} {QW : State → Prop} {D : va_G} {ca : Nat → ClassId} {B : Nat} {ro : Nat → Nat} {y MC MS : Nat}
theorem p_ne32 {a b : Nat} (h : 32 ≤ a) (hb : b < 32) : b ≠ a := by omega
theorem W_size {H : Heap} {locs : List Loc} {cells slots : Nat} {g : JFrame} (k : H.size ≤ s.heap.size + cells → W p l e R s m args below meth c H locs cells slots QW g) : W p l e R s m args below meth c H locs cells slots QW g := fun T hT X => k (by rw [← hT]; exact X.heapSize) T hT X
set_option maxHeartbeats 4000000 in
theorem z_one (X : p_Cx y p s m args meth c D ca B ro) (hR : 1 ≤ R.frames ∧ 100 ≤ R.locals ∧ MC ≤ R.cells ∧ MS ≤ R.slots) {i : Instr} {len : Nat} {ex : List Nat} {pc kc ks : Nat} {ls st : List Value} {h : pHp} (hd : decode (p_mi y).2.1 pc = .ok (i, len)) (hok : p_okx y pc i len ex = true)
    {k : List Value → List Value → pHp → Prop} (hk : ∀ ls st h, k ls st h → zW p l e R s m args below meth c QW D ca B ro y MC MS (pc + len) kc ks ls st h) (HH : p_one p_cn p_clc i ex ls st h k) : zW p l e R s m args below meth c QW D ca B ro y MC MS pc kc ks ls st h := by
  intro H locs lsA cells slots a1 a2 a3 a4 a5 hP hS hl
  have hx := X.1
  have hb := X.2.1
  have hown := X.2.2.2.1
  have hts := X.2.2.2.2.1
  cases i

  case iconst n =>
    obtain rfl : len = 1 := by simpa [p_okx] using hok
    exact lv_iconst hx hb hd rfl (hk _ _ _ HH H locs lsA cells slots a1 a2 a3 a4 a5 hP hS hl)
  case bipush n =>
    obtain rfl : len = 2 := by simpa [p_okx] using hok
    exact lv_bipush hx hb hd rfl (hk _ _ _ HH H locs lsA cells slots a1 a2 a3 a4 a5 hP hS hl)
  case sipush n =>
    obtain rfl : len = 3 := by simpa [p_okx] using hok
    exact lv_sipush hx hb hd rfl (hk _ _ _ HH H locs lsA cells slots a1 a2 a3 a4 a5 hP hS hl)
  case lconst n =>
    obtain rfl : len = 1 := by simpa [p_okx] using hok
    exact lv_lconst hx hb hd rfl (hk _ _ _ HH H locs lsA cells slots a1 a2 a3 a4 a5 hP hS hl)
  case aconst_null =>
    obtain rfl : len = 1 := by simpa [p_okx] using hok
    exact lv_null hx hb hd  (hk _ _ _ HH H locs lsA cells slots a1 a2 a3 a4 a5 hP hS hl)
  case iadd =>
    obtain rfl : len = 1 := by simpa [p_okx] using hok
    unfold p_one at HH
    dsimp only at HH
    split at HH
    · exact lv_iadd hx hb hd  (hk _ _ _ HH H locs lsA cells slots a1 a2 a3 a4 a5 hP hS hl)
    · exact HH.elim
  case isub =>
    obtain rfl : len = 1 := by simpa [p_okx] using hok
    unfold p_one at HH
    dsimp only at HH
    split at HH
    · exact lv_isub hx hb hd  (hk _ _ _ HH H locs lsA cells slots a1 a2 a3 a4 a5 hP hS hl)
    · exact HH.elim
  case imul =>
    obtain rfl : len = 1 := by simpa [p_okx] using hok
    unfold p_one at HH
    dsimp only at HH
    split at HH
    · exact lv_imul hx hb hd  (hk _ _ _ HH H locs lsA cells slots a1 a2 a3 a4 a5 hP hS hl)
    · exact HH.elim
  case iand =>
    obtain rfl : len = 1 := by simpa [p_okx] using hok
    unfold p_one at HH
    dsimp only at HH
    split at HH
    · exact lv_iand hx hb hd  (hk _ _ _ HH H locs lsA cells slots a1 a2 a3 a4 a5 hP hS hl)
    · exact HH.elim
  case ior =>
    obtain rfl : len = 1 := by simpa [p_okx] using hok
    unfold p_one at HH
    dsimp only at HH
    split at HH
    · exact lv_ior hx hb hd  (hk _ _ _ HH H locs lsA cells slots a1 a2 a3 a4 a5 hP hS hl)
    · exact HH.elim
  case ixor =>
    obtain rfl : len = 1 := by simpa [p_okx] using hok
    unfold p_one at HH
    dsimp only at HH
    split at HH
    · exact lv_ixor hx hb hd  (hk _ _ _ HH H locs lsA cells slots a1 a2 a3 a4 a5 hP hS hl)
    · exact HH.elim
  case ishl =>
    obtain rfl : len = 1 := by simpa [p_okx] using hok
    unfold p_one at HH
    dsimp only at HH
    split at HH
    · exact lv_ishl hx hb hd  (hk _ _ _ HH H locs lsA cells slots a1 a2 a3 a4 a5 hP hS hl)
    · exact HH.elim
  case ishr =>
    obtain rfl : len = 1 := by simpa [p_okx] using hok
    unfold p_one at HH
    dsimp only at HH
    split at HH
    · exact lv_ishr hx hb hd  (hk _ _ _ HH H locs lsA cells slots a1 a2 a3 a4 a5 hP hS hl)
    · exact HH.elim
  case ladd =>
    obtain rfl : len = 1 := by simpa [p_okx] using hok
    unfold p_one at HH
    dsimp only at HH
    split at HH
    · exact lv_ladd hx hb hd  (hk _ _ _ HH H locs lsA cells slots a1 a2 a3 a4 a5 hP hS hl)
    · exact HH.elim
  case lsub =>
    obtain rfl : len = 1 := by simpa [p_okx] using hok
    unfold p_one at HH
    dsimp only at HH
    split at HH
    · exact lv_lsub hx hb hd  (hk _ _ _ HH H locs lsA cells slots a1 a2 a3 a4 a5 hP hS hl)
    · exact HH.elim
  case lmul =>
    obtain rfl : len = 1 := by simpa [p_okx] using hok
    unfold p_one at HH
    dsimp only at HH
    split at HH
    · exact lv_lmul hx hb hd  (hk _ _ _ HH H locs lsA cells slots a1 a2 a3 a4 a5 hP hS hl)
    · exact HH.elim
  case land =>
    obtain rfl : len = 1 := by simpa [p_okx] using hok
    unfold p_one at HH
    dsimp only at HH
    split at HH
    · exact lv_land hx hb hd  (hk _ _ _ HH H locs lsA cells slots a1 a2 a3 a4 a5 hP hS hl)
    · exact HH.elim
  case lor =>
    obtain rfl : len = 1 := by simpa [p_okx] using hok
    unfold p_one at HH
    dsimp only at HH
    split at HH
    · exact lv_lor hx hb hd  (hk _ _ _ HH H locs lsA cells slots a1 a2 a3 a4 a5 hP hS hl)
    · exact HH.elim
  case iushr =>
    obtain rfl : len = 1 := by simpa [p_okx] using hok
    unfold p_one at HH
    dsimp only at HH
    split at HH
    · exact lv_iushr hx hb hd rfl (hk _ _ _ HH H locs lsA cells slots a1 a2 a3 a4 a5 hP hS hl)
    · exact HH.elim
  case idiv =>
    obtain rfl : len = 1 := by simpa [p_okx] using hok
    unfold p_one at HH
    dsimp only at HH
    split at HH
    · exact lv_idiv hx hb hd HH.1 (hk _ _ _ HH.2 H locs lsA cells slots a1 a2 a3 a4 a5 hP hS hl)
    · exact HH.elim
  case irem =>
    obtain rfl : len = 1 := by simpa [p_okx] using hok
    unfold p_one at HH
    dsimp only at HH
    split at HH
    · exact lv_irem hx hb hd HH.1 (hk _ _ _ HH.2 H locs lsA cells slots a1 a2 a3 a4 a5 hP hS hl)
    · exact HH.elim
  case ldiv =>
    obtain rfl : len = 1 := by simpa [p_okx] using hok
    unfold p_one at HH
    dsimp only at HH
    split at HH
    · exact lv_ldiv hx hb hd HH.1 (hk _ _ _ HH.2 H locs lsA cells slots a1 a2 a3 a4 a5 hP hS hl)
    · exact HH.elim
  case lrem =>
    obtain rfl : len = 1 := by simpa [p_okx] using hok
    unfold p_one at HH
    dsimp only at HH
    split at HH
    · exact lv_lrem hx hb hd HH.1 (hk _ _ _ HH.2 H locs lsA cells slots a1 a2 a3 a4 a5 hP hS hl)
    · exact HH.elim
  case ineg =>
    obtain rfl : len = 1 := by simpa [p_okx] using hok
    unfold p_one at HH
    dsimp only at HH
    split at HH
    · exact lv_ineg hx hb hd  (hk _ _ _ HH H locs lsA cells slots a1 a2 a3 a4 a5 hP hS hl)
    · exact HH.elim
  case i2b =>
    obtain rfl : len = 1 := by simpa [p_okx] using hok
    unfold p_one at HH
    dsimp only at HH
    split at HH
    · exact lv_i2b hx hb hd rfl (hk _ _ _ HH H locs lsA cells slots a1 a2 a3 a4 a5 hP hS hl)
    · exact HH.elim
  case i2c =>
    obtain rfl : len = 1 := by simpa [p_okx] using hok
    unfold p_one at HH
    dsimp only at HH
    split at HH
    · exact lv_i2c hx hb hd rfl (hk _ _ _ HH H locs lsA cells slots a1 a2 a3 a4 a5 hP hS hl)
    · exact HH.elim
  case i2l =>
    obtain rfl : len = 1 := by simpa [p_okx] using hok
    unfold p_one at HH
    dsimp only at HH
    split at HH
    · exact lv_i2l hx hb hd rfl (hk _ _ _ HH H locs lsA cells slots a1 a2 a3 a4 a5 hP hS hl)
    · exact HH.elim
  case l2i =>
    obtain rfl : len = 1 := by simpa [p_okx] using hok
    unfold p_one at HH
    dsimp only at HH
    split at HH
    · exact lv_l2i hx hb hd rfl (hk _ _ _ HH H locs lsA cells slots a1 a2 a3 a4 a5 hP hS hl)
    · exact HH.elim
  case lshl =>
    obtain rfl : len = 1 := by simpa [p_okx] using hok
    unfold p_one at HH
    dsimp only at HH
    split at HH
    · exact lv_lshl hx hb hd rfl (hk _ _ _ HH H locs lsA cells slots a1 a2 a3 a4 a5 hP hS hl)
    · exact HH.elim
  case lcmp =>
    obtain rfl : len = 1 := by simpa [p_okx] using hok
    unfold p_one at HH
    dsimp only at HH
    split at HH
    · exact W.lcmp hx hb hd  (hk _ _ _ HH H locs lsA cells slots a1 a2 a3 a4 a5 hP hS hl)
    · exact HH.elim
  case dup =>
    obtain rfl : len = 1 := by simpa [p_okx] using hok
    unfold p_one at HH
    dsimp only at HH
    split at HH
    · exact lv_dup hx hb hd rfl (hk _ _ _ HH H locs lsA cells slots a1 a2 a3 a4 a5 hP hS hl)
    · exact lv_dup hx hb hd rfl (hk _ _ _ HH H locs lsA cells slots a1 a2 a3 a4 a5 hP hS hl)
    · exact HH.elim
  case dup2 =>
    obtain rfl : len = 1 := by simpa [p_okx] using hok
    unfold p_one at HH
    dsimp only at HH
    split at HH
    · exact lv_dup2_11 hx hb hd rfl rfl (hk _ _ _ HH H locs lsA cells slots a1 a2 a3 a4 a5 hP hS hl)
    · exact lv_dup2_11 hx hb hd rfl rfl (hk _ _ _ HH H locs lsA cells slots a1 a2 a3 a4 a5 hP hS hl)
    · exact HH.elim
  case pop =>
    obtain rfl : len = 1 := by simpa [p_okx] using hok
    unfold p_one at HH
    dsimp only at HH
    split at HH
    · exact lv_pop hx hb hd rfl (hk _ _ _ HH H locs lsA cells slots a1 a2 a3 a4 a5 hP hS hl)
    · exact lv_pop hx hb hd rfl (hk _ _ _ HH H locs lsA cells slots a1 a2 a3 a4 a5 hP hS hl)
    · exact HH.elim
  case iload_n n =>
    obtain rfl : len = 1 := by simpa [p_okx] using hok
    unfold p_one at HH
    dsimp only at HH
    split at HH
    · rename_i hv; exact lv_iload_n hx hb hd rfl (z_loc hl hv (fun _ h => nomatch h)) (hk _ _ _ HH H locs lsA cells slots a1 a2 a3 a4 a5 hP hS hl)
    · exact HH.elim
  case lload_n n =>
    obtain rfl : len = 1 := by simpa [p_okx] using hok
    unfold p_one at HH
    dsimp only at HH
    split at HH
    · rename_i hv; exact lv_lload_n hx hb hd rfl (z_loc hl hv (fun _ h => nomatch h)) (hk _ _ _ HH H locs lsA cells slots a1 a2 a3 a4 a5 hP hS hl)
    · exact HH.elim
  case iload n =>
    obtain rfl : len = 2 := by simpa [p_okx] using hok
    unfold p_one at HH
    dsimp only at HH
    split at HH
    · rename_i hv; exact lv_iload hx hb hd (z_loc hl hv (fun _ h => nomatch h)) (hk _ _ _ HH H locs lsA cells slots a1 a2 a3 a4 a5 hP hS hl)
    · exact HH.elim
  case lload n =>
    obtain rfl : len = 2 := by simpa [p_okx] using hok
    unfold p_one at HH
    dsimp only at HH
    split at HH
    · rename_i hv; exact lv_lload hx hb hd (z_loc hl hv (fun _ h => nomatch h)) (hk _ _ _ HH H locs lsA cells slots a1 a2 a3 a4 a5 hP hS hl)
    · exact HH.elim
  case aload_n n =>
    obtain rfl : len = 1 := by simpa [p_okx] using hok
    unfold p_one at HH
    dsimp only at HH
    split at HH
    · rename_i hv; exact lv_aload_n hx hb hd rfl (z_loc hl hv (fun _ h => nomatch h)) (hk _ _ _ HH H locs lsA cells slots a1 a2 a3 a4 a5 hP hS hl)
    · rename_i hv; exact lv_aload_nN hx hb hd rfl (z_loc hl hv (fun _ h => nomatch h)) (hk _ _ _ HH H locs lsA cells slots a1 a2 a3 a4 a5 hP hS hl)
    · exact HH.elim
  case aload n =>
    obtain rfl : len = 2 := by simpa [p_okx] using hok
    unfold p_one at HH
    dsimp only at HH
    split at HH
    · rename_i hv; exact lv_aload hx hb hd (z_loc hl hv (fun _ h => nomatch h)) (hk _ _ _ HH H locs lsA cells slots a1 a2 a3 a4 a5 hP hS hl)
    · rename_i hv; exact lv_aloadN hx hb hd (z_loc hl hv (fun _ h => nomatch h)) (hk _ _ _ HH H locs lsA cells slots a1 a2 a3 a4 a5 hP hS hl)
    · exact HH.elim
  case istore_n n =>
    obtain ⟨hlen, hn⟩ : len = 1 ∧ n.val < (p_mi y).2.2.1 := by simpa [p_okx] using hok
    subst hlen
    unfold p_one at HH
    dsimp only at HH
    split at HH
    · exact lv_istore_n hx hb hd rfl hl hn rfl (fun ls2 h2 => hk _ _ _ HH.2 H locs ls2 cells slots a1 a2 a3 a4 a5 hP hS (p_as_st1 (v := .int _) HH.1 h2))
    · exact HH.elim
  case istore n =>
    obtain ⟨hlen, hn⟩ : len = 2 ∧ n < (p_mi y).2.2.1 := by simpa [p_okx] using hok
    subst hlen
    unfold p_one at HH
    dsimp only at HH
    split at HH
    · exact lv_istore hx hb hd hl hn rfl (fun ls2 h2 => hk _ _ _ HH.2 H locs ls2 cells slots a1 a2 a3 a4 a5 hP hS (p_as_st1 (v := .int _) HH.1 h2))
    · exact HH.elim
  case astore_n n =>
    obtain ⟨hlen, hn⟩ : len = 1 ∧ n.val < (p_mi y).2.2.1 := by simpa [p_okx] using hok
    subst hlen
    unfold p_one at HH
    dsimp only at HH
    split at HH
    · exact lv_astore_n hx hb hd rfl hl hn rfl (fun ls2 h2 => hk _ _ _ HH.2 H locs ls2 cells slots a1 a2 a3 a4 a5 hP hS (p_as_st1 (v := .ref _) HH.1 h2))
    · exact lv_astore_nN hx hb hd rfl hl hn rfl (fun ls2 h2 => hk _ _ _ HH.2 H locs ls2 cells slots a1 a2 a3 a4 a5 hP hS (p_as_st1 (v := .null) HH.1 h2))
    · exact HH.elim
  case astore n =>
    obtain ⟨hlen, hn⟩ : len = 2 ∧ n < (p_mi y).2.2.1 := by simpa [p_okx] using hok
    subst hlen
    unfold p_one at HH
    dsimp only at HH
    split at HH
    · exact lv_astore hx hb hd hl hn rfl (fun ls2 h2 => hk _ _ _ HH.2 H locs ls2 cells slots a1 a2 a3 a4 a5 hP hS (p_as_st1 (v := .ref _) HH.1 h2))
    · exact lv_astoreN hx hb hd hl hn rfl (fun ls2 h2 => hk _ _ _ HH.2 H locs ls2 cells slots a1 a2 a3 a4 a5 hP hS (p_as_st1 (v := .null) HH.1 h2))
    · exact HH.elim
  case lstore_n n =>
    obtain ⟨hlen, hn⟩ : len = 1 ∧ n.val + 1 < (p_mi y).2.2.1 := by simpa [p_okx] using hok
    subst hlen
    unfold p_one at HH
    dsimp only at HH
    split at HH
    · exact lv_lstore_n hx hb hd rfl hl hn rfl (fun ls2 h2 => hk _ _ _ HH.2 H locs ls2 cells slots a1 a2 a3 a4 a5 hP hS (p_as_st2 (v := .long _) HH.1 h2))
    · exact HH.elim
  case lstore n =>
    obtain ⟨hlen, hn⟩ : len = 2 ∧ n + 1 < (p_mi y).2.2.1 := by simpa [p_okx] using hok
    subst hlen
    unfold p_one at HH
    dsimp only at HH
    split at HH
    · exact lv_lstore hx hb hd hl hn rfl (fun ls2 h2 => hk _ _ _ HH.2 H locs ls2 cells slots a1 a2 a3 a4 a5 hP hS (p_as_st2 (v := .long _) HH.1 h2))
    · exact HH.elim
  case iinc n dd =>
    obtain ⟨hlen, hn⟩ : len = 3 ∧ n < (p_mi y).2.2.1 := by simpa [p_okx] using hok
    subst hlen
    unfold p_one at HH
    dsimp only at HH
    split at HH
    · rename_i hv
      have hm := p_as_at (B := B) (ro := ro) ls 0 n _ hv (fun _ h => nomatch h)
      rw [Nat.zero_add] at hm
      obtain ⟨q, hq⟩ := List.getElem?_of_mem hm
      exact lv_iinc hx hb hd hl (k := q) hq rfl hn rfl (fun ls2 h2 => hk _ _ _ HH.2 H locs ls2 cells slots a1 a2 a3 a4 a5 hP hS (p_as_st1 (v := .int _) HH.1 h2))
    · exact HH.elim
  case ldc j =>
    unfold p_one at HH
    dsimp only at HH
    split at HH
    · rename_i q
      simp only [p_okx, Bool.and_eq_true, decide_eq_true_eq] at hok
      obtain ⟨rfl, hq⟩ := hok
      exact lv_ldc hx hb hown (hts _ (p_cc_ok _ _ hq)) hd (hk _ _ _ HH H locs lsA cells slots a1 a2 a3 a4 a5 hP hS hl)
    · rename_i q a
      simp only [p_okx, Bool.and_eq_true, decide_eq_true_eq] at hok
      obtain ⟨rfl, hq⟩ := hok
      split at hq
      · rename_i z hz
        simp only [Bool.and_eq_true, decide_eq_true_eq] at hq
        obtain ⟨⟨e1, e2⟩, e3⟩ := hq
        have hR1 := X.2.2.2.2.2.2.1.1 _ (List.mem_of_getElem? hz)
        rw [e1, e2, e3] at hR1
        have ha : a < 32 := by
          have hm : ∀ z ∈ p_st, z.2.2.2 < 32 := by decide +kernel
          have := hm _ (List.mem_of_getElem? hz)
          omega
        have := hk _ _ _ HH H locs lsA cells slots a1 a2 a3 a4 a5 hP hS hl
        rw [List.map_cons, show p_pv B ro (.ref a) = .ref (ro a) from congrArg Value.ref (p_ph_lo ha)] at this
        exact va_ldcS hx hb hown hR1 hd this
      · cases hq
    · exact HH.elim
  case ldc_w j =>
    unfold p_one at HH
    dsimp only at HH
    split at HH
    · simp only [p_okx, Bool.and_eq_true, decide_eq_true_eq] at hok
      obtain ⟨rfl, hq⟩ := hok
      exact lv_ldcw hx hb hown (hts _ (p_cc_ok _ _ hq)) hd (hk _ _ _ HH H locs lsA cells slots a1 a2 a3 a4 a5 hP hS hl)
    · exact HH.elim
  case ldc2_w j =>
    unfold p_one at HH
    dsimp only at HH
    split at HH
    · simp only [p_okx, Bool.and_eq_true, decide_eq_true_eq] at hok
      obtain ⟨rfl, hq⟩ := hok
      exact lv_ldc2 hx hb hown (hts _ (p_cc2_ok _ _ hq)) hd (hk _ _ _ HH H locs lsA cells slots a1 a2 a3 a4 a5 hP hS hl)
    · exact HH.elim
  case getfield j =>
    unfold p_one at HH
    dsimp only at HH
    split at HH
    · rename_i c1 f a r
      simp only [p_okx, Bool.and_eq_true, decide_eq_true_eq] at hok
      obtain ⟨rfl, hq, ht⟩ := hok
      refine z_get X a5 hP hS HH.1 hq hd (fun _ h10 => ?_) (fun _ h10 h0 => ?_) (fun _ h10 h0 => ?_) (hk _ _ _ HH.2 H locs lsA cells slots a1 a2 a3 a4 a5 hP hS hl)
      · simp only [p_tyg, if_neg (show ¬ c1 = 10 by omega), if_pos, Bool.and_eq_true, Bool.or_eq_true, decide_eq_true_eq] at ht
        rcases ht.2 with e | e <;> rw [e] <;> rfl
      · subst h10; subst h0; simp [p_tyg] at ht
      · subst h10; subst h0; rfl
    · rename_i c1 f a r
      simp only [p_okx, Bool.and_eq_true, decide_eq_true_eq] at hok
      obtain ⟨rfl, hq, ht⟩ := hok
      have hc1 : ¬ c1 = 10 := fun h10 => by subst h10; simp [p_tyg] at ht
      refine z_get X a5 hP hS HH.1 hq hd (fun _ h10 => ?_) (fun _ h10 => absurd h10 hc1) (fun _ h10 => absurd h10 hc1) (hk _ _ _ HH.2.2 H locs lsA cells slots a1 a2 a3 a4 a5 hP hS hl)
      simp [p_tyg, hc1] at ht
      rw [ht.2]; rfl
    · rename_i c1 f a r
      simp only [p_okx, Bool.and_eq_true, decide_eq_true_eq] at hok
      obtain ⟨rfl, hq, ht⟩ := hok
      have kk := hk _ _ _ HH.2 H locs lsA cells slots a1 a2 a3 a4 a5 hP hS hl
      rw [List.map_cons, p_pv_rf] at kk
      refine z_get X a5 hP hS HH.1 hq hd (fun _ h10 => ?_) (fun _ h10 h0 => ?_) (fun _ h10 h0 => ?_) kk
      · simp [p_tyg, show ¬ c1 = 10 by omega] at ht
        cases hty : p_ty c1 f <;> rw [hty] at ht <;> first | rfl | (cases ht.2; done)
      · subst h0; rfl
      · subst h10; subst h0; simp [p_tyg] at ht
    · exact HH.elim
  case putfield j =>
    unfold p_one at HH
    dsimp only at HH
    split at HH
    · rename_i c1 f g x a r
      simp only [p_okx, Bool.and_eq_true, decide_eq_true_eq] at hok
      obtain ⟨rfl, ⟨hq, ht⟩, hg⟩ := hok
      simp [p_typ] at ht
      exact z_putI X hP hS HH.1 HH.2.1 hq hd hg (Or.inl ht.2) (fun H1 locs1 hP1 hS1 => hk _ _ _ HH.2.2 H1 locs1 lsA cells slots a1 a2 a3 a4 (p_RO_plane a5 (fun b hb9 => p_fn_ne (p_ne32 HH.2.1 hb9)) (fun _ _ => rfl) (fun _ _ => rfl)) hP1 hS1 hl)
    · rename_i c1 f g x a r
      simp only [p_okx, Bool.and_eq_true, decide_eq_true_eq] at hok
      obtain ⟨rfl, ⟨hq, ht⟩, hg⟩ := hok
      simp [p_typ] at ht
      exact z_putI X hP hS HH.1 HH.2.1 hq hd hg (Or.inr ⟨ht.2, HH.2.2.1⟩) (fun H1 locs1 hP1 hS1 => hk _ _ _ HH.2.2.2 H1 locs1 lsA cells slots a1 a2 a3 a4 (p_RO_plane a5 (fun b hb9 => p_fn_ne (p_ne32 HH.2.1 hb9)) (fun _ _ => rfl) (fun _ _ => rfl)) hP1 hS1 hl)
    · rename_i c1 f g x a r
      simp only [p_okx, Bool.and_eq_true, decide_eq_true_eq] at hok
      obtain ⟨rfl, ⟨hq, ht⟩, hg⟩ := hok
      simp [p_typ] at ht
      exact z_putL X hP hS HH.1 HH.2.1 hq hd hg ht.2 (fun H1 locs1 hP1 hS1 => hk _ _ _ HH.2.2 H1 locs1 lsA cells slots a1 a2 a3 a4 (p_RO_plane a5 (fun _ _ => rfl) (fun _ _ => rfl) (fun _ _ => rfl)) hP1 hS1 hl)
    · rename_i c1 f g b a r
      simp only [p_okx, Bool.and_eq_true, decide_eq_true_eq] at hok
      obtain ⟨rfl, ⟨hq, ht⟩, hg⟩ := hok
      simp [p_typ] at ht
      exact z_putR (x := some b) X hP hS HH.1 HH.2.1 hq hd hg ht.2 (fun H1 locs1 hP1 hS1 => hk _ _ _ HH.2.2 H1 locs1 lsA cells slots a1 a2 a3 a4 (p_RO_plane a5 (fun _ _ => rfl) (fun b hb9 => p_fn_ne (p_ne32 HH.2.1 hb9)) (fun _ _ => rfl)) hP1 hS1 hl)
    · rename_i c1 f g a r
      simp only [p_okx, Bool.and_eq_true, decide_eq_true_eq] at hok
      obtain ⟨rfl, ⟨hq, ht⟩, hg⟩ := hok
      simp [p_typ] at ht
      exact z_putR (x := none) X hP hS HH.1 HH.2.1 hq hd hg ht.2 (fun H1 locs1 hP1 hS1 => hk _ _ _ HH.2.2 H1 locs1 lsA cells slots a1 a2 a3 a4 (p_RO_plane a5 (fun _ _ => rfl) (fun b hb9 => p_fn_ne (p_ne32 HH.2.1 hb9)) (fun _ _ => rfl)) hP1 hS1 hl)
    · exact HH.elim
  case getstatic j =>
    unfold p_one at HH
    dsimp only at HH
    split at HH
    · rename_i q a f
      simp only [p_okx, Bool.and_eq_true, Bool.or_eq_true, decide_eq_true_eq] at hok
      obtain ⟨rfl, ⟨rfl, hq⟩, hf⟩ := hok
      have hf3 : f = 3 := by rcases hf with ⟨e, -⟩ | ⟨-, e⟩; exact e; cases e
      subst hf3
      have kk := hk _ _ _ HH H locs lsA cells slots a1 a2 a3 a4 a5 hP hS hl
      rcases hq with hq | hq
      · obtain ⟨r, hr, ⟨-, hw⟩ | ⟨e, -⟩⟩ := p_sl_ok _ (List.mem_of_getElem? hq)
        · exact va_gets hx hb (a5.2.2.2.2 3 r hr) hS hown (hts _ hw) (fun _ h => h) hd kk
        · cases e
      · obtain ⟨r, hr, ⟨e, -⟩ | ⟨-, hw⟩⟩ := p_sl_ok _ (List.mem_of_getElem? hq)
        · cases e
        · exact va_getsN hx hb (a5.2.2.2.2 3 r hr) hS hown (va_Nw.use rfl (X.2.2.2.2.2.2.1.2.2.1 _ _ _ _ _ hw)) (fun _ h => h) hd kk
    · rename_i q a f
      simp only [p_okx, Bool.and_eq_true, Bool.or_eq_true, decide_eq_true_eq] at hok
      obtain ⟨rfl, ⟨rfl, hq⟩, hf⟩ := hok
      have hf3 : f < 3 := by rcases hf with ⟨-, e⟩ | ⟨e, -⟩; cases e; exact e
      have kk := hk _ _ _ HH H locs lsA cells slots a1 a2 a3 a4 a5 hP hS hl
      rw [List.map_cons, p_pv_rf] at kk
      rcases hq with hq | hq
      · obtain ⟨r, hr, ⟨-, hw⟩ | ⟨e, -⟩⟩ := p_sl_ok _ (List.mem_of_getElem? hq)
        · have hZ := a5.2.2.2.2 f r hr
          rw [if_neg (by omega)] at hZ
          exact va_gets hx hb hZ hS hown (hts _ hw) (fun _ h => h) hd kk
        · cases e
      · obtain ⟨r, hr, ⟨e, -⟩ | ⟨-, hw⟩⟩ := p_sl_ok _ (List.mem_of_getElem? hq)
        · cases e
        · have hZ := a5.2.2.2.2 f r hr
          rw [if_neg (by omega)] at hZ
          exact va_getsN hx hb hZ hS hown (va_Nw.use rfl (X.2.2.2.2.2.2.1.2.2.1 _ _ _ _ _ hw)) (fun _ h => h) hd kk
    · exact HH.elim
  case arraylength =>
    obtain rfl : len = 1 := by simpa [p_okx] using hok
    unfold p_one at HH
    dsimp only at HH
    split at HH
    · exact z_alen X a5 hP hS HH.1 hd (hk _ _ _ HH.2 H locs lsA cells slots a1 a2 a3 a4 a5 hP hS hl)
    · exact HH.elim
  case iaload =>
    obtain rfl : len = 1 := by simpa [p_okx] using hok
    unfold p_one at HH
    dsimp only at HH
    split at HH
    · exact z_iald X a5 hP hS HH.1 HH.2.1 hd (hk _ _ _ HH.2.2 H locs lsA cells slots a1 a2 a3 a4 a5 hP hS hl)
    · exact HH.elim
  case baload =>
    obtain rfl : len = 1 := by simpa [p_okx] using hok
    unfold p_one at HH
    dsimp only at HH
    split at HH
    · exact z_bald X a5 hP hS HH.1 HH.2.1 hd (hk _ _ _ HH.2.2 H locs lsA cells slots a1 a2 a3 a4 a5 hP hS hl)
    · exact HH.elim
  case laload =>
    obtain rfl : len = 1 := by simpa [p_okx] using hok
    unfold p_one at HH
    dsimp only at HH
    split at HH
    · exact z_lald X hP HH.1 HH.2.1 HH.2.2.1 hd (hk _ _ _ HH.2.2.2 H locs lsA cells slots a1 a2 a3 a4 a5 hP hS hl)
    · exact HH.elim
  case aaload =>
    obtain rfl : len = 1 := by simpa [p_okx] using hok
    unfold p_one at HH
    dsimp only at HH
    split at HH
    · have kk := hk _ _ _ HH.2.2.2 H locs lsA cells slots a1 a2 a3 a4 a5 hP hS hl
      rw [List.map_cons, p_pv_rf] at kk
      exact z_aald X hP HH.1 HH.2.1 HH.2.2.1 hd kk
    · exact HH.elim
  case iastore =>
    obtain rfl : len = 1 := by simpa [p_okx] using hok
    unfold p_one at HH
    dsimp only at HH
    split at HH
    · exact z_iast X hP hS HH.1 HH.2.1 HH.2.2.1 hd (fun H1 locs1 hP1 hS1 => hk _ _ _ HH.2.2.2 H1 locs1 lsA cells slots a1 a2 a3 a4 (p_RO_plane a5 (fun b hb9 => p_fn_ne (p_ne32 HH.2.1 hb9)) (fun _ _ => rfl) (fun _ _ => rfl)) hP1 hS1 hl)
    · exact HH.elim
  case bastore =>
    obtain rfl : len = 1 := by simpa [p_okx] using hok
    unfold p_one at HH
    dsimp only at HH
    split at HH
    · exact z_bast X hP hS HH.1 HH.2.1 HH.2.2.1 hd (fun H1 locs1 hP1 hS1 => hk _ _ _ HH.2.2.2 H1 locs1 lsA cells slots a1 a2 a3 a4 (p_RO_plane a5 (fun b hb9 => p_fn_ne (p_ne32 HH.2.1 hb9)) (fun _ _ => rfl) (fun _ _ => rfl)) hP1 hS1 hl)
    · exact HH.elim
  case lastore =>
    obtain rfl : len = 1 := by simpa [p_okx] using hok
    unfold p_one at HH
    dsimp only at HH
    split at HH
    · exact z_last X hP hS HH.1 HH.2.1 HH.2.2.1 hd (fun H1 locs1 hP1 hS1 => hk _ _ _ HH.2.2.2 H1 locs1 lsA cells slots a1 a2 a3 a4 (p_RO_plane a5 (fun _ _ => rfl) (fun _ _ => rfl) (fun _ _ => rfl)) hP1 hS1 hl)
    · exact HH.elim
  case aastore =>
    obtain rfl : len = 1 := by simpa [p_okx] using hok
    unfold p_one at HH
    dsimp only at HH
    split at HH
    · exact z_aast X hP hS HH.1 HH.2.1 HH.2.2.1 HH.2.2.2.1 hd (fun H1 locs1 hP1 hS1 => hk _ _ _ HH.2.2.2.2 H1 locs1 lsA cells slots a1 a2 a3 a4 (p_RO_plane a5 (fun _ _ => rfl) (fun b hb9 => p_fn_ne (p_ne32 HH.2.1 hb9)) (fun _ _ => rfl)) hP1 hS1 hl)
    · exact z_aastN X hP hS HH.1 HH.2.1 HH.2.2.1 hd (fun H1 locs1 hP1 hS1 => hk _ _ _ HH.2.2.2 H1 locs1 lsA cells slots a1 a2 a3 a4 (p_RO_plane a5 (fun _ _ => rfl) (fun b hb9 => p_fn_ne (p_ne32 HH.2.1 hb9)) (fun _ _ => rfl)) hP1 hS1 hl)
    · exact HH.elim
  case invokespecial j =>
    unfold p_one at HH
    dsimp only at HH
    split at HH
    · simp only [p_okx, Bool.and_eq_true, decide_eq_true_eq] at hok
      obtain ⟨rfl, hq⟩ := hok
      have hw : Cond.methodLink (p_mi y).1.cls j objectInit ∈ p_tb := by
        rcases p_ml_ok _ (List.mem_of_getElem? hq) with ⟨-, w⟩ | ⟨e, -⟩ | ⟨e, -⟩ | ⟨e, -⟩ | ⟨e, -⟩
        · exact w
        · cases e
        · cases e
        · cases e
        · exact absurd (show 9999 < 9000 from e) (by decide)
      refine W.objInit hx hb hown (hts _ hw) (hts _ ob_i) (hts _ ob_c) rfl (by rw [X.2.2.1]; exact hl.1) rfl hd hR.1 ?_ (hk _ _ _ HH.2 H locs lsA cells slots a1 a2 a3 a4 a5 hP hS hl)
      have h8 := HH.1
      rw [← p_pvs_cat (B := B) (ro := ro)] at h8
      show 2 * 0 + _ + 12 ≤ _
      have := hR.2.1
      omega
    · exact HH.elim
  case invokestatic j =>
    unfold p_one at HH
    dsimp only at HH
    split at HH
    · rename_i r
      simp only [p_okx, Bool.and_eq_true, decide_eq_true_eq] at hok
      obtain ⟨rfl, hq⟩ := hok
      obtain ⟨b1, b2, b3, b4, b5, b6, b7, b8, b9, b10, b11⟩ := HH
      exact z_copy X hP hS hl.1 ⟨hR.1, hR.2.1⟩ hq b1 b2 b3 b4 b5 b6 b7 b8 b9 (by rw [p_pvs_cat]; exact b10) hd (fun H1 locs1 hP1 hS1 => hk _ _ _ b11 H1 locs1 lsA cells slots a1 a2 a3 a4 (p_RO_plane a5 (fun b hb9 => p_fn_ne (p_ne32 b4 hb9)) (fun _ _ => rfl) (fun _ _ => rfl)) hP1 hS1 hl)
    · simp only [p_okx, Bool.and_eq_true, decide_eq_true_eq] at hok
      obtain ⟨rfl, hq⟩ := hok
      have hw : Cond.methodLink (p_mi y).1.cls j Lib.Math.max.name ∈ p_tb := by
        rcases p_ml_ok _ (List.mem_of_getElem? hq) with ⟨e, -⟩ | ⟨e, -⟩ | ⟨-, w⟩ | ⟨e, -⟩ | ⟨e, -⟩
        · cases e
        · cases e
        · exact w
        · cases e
        · exact absurd (show 9997 < 9000 from e) (by decide)
      have h8 := HH.1
      rw [← p_pvs_cat (B := B) (ro := ro)] at h8
      exact va_mmax hx hb (by rw [X.2.2.1]; exact hl.1.symm) hown (hts _ hw) (hts _ ma_max) (hts _ mc_i) (hts _ mb_max) hR.1 (by have := hR.2.1; omega) (by have := hR.2.2.1; omega) (by have := hR.2.2.2; omega) hd (hk _ _ _ HH.2 H locs lsA cells slots a1 a2 a3 a4 a5 hP hS hl)
    · simp only [p_okx, Bool.and_eq_true, decide_eq_true_eq] at hok
      obtain ⟨rfl, hq⟩ := hok
      have hw : Cond.methodLink (p_mi y).1.cls j Lib.Math.min.name ∈ p_tb := by
        rcases p_ml_ok _ (List.mem_of_getElem? hq) with ⟨e, -⟩ | ⟨e, -⟩ | ⟨e, -⟩ | ⟨-, w⟩ | ⟨e, -⟩
        · cases e
        · cases e
        · cases e
        · exact w
        · exact absurd (show 9996 < 9000 from e) (by decide)
      have h8 := HH.1
      rw [← p_pvs_cat (B := B) (ro := ro)] at h8
      exact va_mmin hx hb (by rw [X.2.2.1]; exact hl.1.symm) hown (hts _ hw) (hts _ ma_min) (hts _ mc_i) (hts _ mb_min) hR.1 (by have := hR.2.1; omega) (by have := hR.2.2.1; omega) (by have := hR.2.2.2; omega) hd (hk _ _ _ HH.2 H locs lsA cells slots a1 a2 a3 a4 a5 hP hS hl)
    · exact HH.elim
  all_goals exact HH.elim
end ZO
