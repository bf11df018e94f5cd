/-! SOUNDNESS: a run of the pure machine is a run of the machine -/
theorem p_gi {ws : List Cond} (h : ∀ w ∈ ws, w ∈ p_tb) : GoodIn p_tb ws := fun w hw => ⟨h w hw, good_of_word (List.mem_filter.mp (h w hw)).2⟩
theorem p_pop_ok : ∀ (n : Nat) (acc st vs st' : List Value), p_pop n acc st = some (vs, st') → vs.reverse ++ st' = acc.reverse ++ st ∧ vs.length = n + acc.length
  | 0, acc, st, vs, st', h => by cases h; exact ⟨rfl, by omega⟩
  | n + 1, acc, [], vs, st', h => by cases h
  | n + 1, acc, v :: st, vs, st', h => by
    obtain ⟨h1, h2⟩ := p_pop_ok n (v :: acc) st vs st' h
    refine ⟨h1.trans ?_, by rw [h2, List.length_cons]; omega⟩
    rw [List.reverse_cons, List.append_assoc]
    rfl
theorem p_sw_get {x : Int32} {G : Nat → Prop} {pcs : List Nat} {pc : Nat} : ∀ (bs : List Nat) (os : List Int) (lo : Int), p_sw x G lo bs → p_tgs pcs pc bs os = true → ∀ j : Nat, x.toInt = lo + j → j < os.length → ∃ (b : Nat) (o : Int) (t : Nat), os[j]? = some o ∧ pcs[b]? = some t ∧ (pc : Int) + o = (t : Int) ∧ G b
  | [], [], _, _, _, j, _, hj => absurd hj (Nat.not_lt_zero _)
  | [], _ :: _, _, _, h, _, _, _ => by cases h
  | _ :: _, [], _, _, h, _, _, _ => by cases h
  | b :: bs, o :: os, lo, hs, h, 0, e, _ => by
    simp only [p_tgs, p_tg, Bool.and_eq_true] at h
    have h1 := h.1
    split at h1
    · rename_i t ht
      exact ⟨b, o, t, rfl, ht, of_decide_eq_true h1, hs.1 (by simpa using e)⟩
    · cases h1
  | b :: bs, o :: os, lo, hs, h, j + 1, e, hj => by
    simp only [p_tgs, Bool.and_eq_true] at h
    obtain ⟨b', o', t', g1, g2, g3, g4⟩ := p_sw_get bs os (lo + 1) hs.2 h.2 j (by rw [e]; push_cast; omega) (Nat.lt_of_succ_lt_succ hj)
    exact ⟨b', o', t', g1, g2, g3, g4⟩
theorem p_tg_ok {pcs : List Nat} {b pc : Nat} {off : Int} (h : p_tg pcs b pc off = true) : ∃ t, pcs[b]? = some t ∧ (pc : Int) + off = t := by
  unfold p_tg at h
  split at h
  · rename_i t ht
    exact ⟨t, ht, of_decide_eq_true h⟩
  · cases h
def p_reti (y : Nat) (i : Instr) (v : Option Value) : Prop :=
  (v = none ∧ i = .return_ ∧ (p_mi y).2.2.2 = none) ∨ (∃ x ty, v = some (.int x) ∧ i = .ireturn ∧ (p_mi y).2.2.2 = some ty ∧ narrow ty (.int x) = .int x) ∨ (∃ x, v = some (.long x) ∧ i = .lreturn ∧ (p_mi y).2.2.2 = some .long) ∨ (∃ x n, (v = some x ∧ (x = .null ∨ ∃ a, x = .ref a)) ∧ i = .areturn ∧ (p_mi y).2.2.2 = some (.object n))
def p_fin (p : Program) (l : Launch) (e : Env) (R : Room) (s : State) (m : MethodId) (args : Array Value) (below : List Frame) (meth : Method) (c : Code) (QW : State → Prop) (D : va_G) (ca : Nat → ClassId) (B : Nat) (ro : Nat → Nat) (y MC MS : Nat) (Q : Option Value → pHp → Prop) : Prop :=
  ∀ (v : Option Value) (h' : pHp) (pc' : Nat) (i : Instr) (H' : Heap) (locs' : List Loc) (lsA' : Array Slot), Q v h' → p_reti y i v → decode (p_mi y).2.1 pc' = .ok (i, 1) → s.heap.size + MC = B + ((p_X h').length - 32) → 32 ≤ (p_X h').length → p_RO B ro h' s → va_P D pm_cl (p_ws ca B ro h') H' → va_S (p_A B) s.heap H' locs' →
    W p l e R s m args below meth c H' locs' MC MS QW (F0 m pc' lsA' (v.toList.map (p_pv B ro)))
def p_Z : pZ := fun d y b kc ks ls st h Q => ∀ (pc : Nat), p_okb y pc b = true → p_okP y → ∀ (p : Program) (l : Launch) (e : Env) (R : Room) (s : State) (m : MethodId) (args : Array Value) (below : List Frame) (meth : Method) (c : Code) (QW : State → Prop) (D : va_G) (ca : Nat → ClassId) (B : Nat) (ro : Nat → Nat) (MC MS : Nat),
  p_Cx y p s m args meth c D ca B ro → (d + 1 ≤ R.frames ∧ 100 * (d + 1) ≤ R.locals ∧ MC ≤ R.cells ∧ MS ≤ R.slots) → p_fin p l e R s m args below meth c QW D ca B ro y MC MS Q → zW p l e R s m args below meth c QW D ca B ro y MC MS pc kc ks ls st h
def p_Pc (D : va_G) (ca : Nat → ClassId) (B : Nat) (ro : Nat → Nat) (vs : List Value) (h : pHp) : Array Value → State → Prop := va_Pc (vs.map (p_pv B ro)) (fun U => U.heap.size = B + ((p_X h).length - 32) ∧ 32 ≤ (p_X h).length ∧ va_K D pm_cl (p_tys ca) U ∧ p_EX ro U ∧ p_RO B ro h U ∧ va_P D pm_cl (p_ws ca B ro h) U.heap)
def p_Qc (D : va_G) (ca : Nat → ClassId) (B : Nat) (ro : Nat → Nat) (Q : Option Value → pHp → Prop) (h : pHp) (kc : Nat) : Array Value → State → Outcome → State → Prop := fun _ st oc t =>
  (∃ (v : Option Value) (h' : pHp), Q v h' ∧ oc = .returned (v.map (p_pv B ro)) ∧ va_P D pm_cl (p_ws ca B ro h') t.heap ∧ (p_X h').length = (p_X h).length + kc ∧ p_RO B ro h' t) ∧ va_F (p_A B) st t
def p_wy (z : Nat) : List Cond := .code (p_mi z).1 (p_mi z).2.1 (p_mi z).2.2.1 (p_mi z).2.2.2 :: p_tb
def p_rm (d kc ks : Nat) : Room := { frames := d + 1, cells := kc, slots := ks, locals := 100 * (d + 1) }
theorem p_blind {D : va_G} {ca : Nat → ClassId} {B : Nat} {ro : Nat → Nat} {vs : List Value} {h : pHp} : FrameBlind (p_Pc D ca B ro vs h) := by
  intro a U g mk q
  obtain ⟨q0, q1, q2, q3, q4, q5, q6⟩ := q
  exact ⟨q0, q1, q2, va_K.moved (u := U) (U := U.calling g mk a) (Vm.Alike.refl U.vm) q3, p_EX_same (s := U) (U := U.calling g mk a) rfl q4, p_RO_move (U := U) (V := U.calling g mk a) (Vm.Alike.refl U.vm) (fun _ _ _ => rfl) q5, q6⟩
/-- the contract of a method out of its run -/
theorem p_met {l : Launch} {D : va_G} {ca : Nat → ClassId} {B : Nat} {ro : Nat → Nat} {d z kc ks : Nat} {vs : List Value} {h : pHp} {Q : Option Value → pHp → Prop} (hz : p_Z d z (p_bk z 0) kc ks (p_ent vs) [] h Q) (hok : p_okP z) (hy : plainName (p_mi z).1.cls = true) (hmx : p_cats vs ≤ (p_mi z).2.2.1) :
    Met l (p_mi z).1 (p_wy z) (p_rm d kc ks) (p_Pc D ca B ro vs h) (p_Qc D ca B ro Q h kc) kc ks (p_A B) := by
  refine Met.ofW (cc := (p_mi z).2.1) (maxL := (p_mi z).2.2.1) (ret := (p_mi z).2.2.2) hy rfl ?_
  intro p e s m args below meth c s₁ Bd hml hv
  obtain ⟨rfl, hsz, hlen, hK, hEX, hRO, hP⟩ := hv
  have hts0 := atoms_spec (ws := p_wy z) Bd.pre
  have hts : ∀ w ∈ p_tb, w.before (vs.map (p_pv B ro)).toArray s = true := fun w hw => hts0 w (List.mem_cons_of_mem _ hw)
  have hr := Bd.returns
  have hlocks := Bd.notSynchronized
  have hl := lv_entry (vs.map (p_pv B ro)) (n := (p_mi z).2.2.1) (by rw [p_sl_len]; exact hmx)
  rw [lg_entry_eq]
  refine hz 0 (hok.2 0 0 hok.1) hok p l e _ s m _ below meth c _ D ca B ro kc ks ⟨Bd.exec, Bd.bytes, hml, findClass_of_methodNamed Bd.named, hts, hK, hEX, Or.inl (name_of_methodNamed Bd.named Bd.method).1, by omega⟩ ⟨Nat.le_refl _, Nat.le_refl _, Nat.le_refl _, Nat.le_refl _⟩ ?_ s.heap [] _ 0 0 (by omega) (by omega) (by omega) hlen hRO hP va_S.rf (lv_less hl (fun q hq => p_as_ent vs 0 q hq))
  intro v h' pc' i H' locs' lsA' hQ hret hd hc1 hc2 hRO' hP' hS'
  have hpost : ∀ t : State, t.heap = H' → s.WarmedH t.vm → p_Qc D ca B ro Q h kc (vs.map (p_pv B ro)).toArray s (.returned (v.map (p_pv B ro))) t := by
    intro t ht hW
    refine ⟨⟨v, h', hQ, rfl, by rw [ht]; exact hP', by omega, ?_⟩, hS'.F ht⟩
    exact p_RO_move (U := s) (V := t) hW.alike (fun a h1 h2 => by rw [ht]; exact hS'.2.1 a h1 h2) hRO'
  rcases hret with ⟨rfl, rfl, hrt⟩ | ⟨x, ty, rfl, rfl, hrt, hn⟩ | ⟨x, rfl, rfl, hrt⟩ | ⟨x, n, ⟨rfl, hx⟩, rfl, hrt⟩
  · exact W.vret Bd.exec Bd.bytes (by rw [hr]; exact hrt) hpost hS'.2.2 hd
  · exact W.zret Bd.exec Bd.bytes (by rw [hr]; exact hrt) hn hpost hS'.2.2 hd
  · exact W.lret Bd.exec Bd.bytes (by rw [hr]; exact hrt) hpost hS'.2.2 hd
  · refine W.aret Bd.exec Bd.bytes (by rw [hr]; exact hrt) (Or.inl ⟨_, rfl⟩) ?_ hpost hS'.2.2 hd
    rcases hx with rfl | ⟨a, rfl⟩
    · exact Or.inl rfl
    · exact Or.inr ⟨_, rfl⟩
theorem p_mx_ck : ∀ z, z < p_nM → decide (p_mx z ≤ (p_mi z).2.2.1) = true := by
  have h : (List.range p_nM).all (fun z => decide (p_mx z ≤ (p_mi z).2.2.1)) = true := by decide +kernel
  exact fun z hz => List.all_eq_true.mp h z (List.mem_range.mpr hz)
theorem p_mx_le (z : Nat) (hz : z < p_nM) : p_mx z ≤ (p_mi z).2.2.1 := of_decide_eq_true (p_mx_ck z hz)
section ZC
variable {p : Program} {l : Launch} {e : Env} {R : Room} {s : State} {m : MethodId} {args : Array Value} {below : List Frame} {meth : Method} {c : Code} {QW : State → Prop} {D : va_G} {ca : Nat → ClassId} {B : Nat} {ro : Nat → Nat} {y : Nat}
variable {H : Heap} {locs : List Loc} {cells slots : Nat} {lsA : Array Slot} {pc : Nat} {h : pHp}
/-- behind a call -/
theorem z_back {kc ks : Nat} {Q : Option Value → pHp → Prop} {st0 rest : List Value} {a : Array Value} (hBs : B ≤ s.heap.size) (hr : va_Run p l e R s m args below meth c H locs cells slots kc ks (F0 m pc lsA st0) rest (p_Qc D ca B ro Q h kc a) (p_A B)) (hS : va_S (p_A B) s.heap H locs)
    (kk : ∀ (v : Option Value) (h' : pHp) (H1 : Heap) (locs1 : List Loc), Q v h' → va_P D pm_cl (p_ws ca B ro h') H1 → (p_X h').length = (p_X h).length + kc → p_RO B ro h' s → va_S (p_A B) s.heap H1 locs1 → W p l e R s m args below meth c H1 locs1 (cells + kc) (slots + ks) QW (F0 m (pc + 3) lsA ((v.map (p_pv B ro)).toList ++ rest))) : W p l e R s m args below meth c H locs cells slots QW (F0 m pc lsA st0) := by
  intro T hT X
  obtain ⟨v, st₀, t, T', L, h0, X', hL, e1, e2, ⟨⟨v', h', hQ, hv, hP', hX', hRO'⟩, hz, hk⟩, st⟩ := hr T hT X
  cases hv
  rw [h0] at hz hk
  have hS1 : va_S (p_A B) s.heap T'.heap (locs ++ L) := ⟨Nat.le_trans hS.1 (by rw [e1]; exact hz), fun q h1 h2 => by rw [e1, hk q (Nat.lt_of_lt_of_le h1 hS.1) h2]; exact hS.2.1 q h1 h2, fun q hq => by
    rcases List.mem_append.mp hq with h | h
    · exact hS.2.2 q h
    · exact hL q h⟩
  have hROs : p_RO B ro h' s := p_RO_move (U := t) (V := s) (by rw [← e2]; exact X'.warmed.alike.symm) (fun a h1 h2 => by
    have h3 : a < s.heap.size := Nat.lt_of_lt_of_le (Nat.not_le.mp h2) hBs
    rw [← e1, hS1.2.1 a h3 h2]) hRO'
  obtain ⟨t2, b1, b2⟩ := kk v' h' T'.heap (locs ++ L) hQ (by rw [e1]; exact hP') hX' hROs hS1 T' rfl X'
  exact ⟨t2, st t2 b1, b2⟩
theorem z_fresh {q : Nat} {E : va_E} {H1 : Heap} (a3 : s.heap.size + cells = B + ((p_X h).length - 32)) (hP1 : va_P D pm_cl (p_ws ca B ro h ++ [(q, E)]) H1) (hD1 : va_D (p_A B) (p_ws ca B ro h ++ [(q, E)])) (hsz : H1.size ≤ s.heap.size + (cells + 1)) : q = B + ((p_X h).length - 32) := by
  have hlast : (p_ws ca B ro h ++ [(q, E)])[(p_X h).length - 32]? = some (q, E) := by
    rw [List.getElem?_append_right (by rw [p_ws_len]; exact Nat.le_refl _), p_ws_len, Nat.sub_self]
    rfl
  have h1 : q < H1.size := (hP1 _ _ hlast).lt
  have h2 : B ≤ q := hD1.2 _ _ hlast
  by_cases h3 : q < B + ((p_X h).length - 32)
  · have hi : (p_ws ca B ro h ++ [(q, E)])[q - B]? = some (B + (q - B), p_cell ca B ro h (q - B + 32)) := by
      rw [List.getElem?_append_left (by rw [p_ws_len]; omega)]
      have := p_ws_get (ca := ca) (B := B) (ro := ro) (h := h) (a := q - B + 32) (by omega) (by omega)
      rw [p_ph_hi (by omega), show q - B + 32 - 32 = q - B by omega] at this
      exact this
    have := hD1.1 _ _ _ _ hi hlast (by show B + (q - B) = q; omega)
    omega
  · omega
theorem z_newO (X : p_Cx y p s m args meth c D ca B ro) (hP : va_P D pm_cl (p_ws ca B ro h) H) (hS : va_S (p_A B) s.heap H locs) (a3 : s.heap.size + cells = B + ((p_X h).length - 32)) (a4 : 32 ≤ (p_X h).length) {i j k n : Nat} {rest : List Value} (hq : p_nl[i]? = some ((p_mi y).1.cls, j, k)) (hn : n = p_N k) (hk : k < 10) (hcl : cells + 1 ≤ R.cells) (hsl : slots + n ≤ R.slots) (hd : decode (p_mi y).2.1 pc = .ok (.new j, 3))
    (kk : ∀ (H1 : Heap), va_P D pm_cl (p_ws ca B ro (p_new h (0, k))) H1 → va_S (p_A B) s.heap H1 locs → W p l e R s m args below meth c H1 locs (cells + 1) (slots + n) QW (F0 m (pc + 3) lsA (.ref (p_ph B ro (p_X h).length) :: rest))) : W p l e R s m args below meth c H locs cells slots QW (F0 m pc lsA rest) := by
  obtain ⟨hx, hb, -, hown, hts, hK, -, -, hBs⟩ := X
  obtain ⟨r, hr, hw1, hw2, hw3⟩ := p_nl_ok _ (List.mem_of_getElem? hq)
  dsimp only at hr hw1
  have hN : r.2.2 = n := (p_cl_N hr).trans hn.symm
  have hE : p_cell ca B ro (p_new h (0, k)) (p_X h).length = .inr (k, p_fs B ro (p_new h (0, k)) (p_X h).length k) := p_cell_obj (p_kd_new _ _)
  refine va_new (ci := k) (fs := p_fs B ro (p_new h (0, k)) (p_X h).length k) (C := r.1) (T := r.2.1) (N := r.2.2) hx hb hts (p_cl_in hr) (p_ty k) (p_cl_ty hr) hown (hts _ hw1) (hts _ hw2) (hts _ hw3) hK hP (p_ws_D h) hS (fun q hq => Nat.le_trans hBs hq) hr (fun j hj => ?_) hcl (by rw [hN]; exact hsl) hd (fun q H1 hP1 hD1 hS1 => W_size (fun hsz => ?_))
  · have hj' : j < p_N k := by rw [← p_cl_N hr]; exact hj
    unfold vp_V
    rw [List.getD_eq_getElem?_getD, p_fs_get hj', p_fv_new (p_tyk_ok k hk j hj')]
    rfl
  · have hq2 := z_fresh a3 hP1 hD1 hsz
    subst hq2
    rw [hN]
    rw [p_ph_hi a4] at kk
    exact kk H1 (by rw [p_ws_new a4, hE]; exact hP1) hS1
theorem z_newA (X : p_Cx y p s m args meth c D ca B ro) (hP : va_P D pm_cl (p_ws ca B ro h) H) (hS : va_S (p_A B) s.heap H locs) (a3 : s.heap.size + cells = B + ((p_X h).length - 32)) (a4 : 32 ≤ (p_X h).length) {t : Nat} {a : ArrayType} {n : Int32} {rest : List Value}
    (ht : (t = 1 ∧ newarray.typeOf a = .int) ∨ (t = 2 ∧ newarray.typeOf a = .byte) ∨ (t = 3 ∧ newarray.typeOf a = .boolean) ∨ (t = 4 ∧ newarray.typeOf a = .long)) (hn : ¬ n < 0) (hn2 : n.toNatClampNeg ≤ 65536) (hcl : cells + 1 ≤ R.cells) (hsl : slots + n.toNatClampNeg ≤ R.slots) (hd : decode (p_mi y).2.1 pc = .ok (.newarray a, 2))
    (kk : ∀ (H1 : Heap), va_P D pm_cl (p_ws ca B ro (p_new h (t, n.toNatClampNeg))) H1 → va_S (p_A B) s.heap H1 locs → W p l e R s m args below meth c H1 locs (cells + 1) (slots + n.toNatClampNeg) QW (F0 m (pc + 2) lsA (.ref (p_ph B ro (p_X h).length) :: rest))) : W p l e R s m args below meth c H locs cells slots QW (F0 m pc lsA (.int n :: rest)) := by
  obtain ⟨hx, hb, -, hown, hts, hK, -, -, hBs⟩ := X
  have ht0 : t ≠ 0 := by omega
  have hE : p_cell ca B ro (p_new h (t, n.toNatClampNeg)) (p_X h).length = .inl (ca t, n.toNatClampNeg, p_ar B ro (p_new h (t, n.toNatClampNeg)) (p_X h).length t) := p_cell_arr (p_kd_new _ _) ht0
  have eI : p_I (p_new h (t, n.toNatClampNeg)) (p_X h).length = fun _ => 0 := p_fn_eq
  have eL : p_L (p_new h (t, n.toNatClampNeg)) (p_X h).length = fun _ => 0 := p_fn_eq
  have key : ∀ (ty : FieldType) (t0 : Nat), newarray.typeOf a = ty → (p_tys ca)[t0]? = some (ca t, ty) → Cond.arrayClass ty ∈ p_tb → (∀ cA : ClassId, vp_cell cA (n.toNatClampNeg, p_ar B ro (p_new h (t, n.toNatClampNeg)) (p_X h).length t) = arrV cA n.toNatClampNeg (fun _ => defaultValue ty)) → componentBytes ty ≤ 8 → (∀ (U : State) (cA : ClassId), va_RA U cA ty = (U.vm.findClass ("[" ++ ty.toString) = some cA)) →
      W p l e R s m args below meth c H locs cells slots QW (F0 m pc lsA (.int n :: rest)) := by
    intro ty t0 hty htt hw ha hby hra
    refine va_newa (a0 := (n.toNatClampNeg, p_ar B ro (p_new h (t, n.toNatClampNeg)) (p_X h).length t)) (N' := n.toNatClampNeg) hx hb (by rw [hty]; exact hts _ hw) hty hK hP (p_ws_D h) hS (fun q hq => Nat.le_trans hBs hq) ha hn rfl (Nat.le_trans (Nat.mul_le_mul hn2 hby) (by decide)) hcl hsl hd (fun q cA H1 hK1 hP1 hD1 hS1 => W_size (fun hsz => ?_))
    have hq2 := z_fresh a3 hP1 hD1 hsz
    subst hq2
    have h1 : (p_tys ca ++ [(cA, ty)])[6]? = some (cA, ty) := rfl
    have h2 := (hK1.2 6 _ h1).2
    have h3 := (hK.2 t0 _ htt).2
    rw [hra] at h2 h3
    have h4 : cA = ca t := Option.some.inj (h2.symm.trans h3)
    subst h4
    rw [p_ph_hi a4] at kk
    exact kk H1 (by rw [p_ws_new a4, hE]; exact hP1) hS1
  rcases ht with ⟨rfl, hty⟩ | ⟨rfl, hty⟩ | ⟨rfl, hty⟩ | ⟨rfl, hty⟩
  · exact key .int 0 hty rfl ac_1 (fun cA => by show arrV cA _ (fun j => .int (p_I _ _ j)) = _; rw [eI]; rfl) (by decide) (fun _ _ => rfl)
  · exact key .byte 1 hty rfl ac_2 (fun cA => by show arrV cA _ (fun j => .int (p_I _ _ j)) = _; rw [eI]; rfl) (by decide) (fun _ _ => rfl)
  · exact key .boolean 2 hty rfl ac_3 (fun cA => by show arrV cA _ (fun j => .int (p_I _ _ j)) = _; rw [eI]; rfl) (by decide) (fun _ _ => rfl)
  · exact key .long 3 hty rfl ac_4 (fun cA => by show arrV cA _ (fun j => .long (p_L _ _ j)) = _; rw [eL]; rfl) (by decide) (fun _ _ => rfl)
theorem z_newQ (X : p_Cx y p s m args meth c D ca B ro) (hP : va_P D pm_cl (p_ws ca B ro h) H) (hS : va_S (p_A B) s.heap H locs) (a3 : s.heap.size + cells = B + ((p_X h).length - 32)) (a4 : 32 ≤ (p_X h).length) {t i j : Nat} {n : Int32} {rest : List Value}
    (hq : p_aq[i]? = some ((p_mi y).1.cls, j, t)) (ht : t = 5 ∨ t = 6) (hn : ¬ n < 0) (hn2 : n.toNatClampNeg ≤ 65536) (hcl : cells + 1 ≤ R.cells) (hsl : slots + n.toNatClampNeg ≤ R.slots) (hd : decode (p_mi y).2.1 pc = .ok (.anewarray j, 3))
    (kk : ∀ (H1 : Heap), va_P D pm_cl (p_ws ca B ro (p_new h (t, n.toNatClampNeg))) H1 → va_S (p_A B) s.heap H1 locs → W p l e R s m args below meth c H1 locs (cells + 1) (slots + n.toNatClampNeg) QW (F0 m (pc + 3) lsA (.ref (p_ph B ro (p_X h).length) :: rest))) : W p l e R s m args below meth c H locs cells slots QW (F0 m pc lsA (.int n :: rest)) := by
  obtain ⟨hx, hb, -, hown, hts, hK, hEX, -, hBs⟩ := X
  obtain ⟨hw1, hw2⟩ := p_aq_ok _ (List.mem_of_getElem? hq)
  dsimp only at hw1 hw2
  have ht0 : t ≠ 0 := by omega
  have hE : p_cell ca B ro (p_new h (t, n.toNatClampNeg)) (p_X h).length = .inl (ca t, n.toNatClampNeg, .inr (.inr (.inr (.inr (fun _ => none))))) := by
    rw [p_cell_arr (p_kd_new _ _) ht0]
    have eR : p_R (p_new h (t, n.toNatClampNeg)) (p_X h).length = fun _ => none := p_fn_eq
    rcases ht with rfl | rfl <;> (show Sum.inl (_, _, Sum.inr (Sum.inr (Sum.inr (Sum.inr (fun k => (p_R _ _ k).map _))))) = _; rw [eR]; rfl)
  refine va_newq (N' := n.toNatClampNeg) hx hb hown (hts _ hw1) (hEX.2.2.2 _ hw2) hK hP (p_ws_D h) hS (fun q hq => Nat.le_trans hBs hq) hn rfl (by omega) hcl hsl hd (fun q cA H1 hK1 hP1 hD1 hS1 => W_size (fun hsz => ?_))
  have hq2 := z_fresh a3 hP1 hD1 hsz
  subst hq2
  have h1 : (p_tys ca ++ [(cA, .object (p_aqn t))])[6]? = some (cA, .object (p_aqn t)) := rfl
  obtain ⟨-, -, -, -, -, h2⟩ := (hK1.2 6 _ h1).2
  have h4 : cA = ca t := by
    rcases ht with rfl | rfl
    · obtain ⟨-, -, -, -, -, h3⟩ := (hK.2 4 (ca 5, .object "HutAnswers$Text") rfl).2
      exact Option.some.inj (h2.symm.trans h3)
    · obtain ⟨-, -, -, -, -, h3⟩ := (hK.2 5 (ca 6, .object "HutAnswers$Hut") rfl).2
      exact Option.some.inj (h2.symm.trans h3)
  subst h4
  rw [p_ph_hi a4] at kk
  exact kk H1 (by rw [p_ws_new a4, hE]; exact hP1) hS1
end ZC
