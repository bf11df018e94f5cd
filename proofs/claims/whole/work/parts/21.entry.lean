theorem p_R_entry {b L : Nat} {xs : Nat → Int32} {s : State} (hL : L ≤ 3072) (hts : ∀ w ∈ lw_tbl, w.before #[Value.ref b] s = true) (hX : va_X b L xs s s.heap) (hbl : b < s.heap.size) (hgv : p_PR.before #[Value.ref b] s = true) :
    ∃ (ro : Nat → Nat) (sio : Option Nat), ro 2 = b ∧ p_RO s.heap.size ro (p_h0 L xs sio) s ∧ p_EX ro s := by
  have hf := flat_of_before _ hgv
  have hA : ∀ a : Nat, a < s.heap.size → ¬ p_A s.heap.size a := fun a h1 h2 => Nat.not_le.mpr h1 h2
  obtain ⟨t0, e0, T0⟩ := va_Tof (f := fun j => .int ([1, 2, 3, 5, 6].getD j 0)) (A := p_A s.heap.size) (N := 5) (by decide) (hf _ p_ra.1) (va_eqt (hf _ p_ra.2.1)) (fun j hj => va_eqt (hf _ (p_ra.2.2 j hj))) hA
  obtain ⟨t1, e1, T1⟩ := va_Tof (f := fun j => .int ([999, 9, 9999].getD j 0)) (A := p_A s.heap.size) (N := 3) (by decide) (hf _ p_rb.1) (va_eqt (hf _ p_rb.2.1)) (fun j hj => va_eqt (hf _ (p_rb.2.2 j hj))) hA
  obtain ⟨adK, adV, hV, hE⟩ := vk_Sof (N := 9) (tm := p_tm) (len := p_lens9) (byt := p_strs) (A := p_A s.heap.size) (by decide +kernel) (fun i hi => hf _ (p_hex i hi)) (fun i hi => hf _ (p_hco i hi)) (fun i hi => hf _ (p_har i hi)) (fun i hi => hf _ (p_hle i hi)) (fun i hi j hj => hf _ (p_elA i hi j hj)) (fun i j hi hj hij => by
    rcases Nat.lt_or_gt_of_ne hij with h | h
    · exact Or.inl (hf _ (p_nqA i hi j hj h))
    · exact Or.inr (hf _ (p_nqA j hj i hi h))) hA
  have T2 : va_T .int b L (fun j => .int (xs j)) (p_A s.heap.size) s s.heap := by
    obtain ⟨scr, h1, h2, h3, h4, h5⟩ := hX
    exact ⟨scr, h1, h2, h3, Nat.le_of_eq h4.symm, by rw [h4], h5, hA b hbl⟩
  have Z1 : va_Z "HutAnswers" "REFUSALS" "[I" (.ref t0) (p_A s.heap.size) s s.heap := va_Zof (hts _ p_ls1) (hts _ p_ls1i) e0 hA
  have Z2 : va_Z "HutAnswers" "MOST_OF_TERM" "[I" (.ref t1) (p_A s.heap.size) s s.heap := va_Zof (hts _ p_ls2) (hts _ p_ls2i) e1 hA
  have Z3 : va_Z "java/lang/String" "COMPACT_STRINGS" "Z" (.int 1) (p_A s.heap.size) s s.heap := va_Zof (hts _ p_ls3) (hts _ p_ls3i) (va_eqi (hf _ p_rc.1)) hA
  have Z0 : ∃ (sio : Option Nat) (q : Nat), va_Z "jdk/internal/util/Preconditions" "SIOOBE_FORMATTER" "Ljava/util/function/BiFunction;" (va_rf (sio.map (fun _ => q))) (p_A s.heap.size) s s.heap ∧ (sio = none ∨ sio = some 31) := by
    rcases va_Zqof (A := p_A s.heap.size) (hts _ p_ls0) (hts _ p_ls0i) (hf _ p_rc.2) hA with h | ⟨t, h⟩
    · exact ⟨none, 0, h, Or.inl rfl⟩
    · exact ⟨some 31, t, h, Or.inr rfl⟩
  obtain ⟨sio, q, Z0, hsio⟩ := Z0
  refine ⟨fun a => if a = 0 then t0 else if a = 1 then t1 else if a = 2 then b else if a < 12 then adV (a - 3) else if a < 21 then adK (a - 12) else q, sio, rfl, ⟨?_, ?_, ?_, ?_, ?_⟩, ?_, ?_, ?_, ?_⟩
  · intro a n ha e
    match a, ha, e with
    | 0, _, e => cases e; exact T0
    | 1, _, e => cases e; exact T1
    | 2, _, e => cases e; exact T2
    | 3, _, e => cases e
    | 4, _, e => cases e
    | 5, _, e => cases e
    | 6, _, e => cases e
    | 7, _, e => cases e
    | 8, _, e => cases e
    | 9, _, e => cases e
    | 10, _, e => cases e
    | 11, _, e => cases e
    | 12, _, e => cases e
    | 13, _, e => cases e
    | 14, _, e => cases e
    | 15, _, e => cases e
    | 16, _, e => cases e
    | 17, _, e => cases e
    | 18, _, e => cases e
    | 19, _, e => cases e
    | 20, _, e => cases e
    | 21, _, e => cases e
    | 22, _, e => cases e
    | 23, _, e => cases e
    | 24, _, e => cases e
    | 25, _, e => cases e
    | 26, _, e => cases e
    | 27, _, e => cases e
    | 28, _, e => cases e
    | 29, _, e => cases e
    | 30, _, e => cases e
    | 31, _, e => cases e
    | n + 32, h, _ => exact absurd h (by omega)
  · intro a n ha e
    match a, ha, e with
    | 0, _, e => cases e
    | 1, _, e => cases e
    | 2, _, e => cases e
    | 3, _, e => cases e; exact (hV.1 0 (by decide)).2.2.2
    | 4, _, e => cases e; exact (hV.1 1 (by decide)).2.2.2
    | 5, _, e => cases e; exact (hV.1 2 (by decide)).2.2.2
    | 6, _, e => cases e; exact (hV.1 3 (by decide)).2.2.2
    | 7, _, e => cases e; exact (hV.1 4 (by decide)).2.2.2
    | 8, _, e => cases e; exact (hV.1 5 (by decide)).2.2.2
    | 9, _, e => cases e; exact (hV.1 6 (by decide)).2.2.2
    | 10, _, e => cases e; exact (hV.1 7 (by decide)).2.2.2
    | 11, _, e => cases e; exact (hV.1 8 (by decide)).2.2.2
    | 12, _, e => cases e
    | 13, _, e => cases e
    | 14, _, e => cases e
    | 15, _, e => cases e
    | 16, _, e => cases e
    | 17, _, e => cases e
    | 18, _, e => cases e
    | 19, _, e => cases e
    | 20, _, e => cases e
    | 21, _, e => cases e
    | 22, _, e => cases e
    | 23, _, e => cases e
    | 24, _, e => cases e
    | 25, _, e => cases e
    | 26, _, e => cases e
    | 27, _, e => cases e
    | 28, _, e => cases e
    | 29, _, e => cases e
    | 30, _, e => cases e
    | 31, _, e => cases e
    | n + 32, h, _ => exact absurd h (by omega)
  · intro a n ha e
    match a, ha, e with
    | 0, _, e => cases e
    | 1, _, e => cases e
    | 2, _, e => cases e
    | 3, _, e => cases e
    | 4, _, e => cases e
    | 5, _, e => cases e
    | 6, _, e => cases e
    | 7, _, e => cases e
    | 8, _, e => cases e
    | 9, _, e => cases e
    | 10, _, e => cases e
    | 11, _, e => cases e
    | 12, _, e => cases e; exact ⟨rfl, (hV.1 0 (by decide)).1, (hV.1 0 (by decide)).2.1, (hV.1 0 (by decide)).2.2.1⟩
    | 13, _, e => cases e; exact ⟨rfl, (hV.1 1 (by decide)).1, (hV.1 1 (by decide)).2.1, (hV.1 1 (by decide)).2.2.1⟩
    | 14, _, e => cases e; exact ⟨rfl, (hV.1 2 (by decide)).1, (hV.1 2 (by decide)).2.1, (hV.1 2 (by decide)).2.2.1⟩
    | 15, _, e => cases e; exact ⟨rfl, (hV.1 3 (by decide)).1, (hV.1 3 (by decide)).2.1, (hV.1 3 (by decide)).2.2.1⟩
    | 16, _, e => cases e; exact ⟨rfl, (hV.1 4 (by decide)).1, (hV.1 4 (by decide)).2.1, (hV.1 4 (by decide)).2.2.1⟩
    | 17, _, e => cases e; exact ⟨rfl, (hV.1 5 (by decide)).1, (hV.1 5 (by decide)).2.1, (hV.1 5 (by decide)).2.2.1⟩
    | 18, _, e => cases e; exact ⟨rfl, (hV.1 6 (by decide)).1, (hV.1 6 (by decide)).2.1, (hV.1 6 (by decide)).2.2.1⟩
    | 19, _, e => cases e; exact ⟨rfl, (hV.1 7 (by decide)).1, (hV.1 7 (by decide)).2.1, (hV.1 7 (by decide)).2.2.1⟩
    | 20, _, e => cases e; exact ⟨rfl, (hV.1 8 (by decide)).1, (hV.1 8 (by decide)).2.1, (hV.1 8 (by decide)).2.2.1⟩
    | 21, _, e => cases e
    | 22, _, e => cases e
    | 23, _, e => cases e
    | 24, _, e => cases e
    | 25, _, e => cases e
    | 26, _, e => cases e
    | 27, _, e => cases e
    | 28, _, e => cases e
    | 29, _, e => cases e
    | 30, _, e => cases e
    | 31, _, e => cases e
    | n + 32, h, _ => exact absurd h (by omega)
  · intro a ha
    match a, ha with
    | 0, _ => exact Or.inl (Nat.le_of_ble_eq_true rfl)
    | 1, _ => exact Or.inl (Nat.le_of_ble_eq_true rfl)
    | 2, _ => exact Or.inl (show 1 ≤ 2 by decide)
    | 3, _ => exact Or.inl (Nat.le_of_ble_eq_true rfl)
    | 4, _ => exact Or.inl (Nat.le_of_ble_eq_true rfl)
    | 5, _ => exact Or.inl (Nat.le_of_ble_eq_true rfl)
    | 6, _ => exact Or.inl (Nat.le_of_ble_eq_true rfl)
    | 7, _ => exact Or.inl (Nat.le_of_ble_eq_true rfl)
    | 8, _ => exact Or.inl (Nat.le_of_ble_eq_true rfl)
    | 9, _ => exact Or.inl (Nat.le_of_ble_eq_true rfl)
    | 10, _ => exact Or.inl (Nat.le_of_ble_eq_true rfl)
    | 11, _ => exact Or.inl (Nat.le_of_ble_eq_true rfl)
    | 12, _ => exact Or.inl (Nat.le_of_ble_eq_true rfl)
    | 13, _ => exact Or.inl (Nat.le_of_ble_eq_true rfl)
    | 14, _ => exact Or.inl (Nat.le_of_ble_eq_true rfl)
    | 15, _ => exact Or.inl (Nat.le_of_ble_eq_true rfl)
    | 16, _ => exact Or.inl (Nat.le_of_ble_eq_true rfl)
    | 17, _ => exact Or.inl (Nat.le_of_ble_eq_true rfl)
    | 18, _ => exact Or.inl (Nat.le_of_ble_eq_true rfl)
    | 19, _ => exact Or.inl (Nat.le_of_ble_eq_true rfl)
    | 20, _ => exact Or.inl (Nat.le_of_ble_eq_true rfl)
    | 21, _ => exact Or.inr (Nat.le_of_ble_eq_true rfl)
    | 22, _ => exact Or.inr (Nat.le_of_ble_eq_true rfl)
    | 23, _ => exact Or.inr (Nat.le_of_ble_eq_true rfl)
    | 24, _ => exact Or.inr (Nat.le_of_ble_eq_true rfl)
    | 25, _ => exact Or.inr (Nat.le_of_ble_eq_true rfl)
    | 26, _ => exact Or.inr (Nat.le_of_ble_eq_true rfl)
    | 27, _ => exact Or.inr (Nat.le_of_ble_eq_true rfl)
    | 28, _ => exact Or.inr (Nat.le_of_ble_eq_true rfl)
    | 29, _ => exact Or.inr (Nat.le_of_ble_eq_true rfl)
    | 30, _ => exact Or.inr (Nat.le_of_ble_eq_true rfl)
    | 31, _ => exact Or.inr (Nat.le_of_ble_eq_true rfl)
    | n + 32, h => exact absurd h (by omega)
  · intro k r hk
    match k, hk with
    | 0, hk =>
      cases hk
      rcases hsio with rfl | rfl <;> exact Z0
    | 1, hk => cases hk; exact Z1
    | 2, hk => cases hk; exact Z2
    | 3, hk => cases hk; exact Z3
    | n + 4, hk => simp [p_stf] at hk
  · intro z hz
    simp only [p_st, List.mem_cons, List.not_mem_nil, or_false] at hz
    rcases hz with rfl | rfl | rfl | rfl | rfl | rfl | rfl | rfl | rfl
    · exact vk_R.of (hts _ p_sw_0) (hE 0 (by decide))
    · exact vk_R.of (hts _ p_sw_1) (hE 1 (by decide))
    · exact vk_R.of (hts _ p_sw_2) (hE 4 (by decide))
    · exact vk_R.of (hts _ p_sw_3) (hE 5 (by decide))
    · exact vk_R.of (hts _ p_sw_4) (hE 7 (by decide))
    · exact vk_R.of (hts _ p_sw_5) (hE 8 (by decide))
    · exact vk_R.of (hts _ p_sw_6) (hE 6 (by decide))
    · exact vk_R.of (hts _ p_sw_7) (hE 2 (by decide))
    · exact vk_R.of (hts _ p_sw_8) (hE 3 (by decide))
  · exact fun o i y h => va_Nw.of rfl (hts _ h)
  · exact fun o i a n d h => va_Nw.of rfl (hts _ h)
  · exact fun C h => va_AO.of (hts _ h)
/-! THE CLAIM OUT OF ONE WALK OF THE LAW'S BODY. Your part is whole_start (and what it stands on); all else here is the same for every law, but numbers. -/
def R_law : String := "HutAnswersLaw"
def lw_P (b : Addr) (xs : List Int32) (args : Array Value) (s : State) : Prop := args = #[.ref b] ∧ s.IntsAt b xs ∧ xs.length ≤ 3072 ∧ (Jvm.Cond.and given_1 narrow_1).before args s = true
def lw_Q (_ : Array Value) (s : State) (o : Outcome) (t : State) : Prop := o = .returned (some (.int 1)) ∧ Framed s o t [] 600000 7302250
def lw_Z (below : List Frame) (a : Array Value) (s : State) : State → Prop := fun t => ∃ o, t.status = .running ∧ Ended t below o ∧ lw_Q a s o t
/-- the law's own end, with 1 on the stack, nothing written that was there before, its room as the claim has it -/
theorem lw_ret {p : Program} {l : Launch} {e : Env} {s : State} {m : MethodId} {below : List Frame} {meth : Method} {c : Code} {b : Nat} (hx : p.tables.exec = Jvm.exec) (hb : c.code = code) (hr : meth.sig.returnType = ret) (hlocks : meth.locks = false) {pc : Nat} {H : Heap} {ls : Array Slot} (hdg : decode code pc = .ok (.ireturn, 1)) : W p l e room_1 s m #[Value.ref b] below meth c H [] 600000 7302250 (lw_Z below #[Value.ref b] s) (F0 m pc ls [.int 1]) := by
  intro T hT X
  obtain ⟨fs, hret, hrun, hended, hW, hframe⟩ := X.leave (v := some (.int 1)) (hlocks := hlocks) (fun h => by rw [hr] at h; cases h)
  have hmeth' : T.vm.method? m = some meth := X.method'
  refine ⟨T.setFrames fs, ?_, .returned (some (.int 1)), hrun, hended, rfl, ⟨_, rfl⟩, hW, hframe⟩
  jvm_step X.here [X.here.top, hx, hb, hdg, hmeth', hr, ret, narrow_b1]
  (try refine ⟨rfl, ?_⟩); (try refine ⟨rfl, ?_⟩)
  first | (intro acts; rw [hret _ acts rfl rfl rfl]) | rw [hret _ _ rfl rfl rfl]
  exact Steps.refl _
/-- what holds at the law's entry: the machine, the code, the tables' words (any of lw_tbl by 'hts w (by decide +kernel)'), the script of L ints xs at the cell b, what the Statement gives of the start (any of its parts by flat_of_before) -/
def lw_At (p : Program) (s : State) (m : MethodId) (meth : Method) (c : Code) (b L : Nat) (xs : Nat → Int32) : Prop :=
  p.tables.exec = Jvm.exec ∧ c.code = code ∧ meth.sig.returnType = ret ∧ c.maxLocals = 4 ∧ s.vm.findClass R_law = some m.cls ∧ (∀ w ∈ lw_tbl, w.before #[Value.ref b] s = true) ∧ va_X b L xs s s.heap ∧ b < s.heap.size ∧ meth.locks = false ∧ (Jvm.Cond.and given_1 narrow_1).before #[Value.ref b] s = true
theorem whole_of_run (hrun : ∀ (L : Nat) (xs : Nat → Int32) (sio : Option Nat), L ≤ 3072 → ∃ kc ks, kc ≤ 600000 ∧ ks ≤ 7302250 ∧ P_run 100 283 (p_bk 283 0) kc ks [.ref 2] [] (p_h0 L xs sio) (fun v _ => v = some (.int 1)))
    {p : Program} {e : Env} {s : State} {m : MethodId} {below : List Frame} {meth : Method} {c : Code} (l : Launch) {b L : Nat} {xs : Nat → Int32} (hL : L ≤ 3072) (C0 : lw_At p s m meth c b L xs) : W p l e room_1 s m #[Value.ref b] below meth c s.heap [] 0 0 (lw_Z below #[Value.ref b] s) (entryFrame m ([Value.ref b] : List Value).toArray 4) := by
  obtain ⟨hx, hb, hr, hml, hown, hts, hX, hbl, hlocks, hgv⟩ := C0
  obtain ⟨ro, sio, hro, hRO, hEX⟩ := p_R_entry hL hts hX hbl hgv
  obtain ⟨D, ca, hK⟩ := p_K hts
  obtain ⟨kc, ks, hkc, hks, hrun⟩ := hrun L xs sio hL
  have hok := p_ok 283 (by decide)
  have hZ := p_sound hrun 0 (hok.2 0 0 hok.1) hok p l e room_1 s m #[Value.ref b] below meth c (lw_Z below #[Value.ref b] s) D ca s.heap.size ro kc ks ⟨hx, hb, hml, hown, fun w hw => hts w (List.mem_filter.mp hw).1, hK, hEX, Or.inr (by decide), Nat.le_refl _⟩ ⟨by decide, by decide, hkc, hks⟩ ?_
  · have hl := lv_entry ([.ref b]) (n := 4) (Nat.le_of_ble_eq_true rfl)
    rw [lg_entry_eq]
    refine hZ s.heap [] _ 0 0 (by omega) (by omega) rfl (Nat.le_of_ble_eq_true rfl) hRO (fun k q h => by cases h) va_S.rf (lv_less hl (fun q hq => ?_))
    have e2 : p_as s.heap.size ro 0 [.ref 2] = [(0, .ref b)] := by
      show [(0, Value.ref (p_ph s.heap.size ro 2))] = _
      rw [p_ph_lo (by decide), hro]
    rw [e2] at hq
    exact hq
  · intro v h' pc' i H' locs' lsA' hv hret hd _ _ _ _ hS
    subst hv
    have hi : i = .ireturn := by
      rcases hret with ⟨e1, -⟩ | ⟨x, ty, -, e2, -⟩ | ⟨x, e1, -⟩ | ⟨x, n, ⟨e1, e3⟩, -⟩
      · cases e1
      · exact e2
      · cases e1
      · cases e1
        rcases e3 with e3 | ⟨a, e3⟩ <;> cases e3
    subst hi
    refine va_forget (fun q hq => hS.2.2 q hq) ?_
    refine W.widen (k := 600000) (n := 7302250) hkc hks ?_
    exact lw_ret hx hb hr hlocks hd
