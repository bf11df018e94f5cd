/-! THE CLOSURE: what the pure machine's step says is so of the machine -/
section ZS
variable {p : Program} {l : Launch} {e : Env} {R : Room} {s : State} {m : MethodId} {args : Array Value} {below : List Frame} {meth : Method} {c : Code} {QW : State → Prop} {D : va_G} {ca : Nat → ClassId} {B : Nat} {ro : Nat → Nat} {y MC MS : Nat}
theorem p_parN {z n : Nat} (h : p_par z n = true) : (parseMethodDescriptor (p_mi z).1.desc).map (fun d => d.parameters.length) = some n := by
  unfold p_par at h
  split at h
  · rename_i sg hsg
    rw [hsg]
    exact congrArg some (of_decide_eq_true h)
  · cases h
theorem p_mlz {q : String × Nat × Nat × Nat} {i : Nat} (hq : p_ml[i]? = some q) (hz : q.2.2.1 < p_nM) : p_mthP q.2.2.1 ∧
    ((q.2.2.2 = 0 ∧ Cond.methodLink q.1 q.2.1 (p_mi q.2.2.1).1 ∈ p_tb ∧ Cond.instanceMethod (p_mi q.2.2.1).1 ∈ p_tb ∧ Cond.selects (p_mi q.2.2.1).1.cls (p_mi q.2.2.1).1 (p_mi q.2.2.1).1 ∈ p_tb) ∨
     (q.2.2.2 = 1 ∧ Cond.methodLink q.1 q.2.1 (p_mi q.2.2.1).1 ∈ p_tb ∧ Cond.static (p_mi q.2.2.1).1 ∈ p_tb) ∨
     (q.2.2.2 = 2 ∧ Cond.methodLink q.1 q.2.1 (p_mi q.2.2.1).1 ∈ p_tb ∧ Cond.instanceMethod (p_mi q.2.2.1).1 ∈ p_tb ∧ (p_mi q.2.2.1).1.name = "<init>" ∧ (p_mi q.2.2.1).2.2.2 = none) ∨
     (q.2.2.2 = 3 ∧ Cond.methodLinkNest q.1 q.2.1 (p_mi q.2.2.1).1 "HutAnswers" ∈ lw_tbl ∧ Cond.instanceMethod (p_mi q.2.2.1).1 ∈ p_tb ∧ (p_mi q.2.2.1).1.name = "<init>" ∧ (p_mi q.2.2.1).2.2.2 = none)) := by
  have hlt : q.2.2.1 < 284 := hz
  rcases p_ml_ok _ (List.mem_of_getElem? hq) with ⟨e1, -⟩ | ⟨e1, -⟩ | ⟨e1, -⟩ | ⟨e1, -⟩ | ⟨-, e1⟩
  · omega
  · omega
  · omega
  · omega
  · exact e1
set_option maxHeartbeats 4000000 in
theorem z_blk (X : p_Cx y p s m args meth c D ca B ro) (hR1 : 1 ≤ R.frames ∧ 100 ≤ R.locals ∧ MC ≤ R.cells ∧ MS ≤ R.slots) {G : Nat → pK} {C : Nat → List Value → List pI → pK} {Rr : Option Value → pK}
    (hG : ∀ (b' t kc ks : Nat) (ls st : List Value) (h : pHp), (p_pcs y)[b']? = some t → G b' kc ks ls st h → zW p l e R s m args below meth c QW D ca B ro y MC MS t kc ks ls st h)
    (hC : ∀ (z pc kc ks : Nat) (vs ls st : List Value) (rest : List pI) (h : pHp), z < p_nM → p_mthP z → p_okb y (pc + 3) rest = true → C z vs rest kc ks ls st h → ∃ (d' kc' ks' : Nat) (Q' : Option Value → pHp → Prop), kc' ≤ kc ∧ ks' ≤ ks ∧ d' + 1 + 1 ≤ R.frames ∧ 100 * (d' + 1 + 1) ≤ R.locals ∧ Met l (p_mi z).1 (p_wy z) (p_rm d' kc' ks') (p_Pc D ca B ro vs h) (p_Qc D ca B ro Q' h kc') kc' ks' (p_A B) ∧ ∀ v h', Q' v h' → zW p l e R s m args below meth c QW D ca B ro y MC MS (pc + 3) (kc - kc') (ks - ks') ls (v.toList ++ st) h')
    (hRr : ∀ (v : Option Value) (pc kc ks : Nat) (ls st : List Value) (h : pHp) (i : Instr), Rr v kc ks ls st h → p_reti y i v → decode (p_mi y).2.1 pc = .ok (i, 1) → zW p l e R s m args below meth c QW D ca B ro y MC MS pc kc ks ls v.toList h) :
    ∀ (b : List pI) (pc kc ks : Nat) (ls st : List Value) (h : pHp), p_okb y pc b = true → p_blk p_cn p_clc G C Rr b kc ks ls st h → zW p l e R s m args below meth c QW D ca B ro y MC MS pc kc ks ls st h := by
  have hx := X.1
  have hb := X.2.1
  have hown := X.2.2.2.1
  have hts := X.2.2.2.2.1
  have hBs := X.2.2.2.2.2.2.2.2
  intro b
  induction b with
  | nil => intro pc kc ks ls st h _ hst; exact hst.elim
  | cons q rest ih =>
    intro pc kc ks ls st h hokb hst
    obtain ⟨i, len, ex⟩ := q
    unfold p_okb at hokb
    by_cases hlen : len = 0
    · rw [if_pos hlen] at hokb
      simp only [Bool.and_eq_true, decide_eq_true_eq] at hokb
      obtain ⟨rfl, hb2⟩ := hokb
      unfold p_blk at hst
      dsimp only at hst
      split at hst
      · exact hG _ pc _ _ _ _ _ (of_decide_eq_true hb2) hst
      · exact hst.elim
    · rw [if_neg hlen] at hokb
      simp only [Bool.and_eq_true] at hokb
      obtain ⟨⟨hdec, hokx⟩, hrest⟩ := hokb
      have hd : decode (p_mi y).2.1 pc = .ok (i, len) := by
        split at hdec
        · rename_i j n hj
          simp only [Bool.and_eq_true, decide_eq_true_eq] at hdec
          rw [hj, hdec.1, hdec.2]
        · cases hdec
      have hgo : ∀ (kc ks : Nat) (ls st : List Value) (h : pHp), p_blk p_cn p_clc G C Rr rest kc ks ls st h → zW p l e R s m args below meth c QW D ca B ro y MC MS (pc + len) kc ks ls st h := fun kc ks ls st h H => ih (pc + len) kc ks ls st h hrest H
      /- a call: what comes back goes on -/
      have hback : ∀ (z kc' ks' : Nat) (Q' : Option Value → pHp → Prop) (ls st' : List Value) (H : Heap) (locs : List Loc) (lsA : Array Slot) (cells slots : Nat) (st0 : List Value) (a : Array Value), len = 3 → kc' ≤ kc → ks' ≤ ks → cells + kc = MC → slots + ks = MS → s.heap.size + cells = B + ((p_X h).length - 32) → 32 ≤ (p_X h).length → va_S (p_A B) s.heap H locs → lv_has lsA (p_mi y).2.2.1 (p_as B ro 0 ls) →
          va_Run p l e R s m args below meth c H locs cells slots kc' ks' (F0 m pc lsA st0) (st'.map (p_pv B ro)) (p_Qc D ca B ro Q' h kc' a) (p_A B) → (∀ v h', Q' v h' → zW p l e R s m args below meth c QW D ca B ro y MC MS (pc + 3) (kc - kc') (ks - ks') ls (v.toList ++ st') h') → W p l e R s m args below meth c H locs cells slots QW (F0 m pc lsA st0) := by
        intro z kc' ks' Q' ls st' H locs lsA cells slots st0 a hl3 g1 g2 a1 a2 a3 a4 hS hl hrun hcont
        refine z_back (kc := kc') (ks := ks') (Q := Q') (rest := st'.map (p_pv B ro)) hBs hrun hS (fun v h' H1 locs1 hQ' hP1 hX1 hRO1 hS1 => ?_)
        have := hcont v h' hQ' H1 locs1 lsA (cells + kc') (slots + ks') (by omega) (by omega) (by omega) (by omega) hRO1 hP1 hS1 hl
        rw [List.map_append, show (v.toList.map (p_pv B ro)) = (v.map (p_pv B ro)).toList by cases v <;> rfl] at this
        exact this
      have hpre : ∀ (vs : List Value) (H : Heap) (locs : List Loc) (cells : Nat), s.heap.size + cells = B + ((p_X h).length - 32) → 32 ≤ (p_X h).length → p_RO B ro h s → va_P D pm_cl (p_ws ca B ro h) H → va_S (p_A B) s.heap H locs → H.size = B + ((p_X h).length - 32) → ∀ U : State, U.heap = H → s.WarmedH U.vm → p_Pc D ca B ro vs h (vs.map (p_pv B ro)).toArray U := by
        intro vs H locs cells a3 a4 a5 hP hS hsz U hU hW
        exact ⟨rfl, by rw [hU]; exact hsz, a4, va_K.moved hW.alike X.2.2.2.2.2.1, p_EX_warm hW X.2.2.2.2.2.2.1, p_RO_move hW.alike (fun q h1 h2 => by rw [hU]; exact hS.2.1 q h1 h2) a5, by rw [hU]; exact hP⟩
      have hsize : ∀ (H : Heap) (locs : List Loc) (cells : Nat), s.heap.size + cells = B + ((p_X h).length - 32) → 32 ≤ (p_X h).length → va_P D pm_cl (p_ws ca B ro h) H → va_S (p_A B) s.heap H locs → H.size ≤ s.heap.size + cells → H.size = B + ((p_X h).length - 32) := by
        intro H locs cells a3 a4 hP hS hsz
        by_cases h0 : (p_X h).length = 32
        · have := hS.1
          omega
        · have hg := p_ws_get (ca := ca) (B := B) (ro := ro) (h := h) (a := (p_X h).length - 1) (by omega) (by omega)
          have h1 : p_ph B ro ((p_X h).length - 1) < H.size := (hP _ _ hg).lt
          rw [p_ph_hi (by omega)] at h1
          omega
      cases i
      case nop => cases hokx
      case goto off =>
        unfold p_blk at hst
        dsimp only at hst
        split at hst
        · simp only [p_okx, Bool.and_eq_true, decide_eq_true_eq] at hokx
          obtain ⟨rfl, hok⟩ := hokx
          obtain ⟨t, ht, htt⟩ := p_tg_ok hok
          exact fun H locs lsA cells slots a1 a2 a3 a4 a5 hP hS hl => lv_goto hx hb hd htt (hG _ t _ _ _ _ _ ht hst H locs lsA cells slots a1 a2 a3 a4 a5 hP hS hl)
        · exact hst.elim
      case if_icmp cd off =>
        unfold p_blk at hst
        dsimp only at hst
        split at hst
        · simp only [p_okx, Bool.and_eq_true, decide_eq_true_eq] at hokx
          obtain ⟨rfl, hok⟩ := hokx
          obtain ⟨t, ht, htt⟩ := p_tg_ok hok
          cases cd
          · exact fun H locs lsA cells slots a1 a2 a3 a4 a5 hP hS hl => lv_icmp_eq hx hb hd htt (fun q => hG _ t _ _ _ _ _ ht (hst.1 q) H locs lsA cells slots a1 a2 a3 a4 a5 hP hS hl) (fun q => hgo _ _ _ _ _ (hst.2 q) H locs lsA cells slots a1 a2 a3 a4 a5 hP hS hl)
          · exact fun H locs lsA cells slots a1 a2 a3 a4 a5 hP hS hl => lv_icmp_ne hx hb hd htt (fun q => hG _ t _ _ _ _ _ ht (hst.1 q) H locs lsA cells slots a1 a2 a3 a4 a5 hP hS hl) (fun q => hgo _ _ _ _ _ (hst.2 q) H locs lsA cells slots a1 a2 a3 a4 a5 hP hS hl)
          · exact fun H locs lsA cells slots a1 a2 a3 a4 a5 hP hS hl => lv_icmp_lt hx hb hd htt (fun q => hG _ t _ _ _ _ _ ht (hst.1 q) H locs lsA cells slots a1 a2 a3 a4 a5 hP hS hl) (fun q => hgo _ _ _ _ _ (hst.2 q) H locs lsA cells slots a1 a2 a3 a4 a5 hP hS hl)
          · exact fun H locs lsA cells slots a1 a2 a3 a4 a5 hP hS hl => lv_icmp_ge hx hb hd htt (fun q => hG _ t _ _ _ _ _ ht (hst.1 q) H locs lsA cells slots a1 a2 a3 a4 a5 hP hS hl) (fun q => hgo _ _ _ _ _ (hst.2 q) H locs lsA cells slots a1 a2 a3 a4 a5 hP hS hl)
          · exact fun H locs lsA cells slots a1 a2 a3 a4 a5 hP hS hl => lv_icmp_gt hx hb hd htt (fun q => hG _ t _ _ _ _ _ ht (hst.1 q) H locs lsA cells slots a1 a2 a3 a4 a5 hP hS hl) (fun q => hgo _ _ _ _ _ (hst.2 q) H locs lsA cells slots a1 a2 a3 a4 a5 hP hS hl)
          · exact fun H locs lsA cells slots a1 a2 a3 a4 a5 hP hS hl => lv_icmp_le hx hb hd htt (fun q => hG _ t _ _ _ _ _ ht (hst.1 q) H locs lsA cells slots a1 a2 a3 a4 a5 hP hS hl) (fun q => hgo _ _ _ _ _ (hst.2 q) H locs lsA cells slots a1 a2 a3 a4 a5 hP hS hl)
        · exact hst.elim
      case ifCond cd off =>
        unfold p_blk at hst
        dsimp only at hst
        split at hst
        · simp only [p_okx, Bool.and_eq_true, decide_eq_true_eq] at hokx
          obtain ⟨rfl, hok⟩ := hokx
          obtain ⟨t, ht, htt⟩ := p_tg_ok hok
          cases cd
          · exact fun H locs lsA cells slots a1 a2 a3 a4 a5 hP hS hl => lv_if_eq hx hb hd htt (fun q => hG _ t _ _ _ _ _ ht (hst.1 q) H locs lsA cells slots a1 a2 a3 a4 a5 hP hS hl) (fun q => hgo _ _ _ _ _ (hst.2 q) H locs lsA cells slots a1 a2 a3 a4 a5 hP hS hl)
          · exact fun H locs lsA cells slots a1 a2 a3 a4 a5 hP hS hl => lv_if_ne hx hb hd htt (fun q => hG _ t _ _ _ _ _ ht (hst.1 q) H locs lsA cells slots a1 a2 a3 a4 a5 hP hS hl) (fun q => hgo _ _ _ _ _ (hst.2 q) H locs lsA cells slots a1 a2 a3 a4 a5 hP hS hl)
          · exact fun H locs lsA cells slots a1 a2 a3 a4 a5 hP hS hl => lv_if_lt hx hb hd htt (fun q => hG _ t _ _ _ _ _ ht (hst.1 q) H locs lsA cells slots a1 a2 a3 a4 a5 hP hS hl) (fun q => hgo _ _ _ _ _ (hst.2 q) H locs lsA cells slots a1 a2 a3 a4 a5 hP hS hl)
          · exact fun H locs lsA cells slots a1 a2 a3 a4 a5 hP hS hl => lv_if_ge hx hb hd htt (fun q => hG _ t _ _ _ _ _ ht (hst.1 q) H locs lsA cells slots a1 a2 a3 a4 a5 hP hS hl) (fun q => hgo _ _ _ _ _ (hst.2 q) H locs lsA cells slots a1 a2 a3 a4 a5 hP hS hl)
          · exact fun H locs lsA cells slots a1 a2 a3 a4 a5 hP hS hl => lv_if_gt hx hb hd htt (fun q => hG _ t _ _ _ _ _ ht (hst.1 q) H locs lsA cells slots a1 a2 a3 a4 a5 hP hS hl) (fun q => hgo _ _ _ _ _ (hst.2 q) H locs lsA cells slots a1 a2 a3 a4 a5 hP hS hl)
          · exact fun H locs lsA cells slots a1 a2 a3 a4 a5 hP hS hl => lv_if_le hx hb hd htt (fun q => hG _ t _ _ _ _ _ ht (hst.1 q) H locs lsA cells slots a1 a2 a3 a4 a5 hP hS hl) (fun q => hgo _ _ _ _ _ (hst.2 q) H locs lsA cells slots a1 a2 a3 a4 a5 hP hS hl)
        · exact hst.elim
      case ifnonnull off =>
        unfold p_blk at hst
        dsimp only at hst
        split at hst
        · simp only [p_okx, Bool.and_eq_true, decide_eq_true_eq] at hokx
          obtain ⟨rfl, hok⟩ := hokx
          obtain ⟨t, ht, htt⟩ := p_tg_ok hok
          exact fun H locs lsA cells slots a1 a2 a3 a4 a5 hP hS hl => lv_ifnonnull hx hb hd htt (hG _ t _ _ _ _ _ ht hst H locs lsA cells slots a1 a2 a3 a4 a5 hP hS hl)
        · simp only [p_okx, Bool.and_eq_true, decide_eq_true_eq] at hokx
          obtain ⟨rfl, hok⟩ := hokx
          exact fun H locs lsA cells slots a1 a2 a3 a4 a5 hP hS hl => lv_ifnonnullN hx hb hd (hgo _ _ _ _ _ hst H locs lsA cells slots a1 a2 a3 a4 a5 hP hS hl)
        · exact hst.elim
      case ifnull off =>
        unfold p_blk at hst
        dsimp only at hst
        split at hst
        · simp only [p_okx, Bool.and_eq_true, decide_eq_true_eq] at hokx
          obtain ⟨rfl, hok⟩ := hokx
          exact fun H locs lsA cells slots a1 a2 a3 a4 a5 hP hS hl => lv_ifnull hx hb hd (hgo _ _ _ _ _ hst H locs lsA cells slots a1 a2 a3 a4 a5 hP hS hl)
        · simp only [p_okx, Bool.and_eq_true, decide_eq_true_eq] at hokx
          obtain ⟨rfl, hok⟩ := hokx
          obtain ⟨t, ht, htt⟩ := p_tg_ok hok
          exact fun H locs lsA cells slots a1 a2 a3 a4 a5 hP hS hl => lv_ifnullN hx hb hd htt (hG _ t _ _ _ _ _ ht hst H locs lsA cells slots a1 a2 a3 a4 a5 hP hS hl)
        · exact hst.elim
      case tableswitch dd lo hi offs =>
        unfold p_blk at hst
        dsimp only at hst
        split at hst
        · rename_i b0 bs x r
          simp only [p_okx, Bool.and_eq_true, decide_eq_true_eq] at hokx
          obtain ⟨⟨h1, h2⟩, h3⟩ := hokx
          intro H locs lsA cells slots a1 a2 a3 a4 a5 hP hS hl
          by_cases hout : x.toInt < lo ∨ hi < x.toInt
          · obtain ⟨t, ht, htt⟩ := p_tg_ok h1
            exact lv_tableOut hx hb hd hout htt (hG _ t _ _ _ _ _ ht (hst.1 hout) H locs lsA cells slots a1 a2 a3 a4 a5 hP hS hl)
          · obtain ⟨b1, o, t, g1, g2, g3, g4⟩ := p_sw_get bs offs.toList lo hst.2 h2 (x.toInt - lo).toNat (by omega) (by omega)
            exact lv_tableIn hx hb hd (fun q => hout (Or.inl q)) (fun q => hout (Or.inr q)) (by rw [← Array.getElem?_toList]; exact g1) g3 (hG _ t _ _ _ _ _ g2 g4 H locs lsA cells slots a1 a2 a3 a4 a5 hP hS hl)
        · exact hst.elim
      case ireturn =>
        unfold p_blk at hst
        dsimp only at hst
        split at hst
        · simp only [p_okx, Bool.and_eq_true, decide_eq_true_eq] at hokx
          obtain ⟨rfl, hrt⟩ := hokx
          exact hRr (some (.int _)) pc kc ks ls [] h _ hst (Or.inr (Or.inl ⟨_, _, rfl, rfl, hrt, rfl⟩)) hd
        · simp only [p_okx, Bool.and_eq_true, decide_eq_true_eq] at hokx
          obtain ⟨rfl, hrt⟩ := hokx
          obtain ⟨h01, hst⟩ := hst
          exact hRr (some (.int _)) pc kc ks ls [] h _ hst (Or.inr (Or.inl ⟨_, _, rfl, rfl, hrt, by rcases h01 with rfl | rfl <;> rfl⟩)) hd
        · simp only [p_okx, Bool.and_eq_true, decide_eq_true_eq] at hokx
          obtain ⟨rfl, hrt⟩ := hokx
          exact hRr (some (.int _)) pc kc ks ls [] h _ hst.2 (Or.inr (Or.inl ⟨_, _, rfl, rfl, hrt, hst.1⟩)) hd
        · simp only [p_okx, Bool.and_eq_true, decide_eq_true_eq] at hokx
          obtain ⟨rfl, hrt⟩ := hokx
          exact hRr (some (.int _)) pc kc ks ls [] h _ hst.2 (Or.inr (Or.inl ⟨_, _, rfl, rfl, hrt, hst.1⟩)) hd
        · exact hst.elim
      case lreturn =>
        unfold p_blk at hst
        dsimp only at hst
        split at hst
        · simp only [p_okx, Bool.and_eq_true, decide_eq_true_eq] at hokx
          obtain ⟨rfl, hrt⟩ := hokx
          exact hRr (some (.long _)) pc kc ks ls [] h _ hst (Or.inr (Or.inr (Or.inl ⟨_, rfl, rfl, hrt⟩))) hd
        · exact hst.elim
      case areturn =>
        unfold p_blk at hst
        dsimp only at hst
        simp only [p_okx, Bool.and_eq_true, decide_eq_true_eq] at hokx
        obtain ⟨rfl, hrt⟩ := hokx
        have hrt2 : ∃ n, (p_mi y).2.2.2 = some (.object n) := by
          split at hrt
          · rename_i n hn; exact ⟨n, hn⟩
          · cases hrt
        obtain ⟨n, hrt2⟩ := hrt2
        split at hst
        · exact hRr (some (.ref _)) pc kc ks ls [] h _ hst (Or.inr (Or.inr (Or.inr ⟨_, n, ⟨rfl, Or.inr ⟨_, rfl⟩⟩, rfl, hrt2⟩))) hd
        · exact hRr (some .null) pc kc ks ls [] h _ hst (Or.inr (Or.inr (Or.inr ⟨_, n, ⟨rfl, Or.inl rfl⟩, rfl, hrt2⟩))) hd
        · exact hst.elim
      case return_ =>
        unfold p_blk at hst
        dsimp only at hst
        split at hst
        · simp only [p_okx, Bool.and_eq_true, decide_eq_true_eq] at hokx
          obtain ⟨rfl, hrt⟩ := hokx
          exact hRr none pc kc ks ls [] h _ hst (Or.inl ⟨rfl, rfl, hrt⟩) hd
        · exact hst.elim
      case new j =>
        unfold p_blk at hst
        dsimp only at hst
        split at hst
        · rename_i q0 cc n kc'
          simp only [p_okx, Bool.and_eq_true, decide_eq_true_eq] at hokx
          obtain ⟨rfl, ⟨hq, hn⟩, hcc⟩ := hokx
          exact fun H locs lsA cells slots a1 a2 a3 a4 a5 hP hS hl => z_newO X hP hS a3 a4 hq hn hcc (by omega) (by omega) hd (fun H1 hP1 hS1 => hgo _ _ _ _ _ hst.2 H1 locs lsA (cells + 1) (slots + n) (by omega) (by omega) (by rw [show (p_X (p_new h (0, cc))).length = (p_X h).length + 1 from List.length_append]; omega) (by rw [show (p_X (p_new h (0, cc))).length = (p_X h).length + 1 from List.length_append]; omega) (p_RO_plane a5 (fun b hb9 => p_fn_ne (p_ne32 a4 hb9)) (fun b hb9 => p_fn_ne (p_ne32 a4 hb9)) (fun b hb9 => p_kd_old (Nat.lt_of_lt_of_le hb9 a4))) hP1 hS1 hl)
        · exact hst.elim
      case newarray at_ =>
        unfold p_blk at hst
        dsimp only at hst
        split at hst
        · rename_i t kc' n r
          simp only [p_okx, Bool.and_eq_true, Bool.or_eq_true, decide_eq_true_eq] at hokx
          obtain ⟨rfl, ht⟩ := hokx
          obtain ⟨g1, g2, g3, g4⟩ := hst
          exact fun H locs lsA cells slots a1 a2 a3 a4 a5 hP hS hl => z_newA X hP hS a3 a4 (by rcases ht with ((h1 | h1) | h1) | h1; exact Or.inl h1; exact Or.inr (Or.inl h1); exact Or.inr (Or.inr (Or.inl h1)); exact Or.inr (Or.inr (Or.inr h1))) g1 g2 (by omega) (by omega) hd (fun H1 hP1 hS1 => hgo _ _ _ _ _ g4 H1 locs lsA (cells + 1) (slots + n.toNatClampNeg) (by omega) (by omega) (by rw [show (p_X (p_new h (t, n.toNatClampNeg))).length = (p_X h).length + 1 from List.length_append]; omega) (by rw [show (p_X (p_new h (t, n.toNatClampNeg))).length = (p_X h).length + 1 from List.length_append]; omega) (p_RO_plane a5 (fun b hb9 => p_fn_ne (p_ne32 a4 hb9)) (fun b hb9 => p_fn_ne (p_ne32 a4 hb9)) (fun b hb9 => p_kd_old (Nat.lt_of_lt_of_le hb9 a4))) hP1 hS1 hl)
        · exact hst.elim
      case anewarray j =>
        unfold p_blk at hst
        dsimp only at hst
        split at hst
        · rename_i q0 t kc' n r
          simp only [p_okx, Bool.and_eq_true, Bool.or_eq_true, decide_eq_true_eq] at hokx
          obtain ⟨rfl, hq, ht⟩ := hokx
          obtain ⟨g1, g2, g3, g4⟩ := hst
          exact fun H locs lsA cells slots a1 a2 a3 a4 a5 hP hS hl => z_newQ X hP hS a3 a4 hq ht g1 g2 (by omega) (by omega) hd (fun H1 hP1 hS1 => hgo _ _ _ _ _ g4 H1 locs lsA (cells + 1) (slots + n.toNatClampNeg) (by omega) (by omega) (by rw [show (p_X (p_new h (t, n.toNatClampNeg))).length = (p_X h).length + 1 from List.length_append]; omega) (by rw [show (p_X (p_new h (t, n.toNatClampNeg))).length = (p_X h).length + 1 from List.length_append]; omega) (p_RO_plane a5 (fun b hb9 => p_fn_ne (p_ne32 a4 hb9)) (fun b hb9 => p_fn_ne (p_ne32 a4 hb9)) (fun b hb9 => p_kd_old (Nat.lt_of_lt_of_le hb9 a4))) hP1 hS1 hl)
        · exact hst.elim
      case invokevirtual j =>
        unfold p_blk at hst
        dsimp only at hst
        split at hst
        · rename_i q0 z n k0
          simp only [p_okx, Bool.and_eq_true, decide_eq_true_eq] at hokx
          obtain ⟨rfl, ⟨⟨⟨⟨hq, hz⟩, hpar⟩, hk10⟩, hcls⟩⟩ := hokx
          split at hst
          · rename_i a vs st' hpop
            obtain ⟨hkd, hcat, hCc⟩ := hst
            obtain ⟨hst1, hst2⟩ := p_pop_ok _ _ _ _ _ hpop
            rw [List.reverse_nil, List.nil_append] at hst1
            obtain ⟨hpl, hlk⟩ := p_mlz hq hz
            obtain ⟨hlk1, hlk2, hlk3⟩ : Cond.methodLink (p_mi y).1.cls j (p_mi z).1 ∈ p_tb ∧ Cond.instanceMethod (p_mi z).1 ∈ p_tb ∧ Cond.selects (p_mi z).1.cls (p_mi z).1 (p_mi z).1 ∈ p_tb := by
              rcases hlk with ⟨-, e2⟩ | ⟨e2, -⟩ | ⟨e2, -⟩ | ⟨e2, -⟩
              · exact e2
              · cases e2
              · cases e2
              · cases e2
            obtain ⟨d', kc', ks', Q', hkc, hks, hf, hlo, hM, hcont⟩ := hC z pc kc ks _ ls st' rest h hz hpl hrest hCc
            intro H locs lsA cells slots a1 a2 a3 a4 a5 hP hS hl
            refine W_size (fun hsz => ?_)
            have hH := hsize H locs cells a3 a4 hP hS hsz
            have hrecv : ∃ cellB : Cell, H[p_ph B ro a]? = some cellB ∧ cellB.vm.isStatics = false ∧ s.vm.findClass (p_mi z).1.cls = some cellB.cls := by
              rw [hcls]
              by_cases ha : 32 ≤ (a : Nat)
              · obtain ⟨r, hr, he⟩ := z_obj hP hkd ha
                unfold p_cn2
                rw [hr]
                exact va_recv X.2.2.2.2.2.1 hP hr he
              · obtain ⟨rfl, hO, -⟩ := a5.2.2.1 a k0 (Nat.lt_of_not_le ha) hkd
                have e10 : p_ph B ro a = ro a := p_ph_lo (Nat.lt_of_not_le ha)
                rw [e10]
                exact va_Orecv hO hS
            have hstk : st.map (p_pv B ro) = (vs.map (p_pv B ro)).reverse ++ .ref (p_ph B ro a) :: st'.map (p_pv B ro) := by
              rw [← hst1]
              simp [p_pv]
            have hnar : (parseMethodDescriptor (p_mi z).1.desc).map (fun d => d.parameters.length) = some vs.length := by
              cases n with
              | zero => cases hpar
              | succ n' =>
                rw [p_parN hpar]
                have h2 : vs.length + 1 = n' + 1 + 0 := hst2
                exact congrArg some (by omega)
            refine hback z kc' ks' Q' ls st' H locs lsA cells slots _ _ rfl hkc hks a1 a2 a3 a4 hS hl (va_runV (As := vs.map (p_pv B ro)) (rest := st'.map (p_pv B ro)) (C := (p_mi z).1.cls) (bytes := (p_mi z).2.1) (maxL := (p_mi z).2.2.1) (ret := (p_mi z).2.2.2) (Ts := p_tb) (nL := (p_mi y).2.2.1) ⟨hx, hb, X.2.2.1, hown, hts⟩ hM (cwV vs.length hts (p_gi (fun w hw => ?_)) rfl rfl rfl ⟨rfl, hpl.2.2.2.2.1, hpl.2.2.2.2.2, hnar⟩ ⟨hf, ?_⟩) ⟨p_blind, hrecv, hpre (.ref a :: vs) H locs cells a3 a4 a5 hP hS hH⟩ rfl (by rw [List.length_map]) hl.1 hstk (lv_room (by rw [p_pvs_cat]; exact hcat)) hd ⟨?_, ?_⟩) hcont
            · simp only [wsV, List.mem_append, List.mem_cons, List.not_mem_nil, or_false] at hw
              rcases hw with (rfl | rfl | rfl | rfl) | hw
              · exact hlk1
              · exact hlk2
              · exact hlk3
              · exact hpl.2.1
              · rcases List.mem_cons.mp hw with rfl | hw
                · exact hpl.2.2.1
                · exact hw
            · show 8 + ((p_mi z).2.2.1 + 11) + 100 * (d' + 1) ≤ R.locals
              have : (p_mi z).2.2.1 ≤ 24 := hpl.2.2.2.1
              omega
            · have := hR1.2.2.1
              omega
            · have := hR1.2.2.2
              omega
          · exact hst.elim
        · exact hst.elim
      case invokestatic j =>
        unfold p_blk at hst
        dsimp only at hst
        split at hst
        · exact z_one X hR1 hd hokx (fun ls st h H => hgo kc ks ls st h H) hst
        · exact z_one X hR1 hd hokx (fun ls st h H => hgo kc ks ls st h H) hst
        · exact z_one X hR1 hd hokx (fun ls st h H => hgo kc ks ls st h H) hst
        · rename_i q0 z n k0 hz8 hz7 hz6
          split at hst
          · rename_i vs st' hpop
            have hokx2 : len = 3 ∧ (p_ml[q0]? = some ((p_mi y).1.cls, j, z, 1) ∧ z < p_nM) ∧ p_par z n = true := by
              unfold p_okx at hokx
              simpa only [Bool.and_eq_true, decide_eq_true_eq] using hokx
            obtain ⟨rfl, ⟨hq, hz⟩, hpar⟩ := hokx2
            obtain ⟨hcat, hCc⟩ := hst
            obtain ⟨hst1, hst2⟩ := p_pop_ok _ _ _ _ _ hpop
            rw [List.reverse_nil, List.nil_append] at hst1
            obtain ⟨hpl, hlk⟩ := p_mlz hq hz
            obtain ⟨hlk1, hlk2⟩ : Cond.methodLink (p_mi y).1.cls j (p_mi z).1 ∈ p_tb ∧ Cond.static (p_mi z).1 ∈ p_tb := by
              rcases hlk with ⟨e2, -⟩ | ⟨-, e2⟩ | ⟨e2, -⟩ | ⟨e2, -⟩
              · cases e2
              · exact e2
              · cases e2
              · cases e2
            obtain ⟨d', kc', ks', Q', hkc, hks, hf, hlo, hM, hcont⟩ := hC z pc kc ks _ ls st' rest h hz hpl hrest hCc
            intro H locs lsA cells slots a1 a2 a3 a4 a5 hP hS hl
            refine W_size (fun hsz => ?_)
            have hH := hsize H locs cells a3 a4 hP hS hsz
            have hstk : st.map (p_pv B ro) = (vs.map (p_pv B ro)).reverse ++ st'.map (p_pv B ro) := by
              rw [← hst1]
              simp
            have hnar : (parseMethodDescriptor (p_mi z).1.desc).map (fun d => d.parameters.length) = some vs.length := by
              rw [p_parN hpar]
              have h2 : vs.length = n + 0 := hst2
              exact congrArg some (by omega)
            refine hback z kc' ks' Q' ls st' H locs lsA cells slots _ _ rfl hkc hks a1 a2 a3 a4 hS hl (va_runS (As := vs.map (p_pv B ro)) (rest := st'.map (p_pv B ro)) (bytes := (p_mi z).2.1) (maxL := (p_mi z).2.2.1) (ret := (p_mi z).2.2.2) (Ts := p_tb) (nL := (p_mi y).2.2.1) ⟨hx, hb, X.2.2.1, hown, hts⟩ hM (va_cwS vs.length hts (p_gi (fun w hw => ?_)) rfl rfl rfl ⟨hpl.2.2.2.2.1, hpl.2.2.2.2.2, hnar⟩ ⟨hf, ?_⟩) ⟨p_blind, hpre vs H locs cells a3 a4 a5 hP hS hH⟩ rfl (by rw [List.length_map]) hl.1 hstk (lv_room (by rw [p_pvs_cat]; exact hcat)) hd ⟨?_, ?_⟩) hcont
            · simp only [va_wsS, List.mem_append, List.mem_cons, List.not_mem_nil, or_false] at hw
              rcases hw with (rfl | rfl | rfl) | hw
              · exact hlk1
              · exact hlk2
              · exact hpl.2.1
              · rcases List.mem_cons.mp hw with rfl | hw
                · exact hpl.2.2.1
                · exact hw
            · show 8 + ((p_mi z).2.2.1 + 11) + 100 * (d' + 1) ≤ R.locals
              have : (p_mi z).2.2.1 ≤ 24 := hpl.2.2.2.1
              omega
            · have := hR1.2.2.1
              omega
            · have := hR1.2.2.2
              omega
          · exact hst.elim
        · exact hst.elim
      case invokespecial j =>
        unfold p_blk at hst
        dsimp only at hst
        split at hst
        · exact z_one X hR1 hd hokx (fun ls st h H => hgo kc ks ls st h H) hst
        · rename_i q0 z n k0 hz9
          split at hst
          · rename_i a vs st' hpop
            have hokx2 := hokx
            unfold p_okx at hokx2
            simp only [Bool.and_eq_true, Bool.or_eq_true, decide_eq_true_eq] at hokx2
            obtain ⟨rfl, ⟨hq, hz⟩, hpar⟩ := hokx2
            obtain ⟨hcat, hCc⟩ := hst
            obtain ⟨hst1, hst2⟩ := p_pop_ok _ _ _ _ _ hpop
            rw [List.reverse_nil, List.nil_append] at hst1
            have hnar : (parseMethodDescriptor (p_mi z).1.desc).map (fun d => d.parameters.length) = some vs.length := by
              cases n with
              | zero => cases hpar
              | succ n' =>
                rw [p_parN hpar]
                have h2 : vs.length + 1 = n' + 1 + 0 := hst2
                exact congrArg some (by omega)
            have hstk : st.map (p_pv B ro) = (vs.map (p_pv B ro)).reverse ++ .ref (p_ph B ro a) :: st'.map (p_pv B ro) := by
              rw [← hst1]
              simp [p_pv]
            rcases hq with hq | hq
            · obtain ⟨hpl, hlk⟩ := p_mlz hq hz
              obtain ⟨hlk1, hlk2, hlk3, hlk4⟩ : Cond.methodLink (p_mi y).1.cls j (p_mi z).1 ∈ p_tb ∧ Cond.instanceMethod (p_mi z).1 ∈ p_tb ∧ (p_mi z).1.name = "<init>" ∧ (p_mi z).2.2.2 = none := by
                rcases hlk with ⟨e2, -⟩ | ⟨e2, -⟩ | ⟨-, e2⟩ | ⟨e2, -⟩
                · cases e2
                · cases e2
                · exact e2
                · cases e2
              obtain ⟨d', kc', ks', Q', hkc, hks, hf, hlo, hM, hcont⟩ := hC z pc kc ks _ ls st' rest h hz hpl hrest hCc
              intro H locs lsA cells slots a1 a2 a3 a4 a5 hP hS hl
              refine W_size (fun hsz => ?_)
              have hH := hsize H locs cells a3 a4 hP hS hsz
              refine hback z kc' ks' Q' ls st' H locs lsA cells slots _ _ rfl hkc hks a1 a2 a3 a4 hS hl (va_runI (As := vs.map (p_pv B ro)) (rest := st'.map (p_pv B ro)) (bytes := (p_mi z).2.1) (maxL := (p_mi z).2.2.1) (Ts := p_tb) (nL := (p_mi y).2.2.1) ⟨hx, hb, X.2.2.1, hown, hts⟩ hM (cwI vs.length hts (p_gi (fun w hw => ?_)) (by rw [← hlk4]; rfl) rfl rfl (hts _ hpl.2.1) (hts _ hlk1) (hts _ hlk2) hlk3 ⟨hpl.2.2.2.2.1, hpl.2.2.2.2.2, hnar⟩ ⟨hf, ?_⟩) ⟨p_blind, hpre (.ref a :: vs) H locs cells a3 a4 a5 hP hS hH⟩ rfl (by rw [List.length_map]) hl.1 hstk (lv_room (by rw [p_pvs_cat]; exact hcat)) hd ⟨?_, ?_⟩) hcont
              · rcases List.mem_cons.mp hw with rfl | hw
                · exact hpl.2.2.1
                · exact hw
              · show 8 + ((p_mi z).2.2.1 + 11) + 100 * (d' + 1) ≤ R.locals
                have : (p_mi z).2.2.1 ≤ 24 := hpl.2.2.2.1
                omega
              · have := hR1.2.2.1
                omega
              · have := hR1.2.2.2
                omega
            · obtain ⟨hpl, hlk⟩ := p_mlz hq hz
              obtain ⟨hlk1, hlk2, hlk3, hlk4⟩ : Cond.methodLinkNest (p_mi y).1.cls j (p_mi z).1 "HutAnswers" ∈ lw_tbl ∧ Cond.instanceMethod (p_mi z).1 ∈ p_tb ∧ (p_mi z).1.name = "<init>" ∧ (p_mi z).2.2.2 = none := by
                rcases hlk with ⟨e2, -⟩ | ⟨e2, -⟩ | ⟨e2, -⟩ | ⟨-, e2⟩
                · cases e2
                · cases e2
                · cases e2
                · exact e2
              obtain ⟨d', kc', ks', Q', hkc, hks, hf, hlo, hM, hcont⟩ := hC z pc kc ks _ ls st' rest h hz hpl hrest hCc
              intro H locs lsA cells slots a1 a2 a3 a4 a5 hP hS hl
              refine W_size (fun hsz => ?_)
              have hH := hsize H locs cells a3 a4 hP hS hsz
              refine hback z kc' ks' Q' ls st' H locs lsA cells slots _ _ rfl hkc hks a1 a2 a3 a4 hS hl (va_runIN (As := vs.map (p_pv B ro)) (rest := st'.map (p_pv B ro)) (bytes := (p_mi z).2.1) (maxL := (p_mi z).2.2.1) (Ts := p_tb) (nL := (p_mi y).2.2.1) ⟨hx, hb, X.2.2.1, hown, hts⟩ hM ⟨va_cnB vs.length hts (p_gi (fun w hw => ?_)) (by rw [← hlk4]; rfl) rfl rfl (X.2.2.2.2.2.2.1.2.1 _ _ _ hlk1) (hts _ hpl.2.1) ⟨hpl.2.2.2.2.1, hpl.2.2.2.2.2, hnar⟩ ⟨hf, ?_⟩, hlk3, hts _ hlk2⟩ ⟨p_blind, hpre (.ref a :: vs) H locs cells a3 a4 a5 hP hS hH⟩ rfl (by rw [List.length_map]) hl.1 hstk (lv_room (by rw [p_pvs_cat]; exact hcat)) hd ⟨?_, ?_⟩) hcont
              · rcases List.mem_cons.mp hw with rfl | hw
                · exact hpl.2.2.1
                · exact hw
              · show 8 + ((p_mi z).2.2.1 + 11) + 100 * (d' + 1) ≤ R.locals
                have : (p_mi z).2.2.1 ≤ 24 := hpl.2.2.2.1
                omega
              · have := hR1.2.2.1
                omega
              · have := hR1.2.2.2
                omega
          · exact hst.elim
        · exact hst.elim
      all_goals exact z_one X hR1 hd hokx (fun ls st h H => hgo kc ks ls st h H) hst
end ZS
theorem p_close : ∀ (d y : Nat) (b : List pI) (kc ks : Nat) (ls st : List Value) (h : pHp) (Q : Option Value → pHp → Prop), p_stp p_cn p_clc p_bk p_mx p_Z d y b kc ks ls st h Q → p_Z d y b kc ks ls st h Q := by
  intro d y b kc ks ls st h Q hst pc hokb hokP p l e R s m args below meth c QW D ca B ro MC MS X hR hfin
  refine z_blk X ⟨by omega, by omega, hR.2.2.1, hR.2.2.2⟩ (fun b' t kc ks ls st h ht hz => hz t (hokP.2 b' t ht) hokP p l e R s m args below meth c QW D ca B ro MC MS X hR hfin) (fun z pc kc ks vs ls st rest h hz hpl hrest hC => ?_) (fun v pc kc ks ls st h i hr hret hd H locs lsA cells slots a1 a2 a3 a4 a5 hP hS hl => ?_) b pc kc ks ls st h hokb hst
  · cases d with
    | zero => exact hC.elim
    | succ d' =>
      obtain ⟨hmx, kc', ks', Q', hkc, hks, hZ, hcont⟩ := hC
      exact ⟨d', kc', ks', Q', hkc, hks, hR.1, hR.2.1, p_met hZ (p_ok z hz) hpl.1 (Nat.le_trans hmx (p_mx_le z hz)), fun v h' hQ => hcont v h' hQ (pc + 3) hrest hokP p l e R s m args below meth c QW D ca B ro MC MS X hR hfin⟩
  · obtain ⟨rfl, rfl, hQ⟩ := hr
    obtain rfl : cells = MC := a1
    obtain rfl : slots = MS := a2
    exact hfin _ _ _ _ _ _ _ hQ hret hd a3 a4 a5 hP hS
/-- THE PURE MACHINE IS SOUND -/
theorem p_sound {d y : Nat} {b : List pI} {kc ks : Nat} {ls st : List Value} {h : pHp} {Q : Option Value → pHp → Prop} (H : P_run d y b kc ks ls st h Q) : p_Z d y b kc ks ls st h Q := p_run_ind p_close H
