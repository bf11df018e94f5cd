/-! ROWS OF THE HEAP over the world of the pure heap -/
section ZH
variable {p : Program} {l : Launch} {e : Env} {R : Room} {s : State} {m : MethodId} {args : Array Value} {below : List Frame} {meth : Method} {c : Code} {QW : State → Prop} {D : va_G} {ca : Nat → ClassId} {B : Nat} {ro : Nat → Nat} {y : Nat}
variable {H : Heap} {locs : List Loc} {cells slots : Nat} {lsA : Array Slot} {pc : Nat} {rest : List Value} {h : pHp}
theorem z_loc {ls : List Value} {nL n : Nat} {v : Value} (hl : lv_has lsA nL (p_as B ro 0 ls)) (hv : p_at ls n = v) (hn : ∀ k, v ≠ .retAddr k) : lsA[n]? = some (.val (p_pv B ro v)) := by
  have := p_as_at (B := B) (ro := ro) ls 0 n v hv hn
  rw [Nat.zero_add] at this
  exact hl.2.2 _ this
theorem z_obj (hP : va_P D pm_cl (p_ws ca B ro h) H) {a k : Nat} (hk : p_kd h a = (0, k)) (ha : 32 ≤ a) : ∃ r, pm_cl[k]? = some r ∧ (p_ws ca B ro h)[a - 32]? = some (p_ph B ro a, .inr (k, p_fs B ro h a k)) := by
  have e1 := p_ws_get (ca := ca) (B := B) (ro := ro) ha (p_kd_lt hk (by omega))
  rw [p_cell_obj hk] at e1
  obtain ⟨r, h1, -⟩ := hP _ _ e1
  exact ⟨r, h1, e1⟩
theorem z_arr {a t n : Nat} (hk : p_kd h a = (t, n)) (h0 : t ≠ 0) (h1 : t < 99) (ha : 32 ≤ a) : (p_ws ca B ro h)[a - 32]? = some (p_ph B ro a, .inl (ca t, n, p_ar B ro h a t)) := by
  have e1 := p_ws_get (ca := ca) (B := B) (ro := ro) ha (p_kd_lt hk h1)
  rw [p_cell_arr hk h0] at e1
  exact e1
theorem z_get (X : p_Cx y p s m args meth c D ca B ro) (hRO : p_RO B ro h s) (hP : va_P D pm_cl (p_ws ca B ro h) H) (hS : va_S (p_A B) s.heap H locs) {a k f j i : Nat} (hk : p_kd h a = (0, k)) (hq : p_fl[i]? = some ((p_mi y).1.cls, j, k, f)) (hd : decode (p_mi y).2.1 pc = .ok (.getfield j, 3)) {v : Value}
    (hv1 : 32 ≤ a → k < 10 → p_fv B ro h a (p_ty k f) f = v) (hv2 : a < 32 → k = 10 → f = 0 → va_rf ((p_R h a 0).map (p_ph B ro)) = v) (hv3 : a < 32 → k = 10 → f = 1 → .int (p_I h a 1) = v)
    (kk : W p l e R s m args below meth c H locs cells slots QW (F0 m (pc + 3) lsA (v :: rest))) : W p l e R s m args below meth c H locs cells slots QW (F0 m pc lsA (.ref (p_ph B ro a) :: rest)) := by
  obtain ⟨hx, hb, -, hown, hts, hK, -⟩ := X
  rcases p_fl_ok _ (List.mem_of_getElem? hq) with ⟨r, hr, hf, hw, hd1⟩ | ⟨hk10, hf⟩
  · dsimp only at hr hf hw hd1
    by_cases ha : 32 ≤ a
    · obtain ⟨r', hr', he⟩ := z_obj hP hk ha
      cases hr.symm.trans hr'
      have hk10 : k < 10 := (List.getElem?_eq_some_iff.mp hr).1
      refine va_get (C := r.1) (T := r.2.1) (N := r.2.2) (ci := k) (ref := r.1) (index := j) hx hb hts (p_cl_in hr) hown hK hP (a - 32) he hr f hf (hts _ hw) (fun x hx => by rw [hd1] at hx; exact hx) (v := v) ?_ hd kk
      rw [p_fs_get (by rw [← p_cl_N hr]; exact hf), hv1 ha hk10]
    · have h10 := (hRO.2.2.1 a k (by omega) hk).1
      subst h10
      simp [pm_cl] at hr
  · dsimp only at hk10 hf
    subst hk10
    by_cases ha : 32 ≤ a
    · obtain ⟨r', hr', -⟩ := z_obj hP hk ha
      simp [pm_cl] at hr'
    · have ha' : a < 32 := by omega
      obtain ⟨-, -, hc1, hc2⟩ := hRO.2.2.1 a 10 ha' hk
      rw [p_ph_lo ha']
      rcases hf with ⟨hf, hw⟩ | ⟨hf, hw⟩
      · subst hf
        rw [← hv2 ha' rfl rfl] at kk
        exact vk_getf hx hb hc2 hS hown (hts _ hw) (fun _ h => h) hd kk
      · subst hf
        rw [← hv3 ha' rfl rfl] at kk
        exact vk_getf hx hb hc1 hS hown (hts _ hw) (fun _ h => h) hd kk
theorem z_put (X : p_Cx y p s m args meth c D ca B ro) (hP : va_P D pm_cl (p_ws ca B ro h) H) (hS : va_S (p_A B) s.heap H locs) {a k f j i g : Nat} (hk : p_kd h a = (0, k)) (ha : 32 ≤ a) (hq : p_fl[i]? = some ((p_mi y).1.cls, j, k, f)) (hd : decode (p_mi y).2.1 pc = .ok (.putfield j, 3))
    (hg : (match pm_cl[k]? with | some r => if g = 1 then (r.2.1 f).2.2.2 && decide ((p_mi y).1.name = "<init>") && decide ((r.2.1 f).1 = (p_mi y).1.cls) else !(r.2.1 f).2.2.2 | none => false) = true)
    {v : Value} {h' : pHp} (hn : narrow (p_ty k f) v = v) (hfit : fits (p_ty k f) v = true) (hws : p_ws ca B ro h' = (p_ws ca B ro h).set (a - 32) (p_ph B ro a, .inr (k, (p_fs B ro h a k).set f v)))
    (kk : ∀ (H1 : Heap) (locs1 : List Loc), va_P D pm_cl (p_ws ca B ro h') H1 → va_S (p_A B) s.heap H1 locs1 → W p l e R s m args below meth c H1 locs1 cells slots QW (F0 m (pc + 3) lsA rest)) : W p l e R s m args below meth c H locs cells slots QW (F0 m pc lsA (v :: .ref (p_ph B ro a) :: rest)) := by
  obtain ⟨hx, hb, -, hown, hts, hK, -, hnm, -⟩ := X
  obtain ⟨r, hr, he⟩ := z_obj hP hk ha
  rcases p_fl_ok _ (List.mem_of_getElem? hq) with ⟨r', hr', hf, hw, hd1⟩ | ⟨hk10, -⟩
  · dsimp only at hr' hf hw hd1
    cases hr.symm.trans hr'
    rw [hr] at hg
    dsimp only at hg
    by_cases hg1 : g = 1
    · rw [if_pos hg1] at hg
      simp only [Bool.and_eq_true, decide_eq_true_eq] at hg
      refine va_putF (C := r.1) (T := r.2.1) (N := r.2.2) (ci := k) (ref := r.1) (index := j) (ty := p_ty k f) (v := v) hx hb hts (p_cl_in hr) (p_ty k) (p_cl_ty hr) (p_cl_nm hr) hown hK hP (p_ws_D h) hS (a - 32) he hr f hf (hts _ hw) (fun x hx => by rw [hd1] at hx; exact hx) hg.1.1 (by rcases hnm with hnm | hnm; rw [hnm]; exact hg.1.2; exact absurd hg.1.2 hnm) hg.2 (p_cl_ty hr f hf) hn hfit (by rw [p_fs_len, ← p_cl_N hr]; exact hf) hd (fun H1 locs1 hP1 _ hS1 => kk H1 locs1 (by rw [hws]; exact hP1) hS1)
    · rw [if_neg hg1] at hg
      simp only [Bool.not_eq_true'] at hg
      refine va_put (C := r.1) (T := r.2.1) (N := r.2.2) (ci := k) (ref := r.1) (index := j) (ty := p_ty k f) (v := v) hx hb hts (p_cl_in hr) (p_ty k) (p_cl_ty hr) (p_cl_nm hr) hown hK hP (p_ws_D h) hS (a - 32) he hr f hf (hts _ hw) (fun x hx => by rw [hd1] at hx; exact hx) hg (p_cl_ty hr f hf) hn hfit (by rw [p_fs_len, ← p_cl_N hr]; exact hf) hd (fun H1 locs1 hP1 _ hS1 => kk H1 locs1 (by rw [hws]; exact hP1) hS1)
  · dsimp only at hk10
    subst hk10
    simp [pm_cl] at hr
theorem z_putI (X : p_Cx y p s m args meth c D ca B ro) (hP : va_P D pm_cl (p_ws ca B ro h) H) (hS : va_S (p_A B) s.heap H locs) {a k f j i g : Nat} (hk : p_kd h a = (0, k)) (ha : 32 ≤ a) (hq : p_fl[i]? = some ((p_mi y).1.cls, j, k, f)) (hd : decode (p_mi y).2.1 pc = .ok (.putfield j, 3))
    (hg : (match pm_cl[k]? with | some r => if g = 1 then (r.2.1 f).2.2.2 && decide ((p_mi y).1.name = "<init>") && decide ((r.2.1 f).1 = (p_mi y).1.cls) else !(r.2.1 f).2.2.2 | none => false) = true)
    {x : Int32} (ht : p_ty k f = .int ∨ (p_ty k f = .boolean ∧ (x = 0 ∨ x = 1)))
    (kk : ∀ (H1 : Heap) (locs1 : List Loc), va_P D pm_cl (p_ws ca B ro (p_wI h a f x)) H1 → va_S (p_A B) s.heap H1 locs1 → W p l e R s m args below meth c H1 locs1 cells slots QW (F0 m (pc + 3) lsA rest)) : W p l e R s m args below meth c H locs cells slots QW (F0 m pc lsA (.int x :: .ref (p_ph B ro a) :: rest)) := by
  refine z_put (v := .int x) (h' := p_wI h a f x) X hP hS hk ha hq hd hg ?_ ?_ ?_ kk
  · rcases ht with e | ⟨e, h0 | h0⟩ <;> rw [e] <;> first | rfl | (subst h0; rfl)
  · rcases ht with e | ⟨e, h0 | h0⟩ <;> rw [e] <;> first | rfl | (subst h0; rfl)
  · have hk' : p_kd (p_wI h a f x) a = (0, k) := hk
    rw [show p_ws ca B ro (p_wI h a f x) = _ from p_ws_I _ ha]
    rw [show p_cell ca B ro (p_fn h.1 a (upd (h.1 a) f x), h.2) a = .inr (k, p_fs B ro (p_wI h a f x) a k) from p_cell_obj hk']
    rw [p_fs_set (h := h) (k := f) (v := .int x)]
    · have e0 : p_I (p_wI h a f x) a f = x := by
        show p_fn h.1 a (upd (h.1 a) f x) a f = x
        rw [p_fn_eq]; simp [upd]
      rcases ht with e | ⟨e, -⟩ <;> rw [e] <;> show Value.int _ = _ <;> rw [e0]
    · intro j hj
      refine p_fvI ?_ rfl rfl
      show p_fn h.1 a (upd (h.1 a) f x) a j = h.1 a j
      rw [p_fn_eq]; simp [upd, hj]
theorem z_putL (X : p_Cx y p s m args meth c D ca B ro) (hP : va_P D pm_cl (p_ws ca B ro h) H) (hS : va_S (p_A B) s.heap H locs) {a k f j i g : Nat} (hk : p_kd h a = (0, k)) (ha : 32 ≤ a) (hq : p_fl[i]? = some ((p_mi y).1.cls, j, k, f)) (hd : decode (p_mi y).2.1 pc = .ok (.putfield j, 3))
    (hg : (match pm_cl[k]? with | some r => if g = 1 then (r.2.1 f).2.2.2 && decide ((p_mi y).1.name = "<init>") && decide ((r.2.1 f).1 = (p_mi y).1.cls) else !(r.2.1 f).2.2.2 | none => false) = true)
    {x : Int64} (ht : p_ty k f = .long)
    (kk : ∀ (H1 : Heap) (locs1 : List Loc), va_P D pm_cl (p_ws ca B ro (p_wL h a f x)) H1 → va_S (p_A B) s.heap H1 locs1 → W p l e R s m args below meth c H1 locs1 cells slots QW (F0 m (pc + 3) lsA rest)) : W p l e R s m args below meth c H locs cells slots QW (F0 m pc lsA (.long x :: .ref (p_ph B ro a) :: rest)) := by
  refine z_put (v := .long x) (h' := p_wL h a f x) X hP hS hk ha hq hd hg ?_ ?_ ?_ kk
  · rw [ht]; rfl
  · rw [ht]; rfl
  · have hk' : p_kd (p_wL h a f x) a = (0, k) := hk
    rw [show p_ws ca B ro (p_wL h a f x) = _ from p_ws_L _ ha]
    rw [show p_cell ca B ro (h.1, p_fn h.2.1 a (vp_updL (h.2.1 a) f x), h.2.2) a = .inr (k, p_fs B ro (p_wL h a f x) a k) from p_cell_obj hk']
    rw [p_fs_set (h := h) (k := f) (v := .long x)]
    · have e0 : p_L (p_wL h a f x) a f = x := by
        show p_fn h.2.1 a (vp_updL (h.2.1 a) f x) a f = x
        rw [p_fn_eq]; simp [vp_updL]
      rw [ht]; show Value.long _ = _; rw [e0]
    · intro j hj
      refine p_fvI rfl ?_ rfl
      show p_fn h.2.1 a (vp_updL (h.2.1 a) f x) a j = h.2.1 a j
      rw [p_fn_eq]; simp [vp_updL, hj]
theorem z_putR (X : p_Cx y p s m args meth c D ca B ro) (hP : va_P D pm_cl (p_ws ca B ro h) H) (hS : va_S (p_A B) s.heap H locs) {a k f j i g : Nat} (hk : p_kd h a = (0, k)) (ha : 32 ≤ a) (hq : p_fl[i]? = some ((p_mi y).1.cls, j, k, f)) (hd : decode (p_mi y).2.1 pc = .ok (.putfield j, 3))
    (hg : (match pm_cl[k]? with | some r => if g = 1 then (r.2.1 f).2.2.2 && decide ((p_mi y).1.name = "<init>") && decide ((r.2.1 f).1 = (p_mi y).1.cls) else !(r.2.1 f).2.2.2 | none => false) = true)
    {x : Option Nat} (ht : p_isR (p_ty k f) = true)
    (kk : ∀ (H1 : Heap) (locs1 : List Loc), va_P D pm_cl (p_ws ca B ro (p_wR h a f x)) H1 → va_S (p_A B) s.heap H1 locs1 → W p l e R s m args below meth c H1 locs1 cells slots QW (F0 m (pc + 3) lsA rest)) : W p l e R s m args below meth c H locs cells slots QW (F0 m pc lsA (va_rf (x.map (p_ph B ro)) :: .ref (p_ph B ro a) :: rest)) := by
  have ht' : (∃ n, p_ty k f = .object n) ∨ ∃ n, p_ty k f = .array n := by
    cases hty : p_ty k f <;> rw [hty] at ht <;> first | exact Or.inl ⟨_, rfl⟩ | exact Or.inr ⟨_, rfl⟩ | cases ht
  refine z_put (v := va_rf (x.map (p_ph B ro))) (h' := p_wR h a f x) X hP hS hk ha hq hd hg ?_ ?_ ?_ kk
  · rcases ht' with ⟨n, e⟩ | ⟨n, e⟩ <;> rw [e] <;> cases x <;> rfl
  · rcases ht' with ⟨n, e⟩ | ⟨n, e⟩ <;> rw [e] <;> cases x <;> rfl
  · have hk' : p_kd (p_wR h a f x) a = (0, k) := hk
    rw [show p_ws ca B ro (p_wR h a f x) = _ from p_ws_R _ ha]
    rw [show p_cell ca B ro (h.1, h.2.1, p_fn h.2.2.1 a (va_up (h.2.2.1 a) f x), h.2.2.2) a = .inr (k, p_fs B ro (p_wR h a f x) a k) from p_cell_obj hk']
    rw [p_fs_set (h := h) (k := f) (v := va_rf (x.map (p_ph B ro)))]
    · have e0 : p_R (p_wR h a f x) a f = x := by
        show p_fn h.2.2.1 a (va_up (h.2.2.1 a) f x) a f = x
        rw [p_fn_eq]; simp [va_up]
      rcases ht' with ⟨n, e⟩ | ⟨n, e⟩ <;> rw [e] <;> show va_rf _ = _ <;> rw [e0]
    · intro j hj
      refine p_fvI rfl rfl ?_
      show p_fn h.2.2.1 a (va_up (h.2.2.1 a) f x) a j = h.2.2.1 a j
      rw [p_fn_eq]; simp [va_up, hj]
theorem z_iald (X : p_Cx y p s m args meth c D ca B ro) (hRO : p_RO B ro h s) (hP : va_P D pm_cl (p_ws ca B ro h) H) (hS : va_S (p_A B) s.heap H locs) {a : Nat} {i : Int32} (hk : (p_kd h a).1 = 1) (hi : vp_in i (p_kd h a).2) (hd : decode (p_mi y).2.1 pc = .ok (.iaload, 1))
    (kk : W p l e R s m args below meth c H locs cells slots QW (F0 m (pc + 1) lsA (.int (p_I h a i.toNatClampNeg) :: rest))) : W p l e R s m args below meth c H locs cells slots QW (F0 m pc lsA (.int i :: .ref (p_ph B ro a) :: rest)) := by
  have hk2 : p_kd h a = (1, (p_kd h a).2) := Prod.ext hk rfl
  by_cases ha : 32 ≤ a
  · exact va_iald X.1 X.2.1 X.2.2.2.2.2.1 hP (a - 32) 0 (z_arr hk2 (by decide) (by decide) ha) rfl hi hd kk
  · rw [p_ph_lo (by omega)]
    exact va_ti X.1 X.2.1 (hRO.1 a _ (by omega) hk2) hS hi rfl hd kk
theorem z_bald (X : p_Cx y p s m args meth c D ca B ro) (hRO : p_RO B ro h s) (hP : va_P D pm_cl (p_ws ca B ro h) H) (hS : va_S (p_A B) s.heap H locs) {a : Nat} {i : Int32} (hk : (p_kd h a).1 = 2 ∨ (p_kd h a).1 = 3) (hi : vp_in i (p_kd h a).2) (hd : decode (p_mi y).2.1 pc = .ok (.baload, 1))
    (kk : W p l e R s m args below meth c H locs cells slots QW (F0 m (pc + 1) lsA (.int (p_I h a i.toNatClampNeg) :: rest))) : W p l e R s m args below meth c H locs cells slots QW (F0 m pc lsA (.int i :: .ref (p_ph B ro a) :: rest)) := by
  by_cases ha : 32 ≤ a
  · rcases hk with hk | hk
    · have hk2 : p_kd h a = (2, (p_kd h a).2) := Prod.ext hk rfl
      exact va_bald X.1 X.2.1 X.2.2.2.2.2.1 hP (a - 32) 1 (z_arr hk2 (by decide) (by decide) ha) rfl hi hd kk
    · have hk2 : p_kd h a = (3, (p_kd h a).2) := Prod.ext hk rfl
      exact va_zald X.1 X.2.1 X.2.2.2.2.2.1 hP (a - 32) 2 (z_arr hk2 (by decide) (by decide) ha) rfl hi hd kk
  · have hk : (p_kd h a).1 = 2 := by
      rcases hRO.2.2.2.1 a (by omega) with h9 | h9 <;> rcases hk with hk | hk <;> omega
    have hk2 : p_kd h a = (2, (p_kd h a).2) := Prod.ext hk rfl
    rw [p_ph_lo (by omega)]
    exact va_tb X.1 X.2.1 (hRO.2.1 a _ (by omega) hk2) hS hi rfl hd kk
theorem z_lald (X : p_Cx y p s m args meth c D ca B ro) (hP : va_P D pm_cl (p_ws ca B ro h) H) {a : Nat} {i : Int32} (hk : (p_kd h a).1 = 4) (ha : 32 ≤ a) (hi : vp_in i (p_kd h a).2) (hd : decode (p_mi y).2.1 pc = .ok (.laload, 1))
    (kk : W p l e R s m args below meth c H locs cells slots QW (F0 m (pc + 1) lsA (.long (p_L h a i.toNatClampNeg) :: rest))) : W p l e R s m args below meth c H locs cells slots QW (F0 m pc lsA (.int i :: .ref (p_ph B ro a) :: rest)) := by
  have hk2 : p_kd h a = (4, (p_kd h a).2) := Prod.ext hk rfl
  exact va_lald X.1 X.2.1 X.2.2.2.2.2.1 hP (a - 32) 3 (z_arr hk2 (by decide) (by decide) ha) rfl hi hd kk
theorem z_aald (X : p_Cx y p s m args meth c D ca B ro) (hP : va_P D pm_cl (p_ws ca B ro h) H) {a : Nat} {i : Int32} (hk : (p_kd h a).1 = 5 ∨ (p_kd h a).1 = 6) (ha : 32 ≤ a) (hi : vp_in i (p_kd h a).2) (hd : decode (p_mi y).2.1 pc = .ok (.aaload, 1))
    (kk : W p l e R s m args below meth c H locs cells slots QW (F0 m (pc + 1) lsA (va_rf ((p_R h a i.toNatClampNeg).map (p_ph B ro)) :: rest))) : W p l e R s m args below meth c H locs cells slots QW (F0 m pc lsA (.int i :: .ref (p_ph B ro a) :: rest)) := by
  rcases hk with hk | hk
  · have hk2 : p_kd h a = (5, (p_kd h a).2) := Prod.ext hk rfl
    exact va_aldq X.1 X.2.1 X.2.2.2.2.2.1 hP (a - 32) 4 (z_arr hk2 (by decide) (by decide) ha) rfl hi hd kk
  · have hk2 : p_kd h a = (6, (p_kd h a).2) := Prod.ext hk rfl
    exact va_aldq X.1 X.2.1 X.2.2.2.2.2.1 hP (a - 32) 5 (z_arr hk2 (by decide) (by decide) ha) rfl hi hd kk
theorem z_alen (X : p_Cx y p s m args meth c D ca B ro) (hRO : p_RO B ro h s) (hP : va_P D pm_cl (p_ws ca B ro h) H) (hS : va_S (p_A B) s.heap H locs) {a : Nat} (hk : 1 ≤ (p_kd h a).1 ∧ (p_kd h a).1 ≤ 6) (hd : decode (p_mi y).2.1 pc = .ok (.arraylength, 1))
    (kk : W p l e R s m args below meth c H locs cells slots QW (F0 m (pc + 1) lsA (.int (Int32.ofNat (p_kd h a).2) :: rest))) : W p l e R s m args below meth c H locs cells slots QW (F0 m pc lsA (.ref (p_ph B ro a) :: rest)) := by
  have hk2 : p_kd h a = ((p_kd h a).1, (p_kd h a).2) := rfl
  by_cases ha : 32 ≤ a
  · have he := z_arr (ca := ca) (B := B) (ro := ro) hk2 (by omega) (by omega) ha
    have ht : ∃ (t0 : Nat) (ty : FieldType), (p_tys ca)[t0]? = some (ca (p_kd h a).1, ty) := by
      have : (p_kd h a).1 = 1 ∨ (p_kd h a).1 = 2 ∨ (p_kd h a).1 = 3 ∨ (p_kd h a).1 = 4 ∨ (p_kd h a).1 = 5 ∨ (p_kd h a).1 = 6 := by omega
      rcases this with e | e | e | e | e | e <;> rw [e]
      · exact ⟨0, _, rfl⟩
      · exact ⟨1, _, rfl⟩
      · exact ⟨2, _, rfl⟩
      · exact ⟨3, _, rfl⟩
      · exact ⟨4, _, rfl⟩
      · exact ⟨5, _, rfl⟩
    obtain ⟨t0, ty, ht⟩ := ht
    exact va_alen X.1 X.2.1 X.2.2.2.2.2.1 hP (a - 32) t0 he ht rfl hd kk
  · rw [p_ph_lo (by omega)]
    have : (p_kd h a).1 = 1 ∨ (p_kd h a).1 = 2 := by
      rcases hRO.2.2.2.1 a (by omega) with h9 | h9 <;> omega
    rcases this with e | e
    · exact va_tlen X.1 X.2.1 (hRO.1 a (p_kd h a).2 (by omega) (Prod.ext e rfl)) hS rfl hd kk
    · exact va_tlen X.1 X.2.1 (hRO.2.1 a (p_kd h a).2 (by omega) (Prod.ext e rfl)) hS rfl hd kk
theorem z_iast (X : p_Cx y p s m args meth c D ca B ro) (hP : va_P D pm_cl (p_ws ca B ro h) H) (hS : va_S (p_A B) s.heap H locs) {a : Nat} {i x : Int32} (hk : (p_kd h a).1 = 1) (ha : 32 ≤ a) (hi : vp_in i (p_kd h a).2) (hd : decode (p_mi y).2.1 pc = .ok (.iastore, 1))
    (kk : ∀ (H1 : Heap) (locs1 : List Loc), va_P D pm_cl (p_ws ca B ro (p_wI h a i.toNatClampNeg x)) H1 → va_S (p_A B) s.heap H1 locs1 → W p l e R s m args below meth c H1 locs1 cells slots QW (F0 m (pc + 1) lsA rest)) : W p l e R s m args below meth c H locs cells slots QW (F0 m pc lsA (.int x :: .int i :: .ref (p_ph B ro a) :: rest)) := by
  have hk2 : p_kd h a = (1, (p_kd h a).2) := Prod.ext hk rfl
  refine va_iast X.1 X.2.1 X.2.2.2.2.2.1 hP (p_ws_D h) hS (a - 32) 0 (z_arr hk2 (by decide) (by decide) ha) rfl hi hd (fun H1 locs1 hP1 _ hS1 => kk H1 locs1 ?_ hS1)
  have hk' : p_kd (p_wI h a i.toNatClampNeg x) a = (1, (p_kd h a).2) := hk2
  rw [show p_ws ca B ro (p_wI h a i.toNatClampNeg x) = _ from p_ws_I _ ha, show p_cell ca B ro (p_fn h.1 a (upd (h.1 a) i.toNatClampNeg x), h.2) a = _ from p_cell_arr hk' (by decide)]
  rw [show p_ar B ro (p_fn h.1 a (upd (h.1 a) i.toNatClampNeg x), h.2) a 1 = .inl (upd (p_I h a) i.toNatClampNeg x) from congrArg Sum.inl p_fn_eq]
  exact hP1
theorem z_bast (X : p_Cx y p s m args meth c D ca B ro) (hP : va_P D pm_cl (p_ws ca B ro h) H) (hS : va_S (p_A B) s.heap H locs) {a : Nat} {i x : Int32} (hk : (p_kd h a).1 = 2 ∨ (p_kd h a).1 = 3) (ha : 32 ≤ a) (hi : vp_in i (p_kd h a).2) (hd : decode (p_mi y).2.1 pc = .ok (.bastore, 1))
    (kk : ∀ (H1 : Heap) (locs1 : List Loc), va_P D pm_cl (p_ws ca B ro (p_wI h a i.toNatClampNeg (p_nv (p_kd h a).1 x))) H1 → va_S (p_A B) s.heap H1 locs1 → W p l e R s m args below meth c H1 locs1 cells slots QW (F0 m (pc + 1) lsA rest)) : W p l e R s m args below meth c H locs cells slots QW (F0 m pc lsA (.int x :: .int i :: .ref (p_ph B ro a) :: rest)) := by
  rcases hk with hk | hk
  · have hk2 : p_kd h a = (2, (p_kd h a).2) := Prod.ext hk rfl
    rw [hk] at kk
    refine va_bast X.1 X.2.1 X.2.2.2.2.2.1 hP (p_ws_D h) hS (a - 32) 1 (z_arr hk2 (by decide) (by decide) ha) rfl hi hd (fun H1 locs1 hP1 _ hS1 => kk H1 locs1 ?_ hS1)
    have hk' : p_kd (p_wI h a i.toNatClampNeg (p_nv 2 x)) a = (2, (p_kd h a).2) := hk2
    rw [show p_ws ca B ro (p_wI h a i.toNatClampNeg (p_nv 2 x)) = _ from p_ws_I _ ha, show p_cell ca B ro (p_fn h.1 a (upd (h.1 a) i.toNatClampNeg (p_nv 2 x)), h.2) a = _ from p_cell_arr hk' (by decide)]
    rw [show p_ar B ro (p_fn h.1 a (upd (h.1 a) i.toNatClampNeg (p_nv 2 x)), h.2) a 2 = .inl (upd (p_I h a) i.toNatClampNeg (vp_nar .byte x)) from congrArg Sum.inl p_fn_eq]
    exact hP1
  · have hk2 : p_kd h a = (3, (p_kd h a).2) := Prod.ext hk rfl
    rw [hk] at kk
    refine va_zast X.1 X.2.1 X.2.2.2.2.2.1 hP (p_ws_D h) hS (a - 32) 2 (z_arr hk2 (by decide) (by decide) ha) rfl hi hd (fun H1 locs1 hP1 _ hS1 => kk H1 locs1 ?_ hS1)
    have hk' : p_kd (p_wI h a i.toNatClampNeg (p_nv 3 x)) a = (3, (p_kd h a).2) := hk2
    rw [show p_ws ca B ro (p_wI h a i.toNatClampNeg (p_nv 3 x)) = _ from p_ws_I _ ha, show p_cell ca B ro (p_fn h.1 a (upd (h.1 a) i.toNatClampNeg (p_nv 3 x)), h.2) a = _ from p_cell_arr hk' (by decide)]
    rw [show p_ar B ro (p_fn h.1 a (upd (h.1 a) i.toNatClampNeg (p_nv 3 x)), h.2) a 3 = .inl (upd (p_I h a) i.toNatClampNeg (vp_nar .boolean x)) from congrArg Sum.inl p_fn_eq]
    exact hP1
theorem z_last (X : p_Cx y p s m args meth c D ca B ro) (hP : va_P D pm_cl (p_ws ca B ro h) H) (hS : va_S (p_A B) s.heap H locs) {a : Nat} {i : Int32} {x : Int64} (hk : (p_kd h a).1 = 4) (ha : 32 ≤ a) (hi : vp_in i (p_kd h a).2) (hd : decode (p_mi y).2.1 pc = .ok (.lastore, 1))
    (kk : ∀ (H1 : Heap) (locs1 : List Loc), va_P D pm_cl (p_ws ca B ro (p_wL h a i.toNatClampNeg x)) H1 → va_S (p_A B) s.heap H1 locs1 → W p l e R s m args below meth c H1 locs1 cells slots QW (F0 m (pc + 1) lsA rest)) : W p l e R s m args below meth c H locs cells slots QW (F0 m pc lsA (.long x :: .int i :: .ref (p_ph B ro a) :: rest)) := by
  have hk2 : p_kd h a = (4, (p_kd h a).2) := Prod.ext hk rfl
  refine va_last X.1 X.2.1 X.2.2.2.2.2.1 hP (p_ws_D h) hS (a - 32) 3 (z_arr hk2 (by decide) (by decide) ha) rfl hi hd (fun H1 locs1 hP1 _ hS1 => kk H1 locs1 ?_ hS1)
  have hk' : p_kd (p_wL h a i.toNatClampNeg x) a = (4, (p_kd h a).2) := hk2
  rw [show p_ws ca B ro (p_wL h a i.toNatClampNeg x) = _ from p_ws_L _ ha, show p_cell ca B ro (h.1, p_fn h.2.1 a (vp_updL (h.2.1 a) i.toNatClampNeg x), h.2.2) a = _ from p_cell_arr hk' (by decide)]
  rw [show p_ar B ro (h.1, p_fn h.2.1 a (vp_updL (h.2.1 a) i.toNatClampNeg x), h.2.2) a 4 = .inr (.inl (vp_updL (p_L h a) i.toNatClampNeg x)) from congrArg (fun z => Sum.inr (Sum.inl z)) p_fn_eq]
  exact hP1
theorem z_arR {a t n : Nat} {k : Nat} {x : Option Nat} (hk2 : p_kd h a = (t, n)) (ht : t = 5 ∨ t = 6) (ha : 32 ≤ a) : p_ws ca B ro (p_wR h a k x) = (p_ws ca B ro h).set (a - 32) (p_ph B ro a, .inl (ca t, n, .inr (.inr (.inr (.inr (va_up (fun k => (p_R h a k).map (p_ph B ro)) k (x.map (p_ph B ro)))))))) := by
  have hk' : p_kd (p_wR h a k x) a = (t, n) := hk2
  rw [show p_ws ca B ro (p_wR h a k x) = _ from p_ws_R _ ha, show p_cell ca B ro (h.1, h.2.1, p_fn h.2.2.1 a (va_up (h.2.2.1 a) k x), h.2.2.2) a = _ from p_cell_arr hk' (by omega)]
  congr 5
  have e : (fun j => (p_R (p_wR h a k x) a j).map (p_ph B ro)) = va_up (fun k => (p_R h a k).map (p_ph B ro)) k (x.map (p_ph B ro)) := by
    funext j
    show (p_fn h.2.2.1 a (va_up (h.2.2.1 a) k x) a j).map _ = _
    rw [p_fn_eq]
    by_cases hj : j = k
    · simp [va_up, hj]
    · simp [va_up, hj, p_R]
  rcases ht with rfl | rfl <;> (show Sum.inr (Sum.inr (Sum.inr (Sum.inr _))) = _; rw [← e]; rfl)
theorem z_aast (X : p_Cx y p s m args meth c D ca B ro) (hP : va_P D pm_cl (p_ws ca B ro h) H) (hS : va_S (p_A B) s.heap H locs) {a b : Nat} {i : Int32} (hk : ((p_kd h a).1 = 5 ∧ p_kd h b = (0, 7)) ∨ ((p_kd h a).1 = 6 ∧ p_kd h b = (0, 1))) (ha : 32 ≤ a) (hb2 : 32 ≤ b) (hi : vp_in i (p_kd h a).2) (hd : decode (p_mi y).2.1 pc = .ok (.aastore, 1))
    (kk : ∀ (H1 : Heap) (locs1 : List Loc), va_P D pm_cl (p_ws ca B ro (p_wR h a i.toNatClampNeg (some b))) H1 → va_S (p_A B) s.heap H1 locs1 → W p l e R s m args below meth c H1 locs1 cells slots QW (F0 m (pc + 1) lsA rest)) : W p l e R s m args below meth c H locs cells slots QW (F0 m pc lsA (.ref (p_ph B ro b) :: .int i :: .ref (p_ph B ro a) :: rest)) := by
  rcases hk with ⟨hk, hkb⟩ | ⟨hk, hkb⟩
  · have hk2 : p_kd h a = (5, (p_kd h a).2) := Prod.ext hk rfl
    obtain ⟨r, hr, he⟩ := z_obj hP hkb hb2
    refine va_astq (r := r) X.1 X.2.1 X.2.2.2.2.2.1 hP (p_ws_D h) hS (a - 32) 4 (b - 32) 7 (z_arr hk2 (by decide) (by decide) ha) (by cases hr; rfl) he hr hi hd (fun H1 locs1 hP1 _ hS1 => kk H1 locs1 ?_ hS1)
    rw [z_arR hk2 (Or.inl rfl) ha]
    exact hP1
  · have hk2 : p_kd h a = (6, (p_kd h a).2) := Prod.ext hk rfl
    obtain ⟨r, hr, he⟩ := z_obj hP hkb hb2
    refine va_astq (r := r) X.1 X.2.1 X.2.2.2.2.2.1 hP (p_ws_D h) hS (a - 32) 5 (b - 32) 1 (z_arr hk2 (by decide) (by decide) ha) (by cases hr; rfl) he hr hi hd (fun H1 locs1 hP1 _ hS1 => kk H1 locs1 ?_ hS1)
    rw [z_arR hk2 (Or.inr rfl) ha]
    exact hP1
theorem z_aastN (X : p_Cx y p s m args meth c D ca B ro) (hP : va_P D pm_cl (p_ws ca B ro h) H) (hS : va_S (p_A B) s.heap H locs) {a : Nat} {i : Int32} (hk : (p_kd h a).1 = 5 ∨ (p_kd h a).1 = 6) (ha : 32 ≤ a) (hi : vp_in i (p_kd h a).2) (hd : decode (p_mi y).2.1 pc = .ok (.aastore, 1))
    (kk : ∀ (H1 : Heap) (locs1 : List Loc), va_P D pm_cl (p_ws ca B ro (p_wR h a i.toNatClampNeg none)) H1 → va_S (p_A B) s.heap H1 locs1 → W p l e R s m args below meth c H1 locs1 cells slots QW (F0 m (pc + 1) lsA rest)) : W p l e R s m args below meth c H locs cells slots QW (F0 m pc lsA (.null :: .int i :: .ref (p_ph B ro a) :: rest)) := by
  rcases hk with hk | hk
  · have hk2 : p_kd h a = (5, (p_kd h a).2) := Prod.ext hk rfl
    refine va_astqN X.1 X.2.1 X.2.2.2.2.2.1 hP (p_ws_D h) hS (a - 32) 4 (z_arr hk2 (by decide) (by decide) ha) rfl hi hd (fun H1 locs1 hP1 _ hS1 => kk H1 locs1 ?_ hS1)
    rw [z_arR hk2 (Or.inl rfl) ha]
    exact hP1
  · have hk2 : p_kd h a = (6, (p_kd h a).2) := Prod.ext hk rfl
    refine va_astqN X.1 X.2.1 X.2.2.2.2.2.1 hP (p_ws_D h) hS (a - 32) 5 (z_arr hk2 (by decide) (by decide) ha) rfl hi hd (fun H1 locs1 hP1 _ hS1 => kk H1 locs1 ?_ hS1)
    rw [z_arR hk2 (Or.inr rfl) ha]
    exact hP1
theorem z_copy (X : p_Cx y p s m args meth c D ca B ro) (hP : va_P D pm_cl (p_ws ca B ro h) H) (hS : va_S (p_A B) s.heap H locs) (hml : lsA.size = (p_mi y).2.2.1) (hR : 1 ≤ R.frames ∧ 100 ≤ R.locals) {a b i j : Nat} {n dp sp : Int32} (hq : p_ml[i]? = some ((p_mi y).1.cls, j, 9998, 1))
    (hka : (p_kd h a).1 = 1) (hkb : (p_kd h b).1 = 1) (ha : 32 ≤ a) (hb2 : 32 ≤ b) (h1 : ¬ sp < 0) (h2 : ¬ dp < 0) (h3 : ¬ n < 0) (h4 : sp.toNatClampNeg + n.toNatClampNeg ≤ (p_kd h a).2) (h5 : dp.toNatClampNeg + n.toNatClampNeg ≤ (p_kd h b).2) (hc : (rest.map fun v => v.category).sum ≤ 8)
    (hd : decode (p_mi y).2.1 pc = .ok (.invokestatic j, 3))
    (kk : ∀ (H1 : Heap) (locs1 : List Loc), va_P D pm_cl (p_ws ca B ro (p_fn h.1 b (va_cpy (h.1 a) (h.1 b) sp.toNatClampNeg dp.toNatClampNeg n.toNatClampNeg), h.2)) H1 → va_S (p_A B) s.heap H1 locs1 → W p l e R s m args below meth c H1 locs1 cells slots QW (F0 m (pc + 3) lsA rest)) : W p l e R s m args below meth c H locs cells slots QW (F0 m pc lsA (.int n :: .int dp :: .ref (p_ph B ro b) :: .int sp :: .ref (p_ph B ro a) :: rest)) := by
  have hka2 : p_kd h a = (1, (p_kd h a).2) := Prod.ext hka rfl
  have hkb2 : p_kd h b = (1, (p_kd h b).2) := Prod.ext hkb rfl
  have hw : Cond.methodLink (p_mi y).1.cls j arraycopyName ∈ p_tb := by
    rcases p_ml_ok _ (List.mem_of_getElem? hq) with ⟨e, -⟩ | ⟨-, w⟩ | ⟨e, -⟩ | ⟨e, -⟩ | ⟨e, -⟩
    · cases e
    · exact w
    · cases e
    · cases e
    · exact absurd (show 9998 < 9000 from e) (by decide)
  obtain ⟨hx, hb, hm, hown, hts, hK, -⟩ := X
  refine va_copyi (ty := .int) hx hb (hm.trans hml.symm) hown (hts _ hw) (hts _ ay_n) (hts _ ay_s) (hts _ ay_i) hK hP (p_ws_D h) hS (a - 32) (b - 32) 0 0 (z_arr hka2 (by decide) (by decide) ha) (z_arr hkb2 (by decide) (by decide) hb2) rfl rfl rfl h1 h2 h3 h4 h5 (fun _ _ => rfl) hR.1 ?_ hd (fun H1 locs1 hP1 _ hS1 => kk H1 locs1 ?_ hS1)
  · have : nativeFrameWords "java/lang/System" "arraycopy" 5 = 7 := by decide
    omega
  · have hk' : p_kd (p_fn h.1 b (va_cpy (h.1 a) (h.1 b) sp.toNatClampNeg dp.toNatClampNeg n.toNatClampNeg), h.2) b = (1, (p_kd h b).2) := hkb2
    rw [p_ws_I _ hb2, p_cell_arr hk' (by decide)]
    rw [show p_ar B ro (p_fn h.1 b (va_cpy (h.1 a) (h.1 b) sp.toNatClampNeg dp.toNatClampNeg n.toNatClampNeg), h.2) b 1 = .inl (va_cpy (p_I h a) (p_I h b) sp.toNatClampNeg dp.toNatClampNeg n.toNatClampNeg) from congrArg Sum.inl p_fn_eq]
    exact hP1
end ZH
