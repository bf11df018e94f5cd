/-! THE LAW FROM ITS ENTRY, by the pure machine -/
theorem p_nin_0 : Cond.instantiable RX0 1 ∈ lw_tbl := (p_t2 (List.mem_of_getElem? (i := 52) rfl))
theorem p_nin_1 : Cond.instantiable RX1 16 ∈ lw_tbl := (p_t1 (List.mem_of_getElem? (i := 143) rfl))
theorem p_nin_2 : Cond.instantiable RX2 2 ∈ lw_tbl := (p_t1 (List.mem_of_getElem? (i := 121) rfl))
theorem p_nin_3 : Cond.instantiable RX3 18 ∈ lw_tbl := (p_t1 (List.mem_of_getElem? (i := 135) rfl))
theorem p_nin_4 : Cond.instantiable RX4 3 ∈ lw_tbl := (p_t2 (List.mem_of_getElem? (i := 65) rfl))
theorem p_nin_5 : Cond.instantiable RX5 7 ∈ lw_tbl := (p_t1 (List.mem_of_getElem? (i := 46) rfl))
theorem p_nin_6 : Cond.instantiable RX6 2 ∈ lw_tbl := (p_t1 (List.mem_of_getElem? (i := 28) rfl))
theorem p_nin_7 : Cond.instantiable RX7 9 ∈ lw_tbl := (p_t1 (List.mem_of_getElem? (i := 52) rfl))
theorem p_nin_8 : Cond.instantiable RX8 18 ∈ lw_tbl := (p_t1 (List.mem_of_getElem? (i := 20) rfl))
theorem p_nin_9 : Cond.instantiable RX9 48 ∈ lw_tbl := (p_t5 (List.mem_of_getElem? (i := 7) rfl))
theorem ao_5 : Cond.arrayOver (.object "HutAnswers$Text") ∈ lw_tbl := (p_t1 (List.mem_of_getElem? (i := 149) rfl))
theorem ao_6 : Cond.arrayOver (.object "HutAnswers$Hut") ∈ lw_tbl := (p_t2 (List.mem_of_getElem? (i := 81) rfl))
theorem p_sw_0 : Cond.stringRef "HutAnswers$Reader" 62 "ask pour pass hide" ∈ lw_tbl := (p_t3 (List.mem_of_getElem? (i := 40) rfl))
theorem p_sw_1 : Cond.stringRef "HutAnswers$Reader" 64 "ages turns bars" ∈ lw_tbl := (p_t3 (List.mem_of_getElem? (i := 41) rfl))
theorem p_sw_2 : Cond.stringRef "HutAnswers$Reader" 74 "times" ∈ lw_tbl := (p_t3 (List.mem_of_getElem? (i := 124) rfl))
theorem p_sw_3 : Cond.stringRef "HutAnswers$Reader" 84 "if" ∈ lw_tbl := (p_t3 (List.mem_of_getElem? (i := 129) rfl))
theorem p_sw_4 : Cond.stringRef "HutAnswers$Reader" 100 "and" ∈ lw_tbl := (p_t3 (List.mem_of_getElem? (i := 151) rfl))
theorem p_sw_5 : Cond.stringRef "HutAnswers$Reader" 108 "or" ∈ lw_tbl := (p_t3 (List.mem_of_getElem? (i := 152) rfl))
theorem p_sw_6 : Cond.stringRef "HutAnswers$Reader" 110 "not" ∈ lw_tbl := (p_t3 (List.mem_of_getElem? (i := 138) rfl))
theorem p_sw_7 : Cond.stringRef "HutAnswers$Reader" 124 "age tea day left done answer asked" ∈ lw_tbl := (p_t3 (List.mem_of_getElem? (i := 114) rfl))
theorem p_sw_8 : Cond.stringRef "HutAnswers$Reader" 126 "question years sort asked mood age tea day left" ∈ lw_tbl := (p_t3 (List.mem_of_getElem? (i := 115) rfl))
theorem p_ls0 : Cond.laysStatic "jdk/internal/util/Preconditions" "SIOOBE_FORMATTER" "Ljava/util/function/BiFunction;" ∈ lw_tbl := (p_t3 (List.mem_of_getElem? (i := 71) rfl))
theorem p_ls0i : Cond.initialized "jdk/internal/util/Preconditions" ∈ lw_tbl := (p_t1 (List.mem_of_getElem? (i := 14) rfl))
theorem p_ls1 : Cond.laysStatic "HutAnswers" "REFUSALS" "[I" ∈ lw_tbl := (p_t5 (List.mem_of_getElem? (i := 1) rfl))
theorem p_ls1i : Cond.initialized "HutAnswers" ∈ lw_tbl := (p_t1 (List.mem_of_getElem? (i := 1) rfl))
theorem p_ls2 : Cond.laysStatic "HutAnswers" "MOST_OF_TERM" "[I" ∈ lw_tbl := (p_t2 (List.mem_of_getElem? (i := 239) rfl))
theorem p_ls2i : Cond.initialized "HutAnswers" ∈ lw_tbl := (p_t1 (List.mem_of_getElem? (i := 1) rfl))
theorem p_ls3 : Cond.laysStatic "java/lang/String" "COMPACT_STRINGS" "Z" ∈ lw_tbl := (p_t3 (List.mem_of_getElem? (i := 55) rfl))
theorem p_ls3i : Cond.initialized "java/lang/String" ∈ lw_tbl := (p_t1 (List.mem_of_getElem? (i := 12) rfl))
def p_strs : List (List Int32) := [[97, 115, 107, 32, 112, 111, 117, 114, 32, 112, 97, 115, 115, 32, 104, 105, 100, 101], [97, 103, 101, 115, 32, 116, 117, 114, 110, 115, 32, 98, 97, 114, 115], [97, 103, 101, 32, 116, 101, 97, 32, 100, 97, 121, 32, 108, 101, 102, 116, 32, 100, 111, 110, 101, 32, 97, 110, 115, 119, 101, 114, 32, 97, 115, 107, 101, 100], [113, 117, 101, 115, 116, 105, 111, 110, 32, 121, 101, 97, 114, 115, 32, 115, 111, 114, 116, 32, 97, 115, 107, 101, 100, 32, 109, 111, 111, 100, 32, 97, 103, 101, 32, 116, 101, 97, 32, 100, 97, 121, 32, 108, 101, 102, 116], [116, 105, 109, 101, 115], [105, 102], [110, 111, 116], [97, 110, 100], [111, 114]]
def p_lens9 : List Nat := [18, 15, 34, 47, 5, 2, 3, 3, 2]
def p_I0 (xs : Nat → Int32) : Nat → Nat → Int32 := fun a k => match a with
  | 0 => [1, 2, 3, 5, 6].getD k 0
  | 1 => [999, 9, 9999].getD k 0
  | 2 => xs k
  | 3 => (p_strs.getD 0 []).getD k 0
  | 4 => (p_strs.getD 1 []).getD k 0
  | 5 => (p_strs.getD 2 []).getD k 0
  | 6 => (p_strs.getD 3 []).getD k 0
  | 7 => (p_strs.getD 4 []).getD k 0
  | 8 => (p_strs.getD 5 []).getD k 0
  | 9 => (p_strs.getD 6 []).getD k 0
  | 10 => (p_strs.getD 7 []).getD k 0
  | 11 => (p_strs.getD 8 []).getD k 0
  | 30 => if k = 3 then 1 else 0
  | _ => 0
def p_R0 (sio : Option Nat) : Nat → Nat → Option Nat := fun a k => match a, k with
  | 12, 0 => some 3
  | 13, 0 => some 4
  | 14, 0 => some 5
  | 15, 0 => some 6
  | 16, 0 => some 7
  | 17, 0 => some 8
  | 18, 0 => some 9
  | 19, 0 => some 10
  | 20, 0 => some 11
  | 30, 0 => sio
  | 30, 1 => some 0
  | 30, 2 => some 1
  | _, _ => none
def p_K0 (L : Nat) : List pKd := [(1, 5), (1, 3), (1, L), (2, 18), (2, 15), (2, 34), (2, 47), (2, 5), (2, 2), (2, 3), (2, 3), (2, 2), (0, 10), (0, 10), (0, 10), (0, 10), (0, 10), (0, 10), (0, 10), (0, 10), (0, 10), (98, 0), (98, 0), (98, 0), (98, 0), (98, 0), (98, 0), (98, 0), (98, 0), (98, 0), (98, 0), (98, 0)]
def p_h0 (L : Nat) (xs : Nat → Int32) (sio : Option Nat) : pHp := (p_I0 xs, fun _ _ => 0, p_R0 sio, p_K0 L)
theorem p_K {s : State} {args : Array Value} (hts : ∀ w ∈ lw_tbl, w.before args s = true) : ∃ (D : va_G) (ca : Nat → ClassId), va_K D pm_cl (p_tys ca) s := by
  obtain ⟨c0, i0, k0⟩ := u_known (C := RX0) (T := TX0) (N := 1) (n := 1) hts inX0 (hts (.instantiable RX0 1) (p_nin_0))
  obtain ⟨c1, i1, k1⟩ := u_known (C := RX1) (T := TX1) (N := 16) (n := 16) hts inX1 (hts (.instantiable RX1 16) (p_nin_1))
  obtain ⟨c2, i2, k2⟩ := u_known (C := RX2) (T := TX2) (N := 2) (n := 2) hts inX2 (hts (.instantiable RX2 2) (p_nin_2))
  obtain ⟨c3, i3, k3⟩ := u_known (C := RX3) (T := TX3) (N := 18) (n := 18) hts inX3 (hts (.instantiable RX3 18) (p_nin_3))
  obtain ⟨c4, i4, k4⟩ := u_known (C := RX4) (T := TX4) (N := 3) (n := 3) hts inX4 (hts (.instantiable RX4 3) (p_nin_4))
  obtain ⟨c5, i5, k5⟩ := u_known (C := RX5) (T := TX5) (N := 7) (n := 7) hts inX5 (hts (.instantiable RX5 7) (p_nin_5))
  obtain ⟨c6, i6, k6⟩ := u_known (C := RX6) (T := TX6) (N := 2) (n := 2) hts inX6 (hts (.instantiable RX6 2) (p_nin_6))
  obtain ⟨c7, i7, k7⟩ := u_known (C := RX7) (T := TX7) (N := 9) (n := 9) hts inX7 (hts (.instantiable RX7 9) (p_nin_7))
  obtain ⟨c8, i8, k8⟩ := u_known (C := RX8) (T := TX8) (N := 18) (n := 18) hts inX8 (hts (.instantiable RX8 18) (p_nin_8))
  obtain ⟨c9, i9, k9⟩ := u_known (C := RX9) (T := TX9) (N := 48) (n := 48) hts inX9 (hts (.instantiable RX9 48) (p_nin_9))
  have hp : ∀ ty : FieldType, Cond.arrayClass ty ∈ p_tb → ∃ cA : ClassId, ArrOfT s cA ty ∧ s.vm.findClass ("[" ++ ty.toString) = some cA := by
    intro ty hw
    obtain ⟨cA, kA, comp, h1, h2, h3⟩ := Cond.arrayClass_spec (hts _ (List.mem_filter.mp hw).1)
    exact ⟨cA, fun n z => ⟨(fun k h => by cases h), kA, h2, comp, h3⟩, h1⟩
  have hq : ∀ C : String, Cond.arrayOver (.object C) ∈ lw_tbl → ∃ cA : ClassId, ArrOfT s cA (.object C) ∧ va_RA s cA (.object C) := by
    intro C hw
    obtain ⟨comp, cA, kA, h1, h2, h3, h4, h5⟩ := Cond.arrayOver_spec (hts _ hw)
    exact ⟨cA, fun n z => ⟨(fun k h => by cases h), kA, h3, comp, h4⟩, kA, comp, h3, h4, h1, h5⟩
  obtain ⟨q1, a1, b1⟩ := hp .int ac_1
  obtain ⟨q2, a2, b2⟩ := hp .byte ac_2
  obtain ⟨q3, a3, b3⟩ := hp .boolean ac_3
  obtain ⟨q4, a4, b4⟩ := hp .long ac_4
  obtain ⟨q5, a5, b5⟩ := hq "HutAnswers$Text" ao_5
  obtain ⟨q6, a6, b6⟩ := hq "HutAnswers$Hut" ao_6
  refine ⟨(fun k => [c0, c1, c2, c3, c4, c5, c6, c7, c8, c9].getD k 0, fun k => [i0, i1, i2, i3, i4, i5, i6, i7, i8, i9].getD k (fun _ => 0)), fun k => [0, q1, q2, q3, q4, q5, q6].getD k 0, ?_, ?_⟩
  · intro k q hq
    match k, hq with
    | 0, hq => cases hq; exact k0
    | 1, hq => cases hq; exact k1
    | 2, hq => cases hq; exact k2
    | 3, hq => cases hq; exact k3
    | 4, hq => cases hq; exact k4
    | 5, hq => cases hq; exact k5
    | 6, hq => cases hq; exact k6
    | 7, hq => cases hq; exact k7
    | 8, hq => cases hq; exact k8
    | 9, hq => cases hq; exact k9
    | k + 10, hq => simp [pm_cl] at hq
  · intro k q hq
    match k, hq with
    | 0, hq => cases hq; exact ⟨a1, b1⟩
    | 1, hq => cases hq; exact ⟨a2, b2⟩
    | 2, hq => cases hq; exact ⟨a3, b3⟩
    | 3, hq => cases hq; exact ⟨a4, b4⟩
    | 4, hq => cases hq; exact ⟨a5, b5⟩
    | 5, hq => cases hq; exact ⟨a6, b6⟩
    | k + 6, hq => simp [p_tys] at hq
def p_six : List Nat := [62, 64, 124, 126, 74, 84, 110, 100, 108]
def p_tm (i : Nat) : Term := .string "HutAnswers$Reader" (p_six.getD i 0)
abbrev p_PR : Cond := Jvm.Cond.and given_1 narrow_1
theorem p_fx : (flatC p_PR).all (fun _ => true) = true := by decide +kernel
theorem p_hex_0 : Cond.exactly (p_tm 0) "java/lang/String" ∈ flatC p_PR := by decide +kernel
theorem p_hex_1 : Cond.exactly (p_tm 1) "java/lang/String" ∈ flatC p_PR := by decide +kernel
theorem p_hex_2 : Cond.exactly (p_tm 2) "java/lang/String" ∈ flatC p_PR := by decide +kernel
theorem p_hex_3 : Cond.exactly (p_tm 3) "java/lang/String" ∈ flatC p_PR := by decide +kernel
theorem p_hex_4 : Cond.exactly (p_tm 4) "java/lang/String" ∈ flatC p_PR := by decide +kernel
theorem p_hex_5 : Cond.exactly (p_tm 5) "java/lang/String" ∈ flatC p_PR := by decide +kernel
theorem p_hex_6 : Cond.exactly (p_tm 6) "java/lang/String" ∈ flatC p_PR := by decide +kernel
theorem p_hex_7 : Cond.exactly (p_tm 7) "java/lang/String" ∈ flatC p_PR := by decide +kernel
theorem p_hex_8 : Cond.exactly (p_tm 8) "java/lang/String" ∈ flatC p_PR := by decide +kernel
theorem p_hco_0 : Cond.eq (.field (p_tm 0) "java/lang/String" "coder" "B") (.int 0) ∈ flatC p_PR := by decide +kernel
theorem p_hco_1 : Cond.eq (.field (p_tm 1) "java/lang/String" "coder" "B") (.int 0) ∈ flatC p_PR := by decide +kernel
theorem p_hco_2 : Cond.eq (.field (p_tm 2) "java/lang/String" "coder" "B") (.int 0) ∈ flatC p_PR := by decide +kernel
theorem p_hco_3 : Cond.eq (.field (p_tm 3) "java/lang/String" "coder" "B") (.int 0) ∈ flatC p_PR := by decide +kernel
theorem p_hco_4 : Cond.eq (.field (p_tm 4) "java/lang/String" "coder" "B") (.int 0) ∈ flatC p_PR := by decide +kernel
theorem p_hco_5 : Cond.eq (.field (p_tm 5) "java/lang/String" "coder" "B") (.int 0) ∈ flatC p_PR := by decide +kernel
theorem p_hco_6 : Cond.eq (.field (p_tm 6) "java/lang/String" "coder" "B") (.int 0) ∈ flatC p_PR := by decide +kernel
theorem p_hco_7 : Cond.eq (.field (p_tm 7) "java/lang/String" "coder" "B") (.int 0) ∈ flatC p_PR := by decide +kernel
theorem p_hco_8 : Cond.eq (.field (p_tm 8) "java/lang/String" "coder" "B") (.int 0) ∈ flatC p_PR := by decide +kernel
theorem p_har_0 : Cond.arrayOf (.field (p_tm 0) "java/lang/String" "value" "[B") .byte ∈ flatC p_PR := by decide +kernel
theorem p_har_1 : Cond.arrayOf (.field (p_tm 1) "java/lang/String" "value" "[B") .byte ∈ flatC p_PR := by decide +kernel
theorem p_har_2 : Cond.arrayOf (.field (p_tm 2) "java/lang/String" "value" "[B") .byte ∈ flatC p_PR := by decide +kernel
theorem p_har_3 : Cond.arrayOf (.field (p_tm 3) "java/lang/String" "value" "[B") .byte ∈ flatC p_PR := by decide +kernel
theorem p_har_4 : Cond.arrayOf (.field (p_tm 4) "java/lang/String" "value" "[B") .byte ∈ flatC p_PR := by decide +kernel
theorem p_har_5 : Cond.arrayOf (.field (p_tm 5) "java/lang/String" "value" "[B") .byte ∈ flatC p_PR := by decide +kernel
theorem p_har_6 : Cond.arrayOf (.field (p_tm 6) "java/lang/String" "value" "[B") .byte ∈ flatC p_PR := by decide +kernel
theorem p_har_7 : Cond.arrayOf (.field (p_tm 7) "java/lang/String" "value" "[B") .byte ∈ flatC p_PR := by decide +kernel
theorem p_har_8 : Cond.arrayOf (.field (p_tm 8) "java/lang/String" "value" "[B") .byte ∈ flatC p_PR := by decide +kernel
theorem p_hle_0 : Cond.eq (.length (.field (p_tm 0) "java/lang/String" "value" "[B")) (.int (Int32.ofNat (p_lens9.getD 0 0))) ∈ flatC p_PR := by decide +kernel
theorem p_hle_1 : Cond.eq (.length (.field (p_tm 1) "java/lang/String" "value" "[B")) (.int (Int32.ofNat (p_lens9.getD 1 0))) ∈ flatC p_PR := by decide +kernel
theorem p_hle_2 : Cond.eq (.length (.field (p_tm 2) "java/lang/String" "value" "[B")) (.int (Int32.ofNat (p_lens9.getD 2 0))) ∈ flatC p_PR := by decide +kernel
theorem p_hle_3 : Cond.eq (.length (.field (p_tm 3) "java/lang/String" "value" "[B")) (.int (Int32.ofNat (p_lens9.getD 3 0))) ∈ flatC p_PR := by decide +kernel
theorem p_hle_4 : Cond.eq (.length (.field (p_tm 4) "java/lang/String" "value" "[B")) (.int (Int32.ofNat (p_lens9.getD 4 0))) ∈ flatC p_PR := by decide +kernel
theorem p_hle_5 : Cond.eq (.length (.field (p_tm 5) "java/lang/String" "value" "[B")) (.int (Int32.ofNat (p_lens9.getD 5 0))) ∈ flatC p_PR := by decide +kernel
theorem p_hle_6 : Cond.eq (.length (.field (p_tm 6) "java/lang/String" "value" "[B")) (.int (Int32.ofNat (p_lens9.getD 6 0))) ∈ flatC p_PR := by decide +kernel
theorem p_hle_7 : Cond.eq (.length (.field (p_tm 7) "java/lang/String" "value" "[B")) (.int (Int32.ofNat (p_lens9.getD 7 0))) ∈ flatC p_PR := by decide +kernel
theorem p_hle_8 : Cond.eq (.length (.field (p_tm 8) "java/lang/String" "value" "[B")) (.int (Int32.ofNat (p_lens9.getD 8 0))) ∈ flatC p_PR := by decide +kernel
set_option maxRecDepth 20000 in
theorem p_el_0 : ∀ j, j < 18 → Cond.eq (.elem (.field (p_tm 0) "java/lang/String" "value" "[B") (.int (Int32.ofNat j))) (.int ((p_strs.getD 0 []).getD j 0)) ∈ flatC p_PR := by decide +kernel
set_option maxRecDepth 20000 in
theorem p_el_1 : ∀ j, j < 15 → Cond.eq (.elem (.field (p_tm 1) "java/lang/String" "value" "[B") (.int (Int32.ofNat j))) (.int ((p_strs.getD 1 []).getD j 0)) ∈ flatC p_PR := by decide +kernel
set_option maxRecDepth 20000 in
theorem p_el_2 : ∀ j, j < 34 → Cond.eq (.elem (.field (p_tm 2) "java/lang/String" "value" "[B") (.int (Int32.ofNat j))) (.int ((p_strs.getD 2 []).getD j 0)) ∈ flatC p_PR := by decide +kernel
set_option maxRecDepth 20000 in
theorem p_el_3 : ∀ j, j < 47 → Cond.eq (.elem (.field (p_tm 3) "java/lang/String" "value" "[B") (.int (Int32.ofNat j))) (.int ((p_strs.getD 3 []).getD j 0)) ∈ flatC p_PR := by decide +kernel
set_option maxRecDepth 20000 in
theorem p_el_4 : ∀ j, j < 5 → Cond.eq (.elem (.field (p_tm 4) "java/lang/String" "value" "[B") (.int (Int32.ofNat j))) (.int ((p_strs.getD 4 []).getD j 0)) ∈ flatC p_PR := by decide +kernel
set_option maxRecDepth 20000 in
theorem p_el_5 : ∀ j, j < 2 → Cond.eq (.elem (.field (p_tm 5) "java/lang/String" "value" "[B") (.int (Int32.ofNat j))) (.int ((p_strs.getD 5 []).getD j 0)) ∈ flatC p_PR := by decide +kernel
set_option maxRecDepth 20000 in
theorem p_el_6 : ∀ j, j < 3 → Cond.eq (.elem (.field (p_tm 6) "java/lang/String" "value" "[B") (.int (Int32.ofNat j))) (.int ((p_strs.getD 6 []).getD j 0)) ∈ flatC p_PR := by decide +kernel
set_option maxRecDepth 20000 in
theorem p_el_7 : ∀ j, j < 3 → Cond.eq (.elem (.field (p_tm 7) "java/lang/String" "value" "[B") (.int (Int32.ofNat j))) (.int ((p_strs.getD 7 []).getD j 0)) ∈ flatC p_PR := by decide +kernel
set_option maxRecDepth 20000 in
theorem p_el_8 : ∀ j, j < 2 → Cond.eq (.elem (.field (p_tm 8) "java/lang/String" "value" "[B") (.int (Int32.ofNat j))) (.int ((p_strs.getD 8 []).getD j 0)) ∈ flatC p_PR := by decide +kernel
theorem p_nq_0 : ∀ j, j < 9 → 0 < j → Cond.not (Cond.eq (p_tm 0) (p_tm j)) ∈ flatC p_PR := by decide +kernel
theorem p_nq_1 : ∀ j, j < 9 → 1 < j → Cond.not (Cond.eq (p_tm 1) (p_tm j)) ∈ flatC p_PR := by decide +kernel
theorem p_nq_2 : ∀ j, j < 9 → 2 < j → Cond.not (Cond.eq (p_tm 2) (p_tm j)) ∈ flatC p_PR := by decide +kernel
theorem p_nq_3 : ∀ j, j < 9 → 3 < j → Cond.not (Cond.eq (p_tm 3) (p_tm j)) ∈ flatC p_PR := by decide +kernel
theorem p_nq_4 : ∀ j, j < 9 → 4 < j → Cond.not (Cond.eq (p_tm 4) (p_tm j)) ∈ flatC p_PR := by decide +kernel
theorem p_nq_5 : ∀ j, j < 9 → 5 < j → Cond.not (Cond.eq (p_tm 5) (p_tm j)) ∈ flatC p_PR := by decide +kernel
theorem p_nq_6 : ∀ j, j < 9 → 6 < j → Cond.not (Cond.eq (p_tm 6) (p_tm j)) ∈ flatC p_PR := by decide +kernel
theorem p_nq_7 : ∀ j, j < 9 → 7 < j → Cond.not (Cond.eq (p_tm 7) (p_tm j)) ∈ flatC p_PR := by decide +kernel
theorem p_nq_8 : ∀ j, j < 9 → 8 < j → Cond.not (Cond.eq (p_tm 8) (p_tm j)) ∈ flatC p_PR := by decide +kernel
theorem p_ra : Cond.arrayOf (.static "HutAnswers" "REFUSALS" "[I") .int ∈ flatC p_PR ∧ Cond.eq (.length (.static "HutAnswers" "REFUSALS" "[I")) (.int (Int32.ofNat 5)) ∈ flatC p_PR ∧ ∀ j, j < 5 → Cond.eq (.elem (.static "HutAnswers" "REFUSALS" "[I") (.int (Int32.ofNat j))) (.int ([1, 2, 3, 5, 6].getD j 0)) ∈ flatC p_PR := by decide +kernel
theorem p_rb : Cond.arrayOf (.static "HutAnswers" "MOST_OF_TERM" "[I") .int ∈ flatC p_PR ∧ Cond.eq (.length (.static "HutAnswers" "MOST_OF_TERM" "[I")) (.int (Int32.ofNat 3)) ∈ flatC p_PR ∧ ∀ j, j < 3 → Cond.eq (.elem (.static "HutAnswers" "MOST_OF_TERM" "[I") (.int (Int32.ofNat j))) (.int ([999, 9, 9999].getD j 0)) ∈ flatC p_PR := by decide +kernel
theorem p_rc : Cond.eq (.static "java/lang/String" "COMPACT_STRINGS" "Z") (.int 1) ∈ flatC p_PR ∧ Cond.isRef (.static "jdk/internal/util/Preconditions" "SIOOBE_FORMATTER" "Ljava/util/function/BiFunction;") ∈ flatC p_PR := by decide +kernel
theorem p_hex : ∀ i, i < 9 → Cond.exactly (p_tm i) "java/lang/String" ∈ flatC p_PR
  | 0, _ => p_hex_0
  | 1, _ => p_hex_1
  | 2, _ => p_hex_2
  | 3, _ => p_hex_3
  | 4, _ => p_hex_4
  | 5, _ => p_hex_5
  | 6, _ => p_hex_6
  | 7, _ => p_hex_7
  | 8, _ => p_hex_8
  | n + 9, h => absurd h (by omega)
theorem p_hco : ∀ i, i < 9 → Cond.eq (.field (p_tm i) "java/lang/String" "coder" "B") (.int 0) ∈ flatC p_PR
  | 0, _ => p_hco_0
  | 1, _ => p_hco_1
  | 2, _ => p_hco_2
  | 3, _ => p_hco_3
  | 4, _ => p_hco_4
  | 5, _ => p_hco_5
  | 6, _ => p_hco_6
  | 7, _ => p_hco_7
  | 8, _ => p_hco_8
  | n + 9, h => absurd h (by omega)
theorem p_har : ∀ i, i < 9 → Cond.arrayOf (.field (p_tm i) "java/lang/String" "value" "[B") .byte ∈ flatC p_PR
  | 0, _ => p_har_0
  | 1, _ => p_har_1
  | 2, _ => p_har_2
  | 3, _ => p_har_3
  | 4, _ => p_har_4
  | 5, _ => p_har_5
  | 6, _ => p_har_6
  | 7, _ => p_har_7
  | 8, _ => p_har_8
  | n + 9, h => absurd h (by omega)
theorem p_hle : ∀ i, i < 9 → Cond.eq (.length (.field (p_tm i) "java/lang/String" "value" "[B")) (.int (Int32.ofNat (p_lens9.getD i 0))) ∈ flatC p_PR
  | 0, _ => p_hle_0
  | 1, _ => p_hle_1
  | 2, _ => p_hle_2
  | 3, _ => p_hle_3
  | 4, _ => p_hle_4
  | 5, _ => p_hle_5
  | 6, _ => p_hle_6
  | 7, _ => p_hle_7
  | 8, _ => p_hle_8
  | n + 9, h => absurd h (by omega)
theorem p_elA : ∀ i, i < 9 → ∀ j, j < p_lens9.getD i 0 → Cond.eq (.elem (.field (p_tm i) "java/lang/String" "value" "[B") (.int (Int32.ofNat j))) (.int ((p_strs.getD i []).getD j 0)) ∈ flatC p_PR
  | 0, _ => p_el_0
  | 1, _ => p_el_1
  | 2, _ => p_el_2
  | 3, _ => p_el_3
  | 4, _ => p_el_4
  | 5, _ => p_el_5
  | 6, _ => p_el_6
  | 7, _ => p_el_7
  | 8, _ => p_el_8
  | n + 9, h => absurd h (by omega)
theorem p_nqA : ∀ i, i < 9 → ∀ j, j < 9 → i < j → Cond.not (Cond.eq (p_tm i) (p_tm j)) ∈ flatC p_PR
  | 0, _ => p_nq_0
  | 1, _ => p_nq_1
  | 2, _ => p_nq_2
  | 3, _ => p_nq_3
  | 4, _ => p_nq_4
  | 5, _ => p_nq_5
  | 6, _ => p_nq_6
  | 7, _ => p_nq_7
  | 8, _ => p_nq_8
  | n + 9, h => absurd h (by omega)
