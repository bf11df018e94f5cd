/-! the two long methods, in pieces; then all of them -/
def p_okP (y : Nat) : Prop := (p_pcs y)[0]? = some 0 ∧ ∀ b pc, (p_pcs y)[b]? = some pc → p_okb y pc (p_bk y b) = true
theorem p_okP_of {y : Nat} (h : p_okm y = true) : p_okP y := by
  unfold p_okm at h
  simp only [Bool.and_eq_true, decide_eq_true_eq, List.all_eq_true, List.mem_range] at h
  refine ⟨h.1, fun b pc hb => ?_⟩
  have h2 := h.2 b (List.getElem?_eq_some_iff.mp hb).1
  rw [hb] at h2
  exact h2
def p_lens (b : List pI) : Nat := (b.map fun q => q.2.1).sum
theorem p_okb_app (y : Nat) : ∀ (b1 b2 : List pI) (pc : Nat), p_okb y pc b1 = true → p_okb y (pc + p_lens b1) b2 = true → p_okb y pc (b1 ++ b2) = true
  | [], b2, pc, _, h2 => by simpa [p_lens] using h2
  | (i, len, ex) :: b1, b2, pc, h1, h2 => by
    simp only [List.cons_append, p_okb] at h1 ⊢
    by_cases hl : len = 0
    · rw [if_pos hl] at h1 ⊢; exact h1
    · rw [if_neg hl] at h1 ⊢
      simp only [Bool.and_eq_true] at h1 ⊢
      refine ⟨h1.1, p_okb_app y b1 b2 _ h1.2 ?_⟩
      have e : pc + p_lens ((i, len, ex) :: b1) = pc + len + p_lens b1 := by simp only [p_lens, List.map_cons, List.sum_cons]; omega
      rw [← e]; exact h2
theorem p_okb_cut (y : Nat) (b : List pI) (k pc pc' : Nat) (h : pc + p_lens (b.take k) = pc') (h1 : p_okb y pc (b.take k) = true) (h2 : p_okb y pc' (b.drop k) = true) : p_okb y pc b = true := by
  have := p_okb_app y (b.take k) (b.drop k) pc h1 (by rw [h]; exact h2)
  rwa [List.take_append_drop] at this
set_option maxRecDepth 100000 in
theorem okm_0 : p_okb 133 0 (pb_133_0.take 40) = true := by decide +kernel
set_option maxRecDepth 100000 in
theorem okl_0 : 0 + p_lens (pb_133_0.take 40) = 69 := by decide +kernel
set_option maxRecDepth 100000 in
theorem okm_1 : p_okb 133 69 ((pb_133_0.drop 40).take 40) = true := by decide +kernel
set_option maxRecDepth 100000 in
theorem okl_1 : 69 + p_lens ((pb_133_0.drop 40).take 40) = 127 := by decide +kernel
set_option maxRecDepth 100000 in
theorem okm_2 : p_okb 133 127 ((pb_133_0.drop 80).take 40) = true := by decide +kernel
set_option maxRecDepth 100000 in
theorem okl_2 : 127 + p_lens ((pb_133_0.drop 80).take 40) = 187 := by decide +kernel
set_option maxRecDepth 100000 in
theorem okm_3 : p_okb 133 187 ((pb_133_0.drop 120).take 40) = true := by decide +kernel
set_option maxRecDepth 100000 in
theorem okl_3 : 187 + p_lens ((pb_133_0.drop 120).take 40) = 247 := by decide +kernel
set_option maxRecDepth 100000 in
theorem okm_4 : p_okb 133 247 ((pb_133_0.drop 160).take 40) = true := by decide +kernel
set_option maxRecDepth 100000 in
theorem okl_4 : 247 + p_lens ((pb_133_0.drop 160).take 40) = 307 := by decide +kernel
set_option maxRecDepth 100000 in
theorem okm_5 : p_okb 133 307 ((pb_133_0.drop 200).take 40) = true := by decide +kernel
set_option maxRecDepth 100000 in
theorem okl_5 : 307 + p_lens ((pb_133_0.drop 200).take 40) = 367 := by decide +kernel
set_option maxRecDepth 100000 in
theorem okm_6 : p_okb 133 367 ((pb_133_0.drop 240).take 40) = true := by decide +kernel
set_option maxRecDepth 100000 in
theorem okl_6 : 367 + p_lens ((pb_133_0.drop 240).take 40) = 427 := by decide +kernel
set_option maxRecDepth 100000 in
theorem okm_7 : p_okb 133 427 ((pb_133_0.drop 280).take 40) = true := by decide +kernel
set_option maxRecDepth 100000 in
theorem okl_7 : 427 + p_lens ((pb_133_0.drop 280).take 40) = 487 := by decide +kernel
set_option maxRecDepth 100000 in
theorem okm_8 : p_okb 133 487 ((pb_133_0.drop 320).take 40) = true := by decide +kernel
set_option maxRecDepth 100000 in
theorem okl_8 : 487 + p_lens ((pb_133_0.drop 320).take 40) = 547 := by decide +kernel
set_option maxRecDepth 100000 in
theorem okm_9 : p_okb 133 547 ((pb_133_0.drop 360).take 40) = true := by decide +kernel
set_option maxRecDepth 100000 in
theorem okl_9 : 547 + p_lens ((pb_133_0.drop 360).take 40) = 607 := by decide +kernel
set_option maxRecDepth 100000 in
theorem okm_10 : p_okb 133 607 ((pb_133_0.drop 400).take 40) = true := by decide +kernel
set_option maxRecDepth 100000 in
theorem okl_10 : 607 + p_lens ((pb_133_0.drop 400).take 40) = 667 := by decide +kernel
set_option maxRecDepth 100000 in
theorem okm_11 : p_okb 133 667 ((pb_133_0.drop 440).take 40) = true := by decide +kernel
set_option maxRecDepth 100000 in
theorem okl_11 : 667 + p_lens ((pb_133_0.drop 440).take 40) = 727 := by decide +kernel
set_option maxRecDepth 100000 in
theorem okm_12 : p_okb 133 727 ((pb_133_0.drop 480).take 40) = true := by decide +kernel
set_option maxRecDepth 100000 in
theorem okl_12 : 727 + p_lens ((pb_133_0.drop 480).take 40) = 808 := by decide +kernel
set_option maxRecDepth 100000 in
theorem okn_13 : p_okb 133 808 (pb_133_0.drop 520) = true := by decide +kernel
theorem okn_12 : p_okb 133 727 (pb_133_0.drop 480) = true := p_okb_cut 133 _ 40 _ _ okl_12 okm_12 (by rw [List.drop_drop]; exact okn_13)
theorem okn_11 : p_okb 133 667 (pb_133_0.drop 440) = true := p_okb_cut 133 _ 40 _ _ okl_11 okm_11 (by rw [List.drop_drop]; exact okn_12)
theorem okn_10 : p_okb 133 607 (pb_133_0.drop 400) = true := p_okb_cut 133 _ 40 _ _ okl_10 okm_10 (by rw [List.drop_drop]; exact okn_11)
theorem okn_9 : p_okb 133 547 (pb_133_0.drop 360) = true := p_okb_cut 133 _ 40 _ _ okl_9 okm_9 (by rw [List.drop_drop]; exact okn_10)
theorem okn_8 : p_okb 133 487 (pb_133_0.drop 320) = true := p_okb_cut 133 _ 40 _ _ okl_8 okm_8 (by rw [List.drop_drop]; exact okn_9)
theorem okn_7 : p_okb 133 427 (pb_133_0.drop 280) = true := p_okb_cut 133 _ 40 _ _ okl_7 okm_7 (by rw [List.drop_drop]; exact okn_8)
theorem okn_6 : p_okb 133 367 (pb_133_0.drop 240) = true := p_okb_cut 133 _ 40 _ _ okl_6 okm_6 (by rw [List.drop_drop]; exact okn_7)
theorem okn_5 : p_okb 133 307 (pb_133_0.drop 200) = true := p_okb_cut 133 _ 40 _ _ okl_5 okm_5 (by rw [List.drop_drop]; exact okn_6)
theorem okn_4 : p_okb 133 247 (pb_133_0.drop 160) = true := p_okb_cut 133 _ 40 _ _ okl_4 okm_4 (by rw [List.drop_drop]; exact okn_5)
theorem okn_3 : p_okb 133 187 (pb_133_0.drop 120) = true := p_okb_cut 133 _ 40 _ _ okl_3 okm_3 (by rw [List.drop_drop]; exact okn_4)
theorem okn_2 : p_okb 133 127 (pb_133_0.drop 80) = true := p_okb_cut 133 _ 40 _ _ okl_2 okm_2 (by rw [List.drop_drop]; exact okn_3)
theorem okn_1 : p_okb 133 69 (pb_133_0.drop 40) = true := p_okb_cut 133 _ 40 _ _ okl_1 okm_1 (by rw [List.drop_drop]; exact okn_2)
theorem okn_0 : p_okb 133 0 pb_133_0 = true := p_okb_cut 133 _ 40 _ _ okl_0 okm_0 okn_1
theorem ok_133 : p_okP 133 := ⟨rfl, fun b pc hb => by
  match b, hb with
  | 0, hb => cases hb; exact okn_0
  | n + 1, hb => simp [show p_pcs 133 = [0] from rfl] at hb⟩
set_option maxRecDepth 100000 in
theorem ol_0 : p_okb 283 0 pb_283_0 = true := by decide +kernel
set_option maxRecDepth 100000 in
theorem ol_1 : p_okb 283 18 pb_283_1 = true := by decide +kernel
set_option maxRecDepth 100000 in
theorem ol_2 : p_okb 283 188 pb_283_2 = true := by decide +kernel
set_option maxRecDepth 100000 in
theorem ol_3 : p_okb 283 211 pb_283_3 = true := by decide +kernel
set_option maxRecDepth 100000 in
theorem ol_4 : p_okb 283 254 pb_283_4 = true := by decide +kernel
set_option maxRecDepth 100000 in
theorem ol_5 : p_okb 283 287 pb_283_5 = true := by decide +kernel
set_option maxRecDepth 100000 in
theorem ol_6 : p_okb 283 310 pb_283_6 = true := by decide +kernel
set_option maxRecDepth 100000 in
theorem ol_7 : p_okb 283 343 pb_283_7 = true := by decide +kernel
set_option maxRecDepth 100000 in
theorem ol_8 : p_okb 283 406 pb_283_8 = true := by decide +kernel
set_option maxRecDepth 100000 in
theorem ol_9 : p_okb 283 429 pb_283_9 = true := by decide +kernel
set_option maxRecDepth 100000 in
theorem ol_10 : p_okb 283 442 pb_283_10 = true := by decide +kernel
set_option maxRecDepth 100000 in
theorem ol_11 : p_okb 283 455 pb_283_11 = true := by decide +kernel
set_option maxRecDepth 100000 in
theorem ol_12 : p_okb 283 468 pb_283_12 = true := by decide +kernel
set_option maxRecDepth 100000 in
theorem ol_13 : p_okb 283 481 pb_283_13 = true := by decide +kernel
set_option maxRecDepth 100000 in
theorem ol_14 : p_okb 283 494 pb_283_14 = true := by decide +kernel
set_option maxRecDepth 100000 in
theorem ol_15 : p_okb 283 507 pb_283_15 = true := by decide +kernel
set_option maxRecDepth 100000 in
theorem ol_16 : p_okb 283 530 pb_283_16 = true := by decide +kernel
set_option maxRecDepth 100000 in
theorem ol_17 : p_okb 283 553 pb_283_17 = true := by decide +kernel
set_option maxRecDepth 100000 in
theorem ol_18 : p_okb 283 576 pb_283_18 = true := by decide +kernel
set_option maxRecDepth 100000 in
theorem ol_19 : p_okb 283 589 pb_283_19 = true := by decide +kernel
set_option maxRecDepth 100000 in
theorem ol_20 : p_okb 283 612 pb_283_20 = true := by decide +kernel
set_option maxRecDepth 100000 in
theorem ol_21 : p_okb 283 625 pb_283_21 = true := by decide +kernel
set_option maxRecDepth 100000 in
theorem ol_22 : p_okb 283 648 pb_283_22 = true := by decide +kernel
set_option maxRecDepth 100000 in
theorem ol_23 : p_okb 283 681 pb_283_23 = true := by decide +kernel
set_option maxRecDepth 100000 in
theorem ol_24 : p_okb 283 724 pb_283_24 = true := by decide +kernel
set_option maxRecDepth 100000 in
theorem ol_25 : p_okb 283 767 pb_283_25 = true := by decide +kernel
set_option maxRecDepth 100000 in
theorem ol_26 : p_okb 283 790 pb_283_26 = true := by decide +kernel
set_option maxRecDepth 100000 in
theorem ol_27 : p_okb 283 823 pb_283_27 = true := by decide +kernel
set_option maxRecDepth 100000 in
theorem ol_28 : p_okb 283 856 pb_283_28 = true := by decide +kernel
set_option maxRecDepth 100000 in
theorem ol_29 : p_okb 283 909 pb_283_29 = true := by decide +kernel
set_option maxRecDepth 100000 in
theorem ol_30 : p_okb 283 932 pb_283_30 = true := by decide +kernel
set_option maxRecDepth 100000 in
theorem ol_31 : p_okb 283 955 pb_283_31 = true := by decide +kernel
set_option maxRecDepth 100000 in
theorem ol_32 : p_okb 283 988 pb_283_32 = true := by decide +kernel
set_option maxRecDepth 100000 in
theorem ol_33 : p_okb 283 1011 pb_283_33 = true := by decide +kernel
set_option maxRecDepth 100000 in
theorem ol_34 : p_okb 283 1034 pb_283_34 = true := by decide +kernel
set_option maxRecDepth 100000 in
theorem ol_35 : p_okb 283 1057 pb_283_35 = true := by decide +kernel
set_option maxRecDepth 100000 in
theorem ol_36 : p_okb 283 1080 pb_283_36 = true := by decide +kernel
set_option maxRecDepth 100000 in
theorem ol_37 : p_okb 283 1093 pb_283_37 = true := by decide +kernel
set_option maxRecDepth 100000 in
theorem ol_38 : p_okb 283 1099 pb_283_38 = true := by decide +kernel
theorem ok_283 : p_okP 283 := ⟨rfl, fun b pc hb => by
  match b, hb with
  | 0, hb => cases hb; exact ol_0
  | 1, hb => cases hb; exact ol_1
  | 2, hb => cases hb; exact ol_2
  | 3, hb => cases hb; exact ol_3
  | 4, hb => cases hb; exact ol_4
  | 5, hb => cases hb; exact ol_5
  | 6, hb => cases hb; exact ol_6
  | 7, hb => cases hb; exact ol_7
  | 8, hb => cases hb; exact ol_8
  | 9, hb => cases hb; exact ol_9
  | 10, hb => cases hb; exact ol_10
  | 11, hb => cases hb; exact ol_11
  | 12, hb => cases hb; exact ol_12
  | 13, hb => cases hb; exact ol_13
  | 14, hb => cases hb; exact ol_14
  | 15, hb => cases hb; exact ol_15
  | 16, hb => cases hb; exact ol_16
  | 17, hb => cases hb; exact ol_17
  | 18, hb => cases hb; exact ol_18
  | 19, hb => cases hb; exact ol_19
  | 20, hb => cases hb; exact ol_20
  | 21, hb => cases hb; exact ol_21
  | 22, hb => cases hb; exact ol_22
  | 23, hb => cases hb; exact ol_23
  | 24, hb => cases hb; exact ol_24
  | 25, hb => cases hb; exact ol_25
  | 26, hb => cases hb; exact ol_26
  | 27, hb => cases hb; exact ol_27
  | 28, hb => cases hb; exact ol_28
  | 29, hb => cases hb; exact ol_29
  | 30, hb => cases hb; exact ol_30
  | 31, hb => cases hb; exact ol_31
  | 32, hb => cases hb; exact ol_32
  | 33, hb => cases hb; exact ol_33
  | 34, hb => cases hb; exact ol_34
  | 35, hb => cases hb; exact ol_35
  | 36, hb => cases hb; exact ol_36
  | 37, hb => cases hb; exact ol_37
  | 38, hb => cases hb; exact ol_38
  | n + 39, hb => exact absurd (List.getElem?_eq_some_iff.mp hb).1 (by rw [show (p_pcs 283).length = 39 from rfl]; omega)⟩
theorem p_ok : ∀ z, z < p_nM → p_okP z
  | 0, _ => p_okP_of ok_0
  | 1, _ => p_okP_of ok_1
  | 2, _ => p_okP_of ok_2
  | 3, _ => p_okP_of ok_3
  | 4, _ => p_okP_of ok_4
  | 5, _ => p_okP_of ok_5
  | 6, _ => p_okP_of ok_6
  | 7, _ => p_okP_of ok_7
  | 8, _ => p_okP_of ok_8
  | 9, _ => p_okP_of ok_9
  | 10, _ => p_okP_of ok_10
  | 11, _ => p_okP_of ok_11
  | 12, _ => p_okP_of ok_12
  | 13, _ => p_okP_of ok_13
  | 14, _ => p_okP_of ok_14
  | 15, _ => p_okP_of ok_15
  | 16, _ => p_okP_of ok_16
  | 17, _ => p_okP_of ok_17
  | 18, _ => p_okP_of ok_18
  | 19, _ => p_okP_of ok_19
  | 20, _ => p_okP_of ok_20
  | 21, _ => p_okP_of ok_21
  | 22, _ => p_okP_of ok_22
  | 23, _ => p_okP_of ok_23
  | 24, _ => p_okP_of ok_24
  | 25, _ => p_okP_of ok_25
  | 26, _ => p_okP_of ok_26
  | 27, _ => p_okP_of ok_27
  | 28, _ => p_okP_of ok_28
  | 29, _ => p_okP_of ok_29
  | 30, _ => p_okP_of ok_30
  | 31, _ => p_okP_of ok_31
  | 32, _ => p_okP_of ok_32
  | 33, _ => p_okP_of ok_33
  | 34, _ => p_okP_of ok_34
  | 35, _ => p_okP_of ok_35
  | 36, _ => p_okP_of ok_36
  | 37, _ => p_okP_of ok_37
  | 38, _ => p_okP_of ok_38
  | 39, _ => p_okP_of ok_39
  | 40, _ => p_okP_of ok_40
  | 41, _ => p_okP_of ok_41
  | 42, _ => p_okP_of ok_42
  | 43, _ => p_okP_of ok_43
  | 44, _ => p_okP_of ok_44
  | 45, _ => p_okP_of ok_45
  | 46, _ => p_okP_of ok_46
  | 47, _ => p_okP_of ok_47
  | 48, _ => p_okP_of ok_48
  | 49, _ => p_okP_of ok_49
  | 50, _ => p_okP_of ok_50
  | 51, _ => p_okP_of ok_51
  | 52, _ => p_okP_of ok_52
  | 53, _ => p_okP_of ok_53
  | 54, _ => p_okP_of ok_54
  | 55, _ => p_okP_of ok_55
  | 56, _ => p_okP_of ok_56
  | 57, _ => p_okP_of ok_57
  | 58, _ => p_okP_of ok_58
  | 59, _ => p_okP_of ok_59
  | 60, _ => p_okP_of ok_60
  | 61, _ => p_okP_of ok_61
  | 62, _ => p_okP_of ok_62
  | 63, _ => p_okP_of ok_63
  | 64, _ => p_okP_of ok_64
  | 65, _ => p_okP_of ok_65
  | 66, _ => p_okP_of ok_66
  | 67, _ => p_okP_of ok_67
  | 68, _ => p_okP_of ok_68
  | 69, _ => p_okP_of ok_69
  | 70, _ => p_okP_of ok_70
  | 71, _ => p_okP_of ok_71
  | 72, _ => p_okP_of ok_72
  | 73, _ => p_okP_of ok_73
  | 74, _ => p_okP_of ok_74
  | 75, _ => p_okP_of ok_75
  | 76, _ => p_okP_of ok_76
  | 77, _ => p_okP_of ok_77
  | 78, _ => p_okP_of ok_78
  | 79, _ => p_okP_of ok_79
  | 80, _ => p_okP_of ok_80
  | 81, _ => p_okP_of ok_81
  | 82, _ => p_okP_of ok_82
  | 83, _ => p_okP_of ok_83
  | 84, _ => p_okP_of ok_84
  | 85, _ => p_okP_of ok_85
  | 86, _ => p_okP_of ok_86
  | 87, _ => p_okP_of ok_87
  | 88, _ => p_okP_of ok_88
  | 89, _ => p_okP_of ok_89
  | 90, _ => p_okP_of ok_90
  | 91, _ => p_okP_of ok_91
  | 92, _ => p_okP_of ok_92
  | 93, _ => p_okP_of ok_93
  | 94, _ => p_okP_of ok_94
  | 95, _ => p_okP_of ok_95
  | 96, _ => p_okP_of ok_96
  | 97, _ => p_okP_of ok_97
  | 98, _ => p_okP_of ok_98
  | 99, _ => p_okP_of ok_99
  | 100, _ => p_okP_of ok_100
  | 101, _ => p_okP_of ok_101
  | 102, _ => p_okP_of ok_102
  | 103, _ => p_okP_of ok_103
  | 104, _ => p_okP_of ok_104
  | 105, _ => p_okP_of ok_105
  | 106, _ => p_okP_of ok_106
  | 107, _ => p_okP_of ok_107
  | 108, _ => p_okP_of ok_108
  | 109, _ => p_okP_of ok_109
  | 110, _ => p_okP_of ok_110
  | 111, _ => p_okP_of ok_111
  | 112, _ => p_okP_of ok_112
  | 113, _ => p_okP_of ok_113
  | 114, _ => p_okP_of ok_114
  | 115, _ => p_okP_of ok_115
  | 116, _ => p_okP_of ok_116
  | 117, _ => p_okP_of ok_117
  | 118, _ => p_okP_of ok_118
  | 119, _ => p_okP_of ok_119
  | 120, _ => p_okP_of ok_120
  | 121, _ => p_okP_of ok_121
  | 122, _ => p_okP_of ok_122
  | 123, _ => p_okP_of ok_123
  | 124, _ => p_okP_of ok_124
  | 125, _ => p_okP_of ok_125
  | 126, _ => p_okP_of ok_126
  | 127, _ => p_okP_of ok_127
  | 128, _ => p_okP_of ok_128
  | 129, _ => p_okP_of ok_129
  | 130, _ => p_okP_of ok_130
  | 131, _ => p_okP_of ok_131
  | 132, _ => p_okP_of ok_132
  | 133, _ => ok_133
  | 134, _ => p_okP_of ok_134
  | 135, _ => p_okP_of ok_135
  | 136, _ => p_okP_of ok_136
  | 137, _ => p_okP_of ok_137
  | 138, _ => p_okP_of ok_138
  | 139, _ => p_okP_of ok_139
  | 140, _ => p_okP_of ok_140
  | 141, _ => p_okP_of ok_141
  | 142, _ => p_okP_of ok_142
  | 143, _ => p_okP_of ok_143
  | 144, _ => p_okP_of ok_144
  | 145, _ => p_okP_of ok_145
  | 146, _ => p_okP_of ok_146
  | 147, _ => p_okP_of ok_147
  | 148, _ => p_okP_of ok_148
  | 149, _ => p_okP_of ok_149
  | 150, _ => p_okP_of ok_150
  | 151, _ => p_okP_of ok_151
  | 152, _ => p_okP_of ok_152
  | 153, _ => p_okP_of ok_153
  | 154, _ => p_okP_of ok_154
  | 155, _ => p_okP_of ok_155
  | 156, _ => p_okP_of ok_156
  | 157, _ => p_okP_of ok_157
  | 158, _ => p_okP_of ok_158
  | 159, _ => p_okP_of ok_159
  | 160, _ => p_okP_of ok_160
  | 161, _ => p_okP_of ok_161
  | 162, _ => p_okP_of ok_162
  | 163, _ => p_okP_of ok_163
  | 164, _ => p_okP_of ok_164
  | 165, _ => p_okP_of ok_165
  | 166, _ => p_okP_of ok_166
  | 167, _ => p_okP_of ok_167
  | 168, _ => p_okP_of ok_168
  | 169, _ => p_okP_of ok_169
  | 170, _ => p_okP_of ok_170
  | 171, _ => p_okP_of ok_171
  | 172, _ => p_okP_of ok_172
  | 173, _ => p_okP_of ok_173
  | 174, _ => p_okP_of ok_174
  | 175, _ => p_okP_of ok_175
  | 176, _ => p_okP_of ok_176
  | 177, _ => p_okP_of ok_177
  | 178, _ => p_okP_of ok_178
  | 179, _ => p_okP_of ok_179
  | 180, _ => p_okP_of ok_180
  | 181, _ => p_okP_of ok_181
  | 182, _ => p_okP_of ok_182
  | 183, _ => p_okP_of ok_183
  | 184, _ => p_okP_of ok_184
  | 185, _ => p_okP_of ok_185
  | 186, _ => p_okP_of ok_186
  | 187, _ => p_okP_of ok_187
  | 188, _ => p_okP_of ok_188
  | 189, _ => p_okP_of ok_189
  | 190, _ => p_okP_of ok_190
  | 191, _ => p_okP_of ok_191
  | 192, _ => p_okP_of ok_192
  | 193, _ => p_okP_of ok_193
  | 194, _ => p_okP_of ok_194
  | 195, _ => p_okP_of ok_195
  | 196, _ => p_okP_of ok_196
  | 197, _ => p_okP_of ok_197
  | 198, _ => p_okP_of ok_198
  | 199, _ => p_okP_of ok_199
  | 200, _ => p_okP_of ok_200
  | 201, _ => p_okP_of ok_201
  | 202, _ => p_okP_of ok_202
  | 203, _ => p_okP_of ok_203
  | 204, _ => p_okP_of ok_204
  | 205, _ => p_okP_of ok_205
  | 206, _ => p_okP_of ok_206
  | 207, _ => p_okP_of ok_207
  | 208, _ => p_okP_of ok_208
  | 209, _ => p_okP_of ok_209
  | 210, _ => p_okP_of ok_210
  | 211, _ => p_okP_of ok_211
  | 212, _ => p_okP_of ok_212
  | 213, _ => p_okP_of ok_213
  | 214, _ => p_okP_of ok_214
  | 215, _ => p_okP_of ok_215
  | 216, _ => p_okP_of ok_216
  | 217, _ => p_okP_of ok_217
  | 218, _ => p_okP_of ok_218
  | 219, _ => p_okP_of ok_219
  | 220, _ => p_okP_of ok_220
  | 221, _ => p_okP_of ok_221
  | 222, _ => p_okP_of ok_222
  | 223, _ => p_okP_of ok_223
  | 224, _ => p_okP_of ok_224
  | 225, _ => p_okP_of ok_225
  | 226, _ => p_okP_of ok_226
  | 227, _ => p_okP_of ok_227
  | 228, _ => p_okP_of ok_228
  | 229, _ => p_okP_of ok_229
  | 230, _ => p_okP_of ok_230
  | 231, _ => p_okP_of ok_231
  | 232, _ => p_okP_of ok_232
  | 233, _ => p_okP_of ok_233
  | 234, _ => p_okP_of ok_234
  | 235, _ => p_okP_of ok_235
  | 236, _ => p_okP_of ok_236
  | 237, _ => p_okP_of ok_237
  | 238, _ => p_okP_of ok_238
  | 239, _ => p_okP_of ok_239
  | 240, _ => p_okP_of ok_240
  | 241, _ => p_okP_of ok_241
  | 242, _ => p_okP_of ok_242
  | 243, _ => p_okP_of ok_243
  | 244, _ => p_okP_of ok_244
  | 245, _ => p_okP_of ok_245
  | 246, _ => p_okP_of ok_246
  | 247, _ => p_okP_of ok_247
  | 248, _ => p_okP_of ok_248
  | 249, _ => p_okP_of ok_249
  | 250, _ => p_okP_of ok_250
  | 251, _ => p_okP_of ok_251
  | 252, _ => p_okP_of ok_252
  | 253, _ => p_okP_of ok_253
  | 254, _ => p_okP_of ok_254
  | 255, _ => p_okP_of ok_255
  | 256, _ => p_okP_of ok_256
  | 257, _ => p_okP_of ok_257
  | 258, _ => p_okP_of ok_258
  | 259, _ => p_okP_of ok_259
  | 260, _ => p_okP_of ok_260
  | 261, _ => p_okP_of ok_261
  | 262, _ => p_okP_of ok_262
  | 263, _ => p_okP_of ok_263
  | 264, _ => p_okP_of ok_264
  | 265, _ => p_okP_of ok_265
  | 266, _ => p_okP_of ok_266
  | 267, _ => p_okP_of ok_267
  | 268, _ => p_okP_of ok_268
  | 269, _ => p_okP_of ok_269
  | 270, _ => p_okP_of ok_270
  | 271, _ => p_okP_of ok_271
  | 272, _ => p_okP_of ok_272
  | 273, _ => p_okP_of ok_273
  | 274, _ => p_okP_of ok_274
  | 275, _ => p_okP_of ok_275
  | 276, _ => p_okP_of ok_276
  | 277, _ => p_okP_of ok_277
  | 278, _ => p_okP_of ok_278
  | 279, _ => p_okP_of ok_279
  | 280, _ => p_okP_of ok_280
  | 281, _ => p_okP_of ok_281
  | 282, _ => p_okP_of ok_282
  | 283, _ => ok_283
  | n + 284, h => absurd h (by unfold p_nM; omega)
