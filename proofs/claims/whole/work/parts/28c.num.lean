/-! NUMBERS in one form: nI k for what is not below 0 -/
theorem n_0 : (0 : Int32) = nI 0 := rfl
theorem n_1 : (1 : Int32) = nI 1 := rfl
theorem n_2 : (2 : Int32) = nI 2 := rfl
theorem n_3 : (3 : Int32) = nI 3 := rfl
theorem n_4 : (4 : Int32) = nI 4 := rfl
theorem n_5 : (5 : Int32) = nI 5 := rfl
theorem n_6 : (6 : Int32) = nI 6 := rfl
theorem n_7 : (7 : Int32) = nI 7 := rfl
theorem n_8 : (8 : Int32) = nI 8 := rfl
theorem n_9 : (9 : Int32) = nI 9 := rfl
theorem n_10 : (10 : Int32) = nI 10 := rfl
theorem n_11 : (11 : Int32) = nI 11 := rfl
theorem n_12 : (12 : Int32) = nI 12 := rfl
theorem n_13 : (13 : Int32) = nI 13 := rfl
theorem n_14 : (14 : Int32) = nI 14 := rfl
theorem n_15 : (15 : Int32) = nI 15 := rfl
theorem n_16 : (16 : Int32) = nI 16 := rfl
theorem n_17 : (17 : Int32) = nI 17 := rfl
theorem n_18 : (18 : Int32) = nI 18 := rfl
theorem n_19 : (19 : Int32) = nI 19 := rfl
theorem n_20 : (20 : Int32) = nI 20 := rfl
theorem n_21 : (21 : Int32) = nI 21 := rfl
theorem n_22 : (22 : Int32) = nI 22 := rfl
theorem n_23 : (23 : Int32) = nI 23 := rfl
theorem n_24 : (24 : Int32) = nI 24 := rfl
theorem n_25 : (25 : Int32) = nI 25 := rfl
theorem n_26 : (26 : Int32) = nI 26 := rfl
theorem n_27 : (27 : Int32) = nI 27 := rfl
theorem n_28 : (28 : Int32) = nI 28 := rfl
theorem n_29 : (29 : Int32) = nI 29 := rfl
theorem n_30 : (30 : Int32) = nI 30 := rfl
theorem n_31 : (31 : Int32) = nI 31 := rfl
theorem n_32 : (32 : Int32) = nI 32 := rfl
theorem n_33 : (33 : Int32) = nI 33 := rfl
theorem n_34 : (34 : Int32) = nI 34 := rfl
theorem n_35 : (35 : Int32) = nI 35 := rfl
theorem n_36 : (36 : Int32) = nI 36 := rfl
theorem n_37 : (37 : Int32) = nI 37 := rfl
theorem n_38 : (38 : Int32) = nI 38 := rfl
theorem n_39 : (39 : Int32) = nI 39 := rfl
theorem n_40 : (40 : Int32) = nI 40 := rfl
theorem n_41 : (41 : Int32) = nI 41 := rfl
theorem n_42 : (42 : Int32) = nI 42 := rfl
theorem n_43 : (43 : Int32) = nI 43 := rfl
theorem n_44 : (44 : Int32) = nI 44 := rfl
theorem n_45 : (45 : Int32) = nI 45 := rfl
theorem n_46 : (46 : Int32) = nI 46 := rfl
theorem n_47 : (47 : Int32) = nI 47 := rfl
theorem n_48 : (48 : Int32) = nI 48 := rfl
theorem n_49 : (49 : Int32) = nI 49 := rfl
theorem n_50 : (50 : Int32) = nI 50 := rfl
theorem n_51 : (51 : Int32) = nI 51 := rfl
theorem n_52 : (52 : Int32) = nI 52 := rfl
theorem n_53 : (53 : Int32) = nI 53 := rfl
theorem n_54 : (54 : Int32) = nI 54 := rfl
theorem n_55 : (55 : Int32) = nI 55 := rfl
theorem n_56 : (56 : Int32) = nI 56 := rfl
theorem n_57 : (57 : Int32) = nI 57 := rfl
theorem n_58 : (58 : Int32) = nI 58 := rfl
theorem n_59 : (59 : Int32) = nI 59 := rfl
theorem n_60 : (60 : Int32) = nI 60 := rfl
theorem n_61 : (61 : Int32) = nI 61 := rfl
theorem n_62 : (62 : Int32) = nI 62 := rfl
theorem n_63 : (63 : Int32) = nI 63 := rfl
theorem n_64 : (64 : Int32) = nI 64 := rfl
theorem n_65 : (65 : Int32) = nI 65 := rfl
theorem n_66 : (66 : Int32) = nI 66 := rfl
theorem n_67 : (67 : Int32) = nI 67 := rfl
theorem n_68 : (68 : Int32) = nI 68 := rfl
theorem n_69 : (69 : Int32) = nI 69 := rfl
theorem n_70 : (70 : Int32) = nI 70 := rfl
theorem n_71 : (71 : Int32) = nI 71 := rfl
theorem n_72 : (72 : Int32) = nI 72 := rfl
theorem n_73 : (73 : Int32) = nI 73 := rfl
theorem n_74 : (74 : Int32) = nI 74 := rfl
theorem n_75 : (75 : Int32) = nI 75 := rfl
theorem n_76 : (76 : Int32) = nI 76 := rfl
theorem n_77 : (77 : Int32) = nI 77 := rfl
theorem n_78 : (78 : Int32) = nI 78 := rfl
theorem n_79 : (79 : Int32) = nI 79 := rfl
theorem n_80 : (80 : Int32) = nI 80 := rfl
theorem n_81 : (81 : Int32) = nI 81 := rfl
theorem n_82 : (82 : Int32) = nI 82 := rfl
theorem n_83 : (83 : Int32) = nI 83 := rfl
theorem n_84 : (84 : Int32) = nI 84 := rfl
theorem n_85 : (85 : Int32) = nI 85 := rfl
theorem n_86 : (86 : Int32) = nI 86 := rfl
theorem n_87 : (87 : Int32) = nI 87 := rfl
theorem n_88 : (88 : Int32) = nI 88 := rfl
theorem n_89 : (89 : Int32) = nI 89 := rfl
theorem n_90 : (90 : Int32) = nI 90 := rfl
theorem n_91 : (91 : Int32) = nI 91 := rfl
theorem n_92 : (92 : Int32) = nI 92 := rfl
theorem n_93 : (93 : Int32) = nI 93 := rfl
theorem n_94 : (94 : Int32) = nI 94 := rfl
theorem n_95 : (95 : Int32) = nI 95 := rfl
theorem n_96 : (96 : Int32) = nI 96 := rfl
theorem n_97 : (97 : Int32) = nI 97 := rfl
theorem n_98 : (98 : Int32) = nI 98 := rfl
theorem n_99 : (99 : Int32) = nI 99 := rfl
theorem n_100 : (100 : Int32) = nI 100 := rfl
theorem n_101 : (101 : Int32) = nI 101 := rfl
theorem n_102 : (102 : Int32) = nI 102 := rfl
theorem n_103 : (103 : Int32) = nI 103 := rfl
theorem n_104 : (104 : Int32) = nI 104 := rfl
theorem n_105 : (105 : Int32) = nI 105 := rfl
theorem n_106 : (106 : Int32) = nI 106 := rfl
theorem n_107 : (107 : Int32) = nI 107 := rfl
theorem n_108 : (108 : Int32) = nI 108 := rfl
theorem n_109 : (109 : Int32) = nI 109 := rfl
theorem n_110 : (110 : Int32) = nI 110 := rfl
theorem n_111 : (111 : Int32) = nI 111 := rfl
theorem n_112 : (112 : Int32) = nI 112 := rfl
theorem n_113 : (113 : Int32) = nI 113 := rfl
theorem n_114 : (114 : Int32) = nI 114 := rfl
theorem n_115 : (115 : Int32) = nI 115 := rfl
theorem n_116 : (116 : Int32) = nI 116 := rfl
theorem n_117 : (117 : Int32) = nI 117 := rfl
theorem n_119 : (119 : Int32) = nI 119 := rfl
theorem n_121 : (121 : Int32) = nI 121 := rfl
theorem n_122 : (122 : Int32) = nI 122 := rfl
theorem n_224 : (224 : Int32) = nI 224 := rfl
theorem n_238 : (238 : Int32) = nI 238 := rfl
theorem n_255 : (255 : Int32) = nI 255 := rfl
theorem n_256 : (256 : Int32) = nI 256 := rfl
theorem n_400 : (400 : Int32) = nI 400 := rfl
theorem n_401 : (401 : Int32) = nI 401 := rfl
theorem n_694 : (694 : Int32) = nI 694 := rfl
theorem n_999 : (999 : Int32) = nI 999 := rfl
theorem n_1000 : (1000 : Int32) = nI 1000 := rfl
theorem n_1001 : (1001 : Int32) = nI 1001 := rfl
theorem n_1103 : (1103 : Int32) = nI 1103 := rfl
theorem n_1388 : (1388 : Int32) = nI 1388 := rfl
theorem n_2400 : (2400 : Int32) = nI 2400 := rfl
theorem n_2864 : (2864 : Int32) = nI 2864 := rfl
theorem n_4858 : (4858 : Int32) = nI 4858 := rfl
theorem n_5664 : (5664 : Int32) = nI 5664 := rfl
theorem n_9999 : (9999 : Int32) = nI 9999 := rfl
theorem n_11328 : (11328 : Int32) = nI 11328 := rfl
theorem n_12345 : (12345 : Int32) = nI 12345 := rfl
theorem n_65535 : (65535 : Int32) = nI 65535 := rfl
theorem n_1000000 : (1000000 : Int32) = nI 1000000 := rfl
theorem n_1000003 : (1000003 : Int32) = nI 1000003 := rfl
theorem nn_lt {a b : Nat} (h : a < b) (hb : b < 2147483648) : (nI a < nI b) = True := eq_true (nI_lt h hb)
theorem nn_nlt {a b : Nat} (h : b ≤ a) (hb : a < 2147483648) : (nI a < nI b) = False := eq_false (nI_nlt h hb)
theorem nn_le {a b : Nat} (h : a ≤ b) (hb : b < 2147483648) : (nI a ≤ nI b) = True := eq_true (nI_le h hb)
theorem nn_nle {a b : Nat} (h : b < a) (hb : a < 2147483648) : (nI a ≤ nI b) = False := eq_false (nI_ge h hb)
theorem nn_ne {a b : Nat} (h : ¬ a = b) (ha : a < 2147483648) (hb : b < 2147483648) : (nI a = nI b) = False := eq_false (fun e => h ((nI_eq ha hb).mp e))
theorem nn_sub {a b : Nat} (h : b ≤ a) : nI a - nI b = nI (a - b) := by
  obtain ⟨c, rfl⟩ : ∃ c, a = c + b := ⟨a - b, by omega⟩
  rw [Nat.add_sub_cancel, ← nI_add, Int32.add_sub_cancel]
theorem nn_mul (a b : Nat) : nI a * nI b = nI (a * b) := (Int32.ofNat_mul a b).symm
/-- what is below 0 -/
def mI (k : Nat) : Int32 := -nI k
theorem nn_neg (k : Nat) : -nI k = mI k := rfl
theorem mI_toInt {k : Nat} (h : k < 2147483648) : (mI k).toInt = -(k : Int) := by
  unfold mI
  rw [Int32.toInt_neg, nI_toInt h]
  exact Int.bmod_eq_of_le (by omega) (by omega)
theorem nm_eq {a k : Nat} (h0 : 0 < k) (ha : a < 2147483648) (hk : k < 2147483648) : (nI a = mI k) = False := eq_false (fun e => by
  have := congrArg Int32.toInt e
  rw [nI_toInt ha, mI_toInt hk] at this
  omega)
theorem mn_eq {a k : Nat} (h0 : 0 < k) (ha : a < 2147483648) (hk : k < 2147483648) : (mI k = nI a) = False := eq_false (fun e => by
  have := congrArg Int32.toInt e
  rw [nI_toInt ha, mI_toInt hk] at this
  omega)
theorem mm_eq {a k : Nat} (h0 : ¬ a = k) (ha : a < 2147483648) (hk : k < 2147483648) : (mI a = mI k) = False := eq_false (fun e => by
  have := congrArg Int32.toInt e
  rw [mI_toInt ha, mI_toInt hk] at this
  omega)
theorem mn_lt {a k : Nat} (h0 : 0 < k) (ha : a < 2147483648) (hk : k < 2147483648) : (mI k < nI a) = True := eq_true (by
  rw [Int32.lt_iff_toInt_lt, nI_toInt ha, mI_toInt hk]; omega)
theorem nm_lt {a k : Nat} (ha : a < 2147483648) (hk : k < 2147483648) : (nI a < mI k) = False := eq_false (by
  rw [Int32.lt_iff_toInt_lt, nI_toInt ha, mI_toInt hk]; omega)
theorem mn_le {a k : Nat} (ha : a < 2147483648) (hk : k < 2147483648) : (mI k ≤ nI a) = True := eq_true (by
  rw [Int32.le_iff_toInt_le, nI_toInt ha, mI_toInt hk]; omega)
theorem nm_le {a k : Nat} (h0 : 0 < k) (ha : a < 2147483648) (hk : k < 2147483648) : (nI a ≤ mI k) = False := eq_false (by
  rw [Int32.le_iff_toInt_le, nI_toInt ha, mI_toInt hk]; omega)
theorem nn_sub0 {a b : Nat} (h : a < b) : nI a - nI b = mI (b - a) := by
  obtain ⟨c, rfl⟩ : ∃ c, b = a + c := ⟨b - a, by omega⟩
  unfold mI
  rw [show a + c - a = c by omega, ← nI_add]
  rw [Int32.sub_eq_add_neg, Int32.neg_add, Int32.sub_eq_add_neg, ← Int32.add_assoc, Int32.add_right_neg, Int32.zero_add]
theorem nn_c {a : Nat} (ha : a < 2147483648) : (nI a).toNatClampNeg = a := nI_clamp ha
theorem nn_in {a n : Nat} (h : a < n) (hn : n < 2147483648) : vp_in (nI a) n = True := eq_true (vp_in_nI h hn)
theorem nn_div {a b : Nat} (ha : a < 2147483648) (h0 : 0 < b) (hb : b < 2147483648) : nI a / nI b = nI (a / b) := by
  refine Int32.toInt_inj.mp ?_
  have h1 : a / b ≤ a := Nat.div_le_self a b
  rw [Int32.toInt_div, nI_toInt ha, nI_toInt hb, nI_toInt (by omega), Int.tdiv_eq_ediv_of_nonneg (by omega), ← Int.natCast_ediv]
  exact Int.bmod_eq_of_le (by have := Int.natCast_nonneg (a / b); omega) (by omega)
theorem nn_rem {a b : Nat} (ha : a < 2147483648) (h0 : 0 < b) (hb : b < 2147483648) : nI a - nI a / nI b * nI b = nI (a % b) := by
  rw [nn_div ha h0 hb, nn_mul, nn_sub (Nat.div_mul_le_self a b)]
  congr 1
  have := Nat.div_add_mod a b
  rw [Nat.mul_comm] at this
  omega
theorem pf_at {α : Type} {f : Nat → Nat → α} {a : Nat} {g : Nat → α} : p_fn f a g a = g := if_pos rfl
theorem pf_ne {α : Type} {f : Nat → Nat → α} {a b : Nat} {g : Nat → α} (h : ¬ b = a) : p_fn f a g b = f b := if_neg h
theorem mk_cp {Ls : Nat} {I : Nat → Nat → Int32} {L : Nat → Nat → Int64} {R : Nat → Nat → Option Nat} {X : List pKd} {b : Nat} {g : Nat → Int32} : ((p_fn (p_mk Ls I L R X).1 b g, (p_mk Ls I L R X).2) : pHp) = p_mk Ls (p_fn I b g) L R X := rfl
theorem mk_1 {Ls : Nat} {I : Nat → Nat → Int32} {L : Nat → Nat → Int64} {R : Nat → Nat → Option Nat} {X : List pKd} : (p_mk Ls I L R X).1 = I := rfl
theorem down_ind {P : Nat → Prop} {n : Nat} (last : P n) (step : ∀ i, i < n → P (i + 1) → P i) : ∀ i, i ≤ n → P i := by
  intro i hi
  obtain ⟨m, rfl⟩ : ∃ m, n = i + m := ⟨n - i, by omega⟩
  induction m generalizing i with
  | zero => exact last
  | succ m ih => exact step i (by omega) (ih (i + 1) (by rw [Nat.add_right_comm]; exact last) (fun j hj => step j (by omega)) (by omega))
/-- one more copied -/
theorem cpy_0 {α : Type} {f g : Nat → α} {sp dp : Nat} : va_cpy f g sp dp 0 = g := by
  funext k; unfold va_cpy; rw [if_neg (by omega)]
theorem cpy_1 {f g : Nat → Int32} {sp dp n : Nat} : upd (va_cpy f g sp dp n) (dp + n) (f (sp + n)) = va_cpy f g sp dp (n + 1) := by
  funext k
  unfold va_cpy upd
  dsimp only
  by_cases e : k = dp + n
  · subst e
    rw [if_pos rfl, if_pos (by omega)]
    congr 1; omega
  · rw [if_neg e]
    by_cases c : dp ≤ k ∧ k < dp + n
    · rw [if_pos c, if_pos (by omega)]
    · rw [if_neg c, if_neg (by omega)]
theorem pu_pf {f : Nat → Nat → Int32} {a k : Nat} {v : Int32} {g : Nat → Int32} : p_u (p_fn f a g) a k v = p_fn f a (upd g k v) := by
  funext b
  by_cases e : b = a
  · subst e; rw [p_u_self, pf_at, pf_at]
  · rw [p_u_ne e, pf_ne e, pf_ne e]
theorem pf_self {α : Type} {f : Nat → Nat → α} {a : Nat} : p_fn f a (f a) = f := by
  funext b
  by_cases e : b = a
  · subst e; rw [pf_at]
  · rw [pf_ne e]
theorem nat_rem (a b : Nat) : a - a / b * b = a % b := by
  have := Nat.div_add_mod a b
  rw [Nat.mul_comm] at this
  omega
theorem nn_of (k : Nat) : Int32.ofNat k = nI k := rfl
theorem mk_s {Ls : Nat} {I J : Nat → Nat → Int32} {L : Nat → Nat → Int64} {R : Nat → Nat → Option Nat} {X : List pKd} : ((J, (p_mk Ls I L R X).2) : pHp) = p_mk Ls J L R X := rfl
theorem nv_b1 : p_nv 3 (nI 1) = nI 1 := by decide
theorem nv_b1' : p_nv 3 1 = 1 := by decide
