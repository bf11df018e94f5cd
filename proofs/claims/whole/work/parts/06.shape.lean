/-! THE SHAPE of the heap behind both constructors: kinds, and the references that never change; by program -/
def p_SH (Ls : Nat) : List pKd := [(1, 5), (1, 3), (1, Ls), (2, 18), (2, 15), (2, 34), (2, 47), (2, 5), (2, 2), (2, 3), (2, 3), (2, 2), (0, 10), (0, 10), (0, 10), (0, 10), (0, 10), (0, 10), (0, 10), (0, 10), (0, 10), (98, 0), (98, 0), (98, 0), (98, 0), (98, 0), (98, 0), (98, 0), (98, 0), (98, 0), (98, 0), (98, 0), (0, 8), (0, 6), (1, 400), (0, 5), (0, 7), (1, 12), (1, 12), (1, 12), (1, 12), (1, 12), (1, 400), (1, 400), (1, 0), (0, 2), (1, 19), (1, 64), (0, 3), (0, 2), (1, 19), (1, 64), (0, 1), (1, 8), (1, 8), (1, 8), (1, 8), (1, 8), (1, 6), (1, 3), (5, 6), (1, 7), (1, 256), (1, 72), (1, 32), (1, 8), (1, 7), (4, 1388), (2, 4858), (1, 8), (0, 0), (0, 1), (1, 8), (1, 8), (1, 8), (1, 8), (1, 8), (1, 6), (1, 3), (5, 6), (0, 4), (1, 238), (0, 1), (1, 8), (1, 8), (1, 8), (1, 8), (1, 8), (1, 6), (1, 3), (5, 6), (0, 4), (1, 238), (0, 1), (1, 8), (1, 8), (1, 8), (1, 8), (1, 8), (1, 6), (1, 3), (5, 6), (6, 2), (0, 1), (1, 8), (1, 8), (1, 8), (1, 8), (1, 8), (1, 6), (1, 3), (5, 6), (0, 1), (1, 8), (1, 8), (1, 8), (1, 8), (1, 8), (1, 6), (1, 3), (5, 6), (3, 2), (1, 7), (0, 9), (1, 7), (1, 5664), (1, 11328), (3, 2), (1, 26), (2, 115), (2, 400), (1, 5), (1, 401), (1, 401), (1, 401), (1, 9), (1, 224), (1, 224), (1, 256), (1, 8), (1, 8), (1, 13)]
def p_srT : List (List (Option Nat)) := [[], [], [], [], [], [], [], [], [], [], [], [], [some 3], [some 4], [some 5], [some 6], [some 7], [some 8], [some 9], [some 10], [some 11], [], [], [], [], [], [], [], [], [], [none, some 0, some 1], [], [some 33, some 35, some 45, some 48, some 70, some 71, some 80, some 82, some 91, some 93, none, some 102, some 121, some 122], [some 34], [], [some 36], [none, some 37, some 38, some 39, some 40, some 41, none, some 42, some 43], [], [], [], [], [], [], [], [], [some 46, some 47], [], [], [some 49, none, none, none, none, none, some 61, some 62, some 63, some 64, some 65, none, some 66, some 67, some 68, some 69], [some 50, some 51], [], [], [none, some 53, none, some 54, some 55, some 56, some 57, none, none, none, none, some 58, some 59, none, some 60], [], [], [], [], [], [], [], [], [], [], [], [], [], [], [], [], [], [], [none, some 72, none, some 73, some 74, some 75, some 76, none, none, none, none, some 77, some 78, none, some 79], [], [], [], [], [], [], [], [], [some 81], [], [none, some 83, none, some 84, some 85, some 86, some 87, none, none, none, none, some 88, some 89, none, some 90], [], [], [], [], [], [], [], [], [some 92], [], [none, some 94, none, some 95, some 96, some 97, some 98, none, none, none, none, some 99, some 100, none, some 101], [], [], [], [], [], [], [], [], [some 103, some 112], [none, some 104, none, some 105, some 106, some 107, some 108, none, none, none, none, some 109, some 110, none, some 111], [], [], [], [], [], [], [], [], [none, some 113, none, some 114, some 115, some 116, some 117, none, none, none, none, some 118, some 119, none, some 120], [], [], [], [], [], [], [], [], [], [], [none, some 124, some 125, some 126, some 127, some 128, none, some 129, none, none, none, some 130, some 131, none, none, some 132, some 133, some 134, none, none, none, none, none, none, none, none, some 135, none, none, some 136, some 137, none, some 138, none, some 139, some 140, none, none, none, none, none, none, none, none, none, some 141], [], [], [], [], [], [], [], [], [], [], [], [], [], [], [], [], [], []]
def p_nt2 {α : Type} : List α → Nat → Option α
  | [], _ => none
  | x :: _, 0 => some x
  | _ :: l, n + 1 => p_nt2 l n
def p_sr (a k : Nat) : Option Nat := match p_nt2 p_srT a with
  | some l => (p_nt2 l k).getD none
  | none => none
def p_ovl (R : Nat → Nat → Option Nat) : Nat → Nat → Option Nat := fun a k => match p_sr a k with
  | some b => some b
  | none => R a k
def p_mk (Ls : Nat) (I : Nat → Nat → Int32) (L : Nat → Nat → Int64) (R : Nat → Nat → Option Nat) (X : List pKd) : pHp := (I, L, p_ovl R, p_SH Ls ++ X)
section SHP
variable (Ls : Nat) (I : Nat → Nat → Int32) (L : Nat → Nat → Int64) (R : Nat → Nat → Option Nat) (X : List pKd)
theorem mk_I : p_I (p_mk Ls I L R X) = I := rfl
theorem mk_L : p_L (p_mk Ls I L R X) = L := rfl
def p_u {α : Type} (f : Nat → Nat → α) (a k : Nat) (v : α) : Nat → Nat → α := p_fn f a (fun j => if j = k then v else f a j)
theorem mk_wI (a k : Nat) (v : Int32) : p_wI (p_mk Ls I L R X) a k v = p_mk Ls (p_u I a k v) L R X := rfl
theorem mk_wL (a k : Nat) (v : Int64) : p_wL (p_mk Ls I L R X) a k v = p_mk Ls I (p_u L a k v) R X := rfl
theorem kd_0 : p_kd (p_mk Ls I L R X) 0 = (1, 5) := rfl
theorem kd_1 : p_kd (p_mk Ls I L R X) 1 = (1, 3) := rfl
theorem kd_2 : p_kd (p_mk Ls I L R X) 2 = (1, Ls) := rfl
theorem kd_3 : p_kd (p_mk Ls I L R X) 3 = (2, 18) := rfl
theorem kd_4 : p_kd (p_mk Ls I L R X) 4 = (2, 15) := rfl
theorem kd_5 : p_kd (p_mk Ls I L R X) 5 = (2, 34) := rfl
theorem kd_6 : p_kd (p_mk Ls I L R X) 6 = (2, 47) := rfl
theorem kd_7 : p_kd (p_mk Ls I L R X) 7 = (2, 5) := rfl
theorem kd_8 : p_kd (p_mk Ls I L R X) 8 = (2, 2) := rfl
theorem kd_9 : p_kd (p_mk Ls I L R X) 9 = (2, 3) := rfl
theorem kd_10 : p_kd (p_mk Ls I L R X) 10 = (2, 3) := rfl
theorem kd_11 : p_kd (p_mk Ls I L R X) 11 = (2, 2) := rfl
theorem kd_12 : p_kd (p_mk Ls I L R X) 12 = (0, 10) := rfl
theorem kd_13 : p_kd (p_mk Ls I L R X) 13 = (0, 10) := rfl
theorem kd_14 : p_kd (p_mk Ls I L R X) 14 = (0, 10) := rfl
theorem kd_15 : p_kd (p_mk Ls I L R X) 15 = (0, 10) := rfl
theorem kd_16 : p_kd (p_mk Ls I L R X) 16 = (0, 10) := rfl
theorem kd_17 : p_kd (p_mk Ls I L R X) 17 = (0, 10) := rfl
theorem kd_18 : p_kd (p_mk Ls I L R X) 18 = (0, 10) := rfl
theorem kd_19 : p_kd (p_mk Ls I L R X) 19 = (0, 10) := rfl
theorem kd_20 : p_kd (p_mk Ls I L R X) 20 = (0, 10) := rfl
theorem kd_32 : p_kd (p_mk Ls I L R X) 32 = (0, 8) := rfl
theorem kd_33 : p_kd (p_mk Ls I L R X) 33 = (0, 6) := rfl
theorem kd_34 : p_kd (p_mk Ls I L R X) 34 = (1, 400) := rfl
theorem kd_35 : p_kd (p_mk Ls I L R X) 35 = (0, 5) := rfl
theorem kd_36 : p_kd (p_mk Ls I L R X) 36 = (0, 7) := rfl
theorem kd_37 : p_kd (p_mk Ls I L R X) 37 = (1, 12) := rfl
theorem kd_38 : p_kd (p_mk Ls I L R X) 38 = (1, 12) := rfl
theorem kd_39 : p_kd (p_mk Ls I L R X) 39 = (1, 12) := rfl
theorem kd_40 : p_kd (p_mk Ls I L R X) 40 = (1, 12) := rfl
theorem kd_41 : p_kd (p_mk Ls I L R X) 41 = (1, 12) := rfl
theorem kd_42 : p_kd (p_mk Ls I L R X) 42 = (1, 400) := rfl
theorem kd_43 : p_kd (p_mk Ls I L R X) 43 = (1, 400) := rfl
theorem kd_44 : p_kd (p_mk Ls I L R X) 44 = (1, 0) := rfl
theorem kd_45 : p_kd (p_mk Ls I L R X) 45 = (0, 2) := rfl
theorem kd_46 : p_kd (p_mk Ls I L R X) 46 = (1, 19) := rfl
theorem kd_47 : p_kd (p_mk Ls I L R X) 47 = (1, 64) := rfl
theorem kd_48 : p_kd (p_mk Ls I L R X) 48 = (0, 3) := rfl
theorem kd_49 : p_kd (p_mk Ls I L R X) 49 = (0, 2) := rfl
theorem kd_50 : p_kd (p_mk Ls I L R X) 50 = (1, 19) := rfl
theorem kd_51 : p_kd (p_mk Ls I L R X) 51 = (1, 64) := rfl
theorem kd_52 : p_kd (p_mk Ls I L R X) 52 = (0, 1) := rfl
theorem kd_53 : p_kd (p_mk Ls I L R X) 53 = (1, 8) := rfl
theorem kd_54 : p_kd (p_mk Ls I L R X) 54 = (1, 8) := rfl
theorem kd_55 : p_kd (p_mk Ls I L R X) 55 = (1, 8) := rfl
theorem kd_56 : p_kd (p_mk Ls I L R X) 56 = (1, 8) := rfl
theorem kd_57 : p_kd (p_mk Ls I L R X) 57 = (1, 8) := rfl
theorem kd_58 : p_kd (p_mk Ls I L R X) 58 = (1, 6) := rfl
theorem kd_59 : p_kd (p_mk Ls I L R X) 59 = (1, 3) := rfl
theorem kd_60 : p_kd (p_mk Ls I L R X) 60 = (5, 6) := rfl
theorem kd_61 : p_kd (p_mk Ls I L R X) 61 = (1, 7) := rfl
theorem kd_62 : p_kd (p_mk Ls I L R X) 62 = (1, 256) := rfl
theorem kd_63 : p_kd (p_mk Ls I L R X) 63 = (1, 72) := rfl
theorem kd_64 : p_kd (p_mk Ls I L R X) 64 = (1, 32) := rfl
theorem kd_65 : p_kd (p_mk Ls I L R X) 65 = (1, 8) := rfl
theorem kd_66 : p_kd (p_mk Ls I L R X) 66 = (1, 7) := rfl
theorem kd_67 : p_kd (p_mk Ls I L R X) 67 = (4, 1388) := rfl
theorem kd_68 : p_kd (p_mk Ls I L R X) 68 = (2, 4858) := rfl
theorem kd_69 : p_kd (p_mk Ls I L R X) 69 = (1, 8) := rfl
theorem kd_70 : p_kd (p_mk Ls I L R X) 70 = (0, 0) := rfl
theorem kd_71 : p_kd (p_mk Ls I L R X) 71 = (0, 1) := rfl
theorem kd_72 : p_kd (p_mk Ls I L R X) 72 = (1, 8) := rfl
theorem kd_73 : p_kd (p_mk Ls I L R X) 73 = (1, 8) := rfl
theorem kd_74 : p_kd (p_mk Ls I L R X) 74 = (1, 8) := rfl
theorem kd_75 : p_kd (p_mk Ls I L R X) 75 = (1, 8) := rfl
theorem kd_76 : p_kd (p_mk Ls I L R X) 76 = (1, 8) := rfl
theorem kd_77 : p_kd (p_mk Ls I L R X) 77 = (1, 6) := rfl
theorem kd_78 : p_kd (p_mk Ls I L R X) 78 = (1, 3) := rfl
theorem kd_79 : p_kd (p_mk Ls I L R X) 79 = (5, 6) := rfl
theorem kd_80 : p_kd (p_mk Ls I L R X) 80 = (0, 4) := rfl
theorem kd_81 : p_kd (p_mk Ls I L R X) 81 = (1, 238) := rfl
theorem kd_82 : p_kd (p_mk Ls I L R X) 82 = (0, 1) := rfl
theorem kd_83 : p_kd (p_mk Ls I L R X) 83 = (1, 8) := rfl
theorem kd_84 : p_kd (p_mk Ls I L R X) 84 = (1, 8) := rfl
theorem kd_85 : p_kd (p_mk Ls I L R X) 85 = (1, 8) := rfl
theorem kd_86 : p_kd (p_mk Ls I L R X) 86 = (1, 8) := rfl
theorem kd_87 : p_kd (p_mk Ls I L R X) 87 = (1, 8) := rfl
theorem kd_88 : p_kd (p_mk Ls I L R X) 88 = (1, 6) := rfl
theorem kd_89 : p_kd (p_mk Ls I L R X) 89 = (1, 3) := rfl
theorem kd_90 : p_kd (p_mk Ls I L R X) 90 = (5, 6) := rfl
theorem kd_91 : p_kd (p_mk Ls I L R X) 91 = (0, 4) := rfl
theorem kd_92 : p_kd (p_mk Ls I L R X) 92 = (1, 238) := rfl
theorem kd_93 : p_kd (p_mk Ls I L R X) 93 = (0, 1) := rfl
theorem kd_94 : p_kd (p_mk Ls I L R X) 94 = (1, 8) := rfl
theorem kd_95 : p_kd (p_mk Ls I L R X) 95 = (1, 8) := rfl
theorem kd_96 : p_kd (p_mk Ls I L R X) 96 = (1, 8) := rfl
theorem kd_97 : p_kd (p_mk Ls I L R X) 97 = (1, 8) := rfl
theorem kd_98 : p_kd (p_mk Ls I L R X) 98 = (1, 8) := rfl
theorem kd_99 : p_kd (p_mk Ls I L R X) 99 = (1, 6) := rfl
theorem kd_100 : p_kd (p_mk Ls I L R X) 100 = (1, 3) := rfl
theorem kd_101 : p_kd (p_mk Ls I L R X) 101 = (5, 6) := rfl
theorem kd_102 : p_kd (p_mk Ls I L R X) 102 = (6, 2) := rfl
theorem kd_103 : p_kd (p_mk Ls I L R X) 103 = (0, 1) := rfl
theorem kd_104 : p_kd (p_mk Ls I L R X) 104 = (1, 8) := rfl
theorem kd_105 : p_kd (p_mk Ls I L R X) 105 = (1, 8) := rfl
theorem kd_106 : p_kd (p_mk Ls I L R X) 106 = (1, 8) := rfl
theorem kd_107 : p_kd (p_mk Ls I L R X) 107 = (1, 8) := rfl
theorem kd_108 : p_kd (p_mk Ls I L R X) 108 = (1, 8) := rfl
theorem kd_109 : p_kd (p_mk Ls I L R X) 109 = (1, 6) := rfl
theorem kd_110 : p_kd (p_mk Ls I L R X) 110 = (1, 3) := rfl
theorem kd_111 : p_kd (p_mk Ls I L R X) 111 = (5, 6) := rfl
theorem kd_112 : p_kd (p_mk Ls I L R X) 112 = (0, 1) := rfl
theorem kd_113 : p_kd (p_mk Ls I L R X) 113 = (1, 8) := rfl
theorem kd_114 : p_kd (p_mk Ls I L R X) 114 = (1, 8) := rfl
theorem kd_115 : p_kd (p_mk Ls I L R X) 115 = (1, 8) := rfl
theorem kd_116 : p_kd (p_mk Ls I L R X) 116 = (1, 8) := rfl
theorem kd_117 : p_kd (p_mk Ls I L R X) 117 = (1, 8) := rfl
theorem kd_118 : p_kd (p_mk Ls I L R X) 118 = (1, 6) := rfl
theorem kd_119 : p_kd (p_mk Ls I L R X) 119 = (1, 3) := rfl
theorem kd_120 : p_kd (p_mk Ls I L R X) 120 = (5, 6) := rfl
theorem kd_121 : p_kd (p_mk Ls I L R X) 121 = (3, 2) := rfl
theorem kd_122 : p_kd (p_mk Ls I L R X) 122 = (1, 7) := rfl
theorem kd_123 : p_kd (p_mk Ls I L R X) 123 = (0, 9) := rfl
theorem kd_124 : p_kd (p_mk Ls I L R X) 124 = (1, 7) := rfl
theorem kd_125 : p_kd (p_mk Ls I L R X) 125 = (1, 5664) := rfl
theorem kd_126 : p_kd (p_mk Ls I L R X) 126 = (1, 11328) := rfl
theorem kd_127 : p_kd (p_mk Ls I L R X) 127 = (3, 2) := rfl
theorem kd_128 : p_kd (p_mk Ls I L R X) 128 = (1, 26) := rfl
theorem kd_129 : p_kd (p_mk Ls I L R X) 129 = (2, 115) := rfl
theorem kd_130 : p_kd (p_mk Ls I L R X) 130 = (2, 400) := rfl
theorem kd_131 : p_kd (p_mk Ls I L R X) 131 = (1, 5) := rfl
theorem kd_132 : p_kd (p_mk Ls I L R X) 132 = (1, 401) := rfl
theorem kd_133 : p_kd (p_mk Ls I L R X) 133 = (1, 401) := rfl
theorem kd_134 : p_kd (p_mk Ls I L R X) 134 = (1, 401) := rfl
theorem kd_135 : p_kd (p_mk Ls I L R X) 135 = (1, 9) := rfl
theorem kd_136 : p_kd (p_mk Ls I L R X) 136 = (1, 224) := rfl
theorem kd_137 : p_kd (p_mk Ls I L R X) 137 = (1, 224) := rfl
theorem kd_138 : p_kd (p_mk Ls I L R X) 138 = (1, 256) := rfl
theorem kd_139 : p_kd (p_mk Ls I L R X) 139 = (1, 8) := rfl
theorem kd_140 : p_kd (p_mk Ls I L R X) 140 = (1, 8) := rfl
theorem kd_141 : p_kd (p_mk Ls I L R X) 141 = (1, 13) := rfl
theorem rf_12_0 : p_R (p_mk Ls I L R X) 12 0 = some 3 := rfl
theorem rf_13_0 : p_R (p_mk Ls I L R X) 13 0 = some 4 := rfl
theorem rf_14_0 : p_R (p_mk Ls I L R X) 14 0 = some 5 := rfl
theorem rf_15_0 : p_R (p_mk Ls I L R X) 15 0 = some 6 := rfl
theorem rf_16_0 : p_R (p_mk Ls I L R X) 16 0 = some 7 := rfl
theorem rf_17_0 : p_R (p_mk Ls I L R X) 17 0 = some 8 := rfl
theorem rf_18_0 : p_R (p_mk Ls I L R X) 18 0 = some 9 := rfl
theorem rf_19_0 : p_R (p_mk Ls I L R X) 19 0 = some 10 := rfl
theorem rf_20_0 : p_R (p_mk Ls I L R X) 20 0 = some 11 := rfl
theorem rf_30_1 : p_R (p_mk Ls I L R X) 30 1 = some 0 := rfl
theorem rf_30_2 : p_R (p_mk Ls I L R X) 30 2 = some 1 := rfl
theorem rf_32_0 : p_R (p_mk Ls I L R X) 32 0 = some 33 := rfl
theorem rf_32_1 : p_R (p_mk Ls I L R X) 32 1 = some 35 := rfl
theorem rf_32_2 : p_R (p_mk Ls I L R X) 32 2 = some 45 := rfl
theorem rf_32_3 : p_R (p_mk Ls I L R X) 32 3 = some 48 := rfl
theorem rf_32_4 : p_R (p_mk Ls I L R X) 32 4 = some 70 := rfl
theorem rf_32_5 : p_R (p_mk Ls I L R X) 32 5 = some 71 := rfl
theorem rf_32_6 : p_R (p_mk Ls I L R X) 32 6 = some 80 := rfl
theorem rf_32_7 : p_R (p_mk Ls I L R X) 32 7 = some 82 := rfl
theorem rf_32_8 : p_R (p_mk Ls I L R X) 32 8 = some 91 := rfl
theorem rf_32_9 : p_R (p_mk Ls I L R X) 32 9 = some 93 := rfl
theorem rf_32_11 : p_R (p_mk Ls I L R X) 32 11 = some 102 := rfl
theorem rf_32_12 : p_R (p_mk Ls I L R X) 32 12 = some 121 := rfl
theorem rf_32_13 : p_R (p_mk Ls I L R X) 32 13 = some 122 := rfl
theorem rf_33_0 : p_R (p_mk Ls I L R X) 33 0 = some 34 := rfl
theorem rf_35_0 : p_R (p_mk Ls I L R X) 35 0 = some 36 := rfl
theorem rf_36_1 : p_R (p_mk Ls I L R X) 36 1 = some 37 := rfl
theorem rf_36_2 : p_R (p_mk Ls I L R X) 36 2 = some 38 := rfl
theorem rf_36_3 : p_R (p_mk Ls I L R X) 36 3 = some 39 := rfl
theorem rf_36_4 : p_R (p_mk Ls I L R X) 36 4 = some 40 := rfl
theorem rf_36_5 : p_R (p_mk Ls I L R X) 36 5 = some 41 := rfl
theorem rf_36_7 : p_R (p_mk Ls I L R X) 36 7 = some 42 := rfl
theorem rf_36_8 : p_R (p_mk Ls I L R X) 36 8 = some 43 := rfl
theorem rf_45_0 : p_R (p_mk Ls I L R X) 45 0 = some 46 := rfl
theorem rf_45_1 : p_R (p_mk Ls I L R X) 45 1 = some 47 := rfl
theorem rf_48_0 : p_R (p_mk Ls I L R X) 48 0 = some 49 := rfl
theorem rf_48_6 : p_R (p_mk Ls I L R X) 48 6 = some 61 := rfl
theorem rf_48_7 : p_R (p_mk Ls I L R X) 48 7 = some 62 := rfl
theorem rf_48_8 : p_R (p_mk Ls I L R X) 48 8 = some 63 := rfl
theorem rf_48_9 : p_R (p_mk Ls I L R X) 48 9 = some 64 := rfl
theorem rf_48_10 : p_R (p_mk Ls I L R X) 48 10 = some 65 := rfl
theorem rf_48_12 : p_R (p_mk Ls I L R X) 48 12 = some 66 := rfl
theorem rf_48_13 : p_R (p_mk Ls I L R X) 48 13 = some 67 := rfl
theorem rf_48_14 : p_R (p_mk Ls I L R X) 48 14 = some 68 := rfl
theorem rf_48_15 : p_R (p_mk Ls I L R X) 48 15 = some 69 := rfl
theorem rf_49_0 : p_R (p_mk Ls I L R X) 49 0 = some 50 := rfl
theorem rf_49_1 : p_R (p_mk Ls I L R X) 49 1 = some 51 := rfl
theorem rf_52_1 : p_R (p_mk Ls I L R X) 52 1 = some 53 := rfl
theorem rf_52_3 : p_R (p_mk Ls I L R X) 52 3 = some 54 := rfl
theorem rf_52_4 : p_R (p_mk Ls I L R X) 52 4 = some 55 := rfl
theorem rf_52_5 : p_R (p_mk Ls I L R X) 52 5 = some 56 := rfl
theorem rf_52_6 : p_R (p_mk Ls I L R X) 52 6 = some 57 := rfl
theorem rf_52_11 : p_R (p_mk Ls I L R X) 52 11 = some 58 := rfl
theorem rf_52_12 : p_R (p_mk Ls I L R X) 52 12 = some 59 := rfl
theorem rf_52_14 : p_R (p_mk Ls I L R X) 52 14 = some 60 := rfl
theorem rf_71_1 : p_R (p_mk Ls I L R X) 71 1 = some 72 := rfl
theorem rf_71_3 : p_R (p_mk Ls I L R X) 71 3 = some 73 := rfl
theorem rf_71_4 : p_R (p_mk Ls I L R X) 71 4 = some 74 := rfl
theorem rf_71_5 : p_R (p_mk Ls I L R X) 71 5 = some 75 := rfl
theorem rf_71_6 : p_R (p_mk Ls I L R X) 71 6 = some 76 := rfl
theorem rf_71_11 : p_R (p_mk Ls I L R X) 71 11 = some 77 := rfl
theorem rf_71_12 : p_R (p_mk Ls I L R X) 71 12 = some 78 := rfl
theorem rf_71_14 : p_R (p_mk Ls I L R X) 71 14 = some 79 := rfl
theorem rf_80_0 : p_R (p_mk Ls I L R X) 80 0 = some 81 := rfl
theorem rf_82_1 : p_R (p_mk Ls I L R X) 82 1 = some 83 := rfl
theorem rf_82_3 : p_R (p_mk Ls I L R X) 82 3 = some 84 := rfl
theorem rf_82_4 : p_R (p_mk Ls I L R X) 82 4 = some 85 := rfl
theorem rf_82_5 : p_R (p_mk Ls I L R X) 82 5 = some 86 := rfl
theorem rf_82_6 : p_R (p_mk Ls I L R X) 82 6 = some 87 := rfl
theorem rf_82_11 : p_R (p_mk Ls I L R X) 82 11 = some 88 := rfl
theorem rf_82_12 : p_R (p_mk Ls I L R X) 82 12 = some 89 := rfl
theorem rf_82_14 : p_R (p_mk Ls I L R X) 82 14 = some 90 := rfl
theorem rf_91_0 : p_R (p_mk Ls I L R X) 91 0 = some 92 := rfl
theorem rf_93_1 : p_R (p_mk Ls I L R X) 93 1 = some 94 := rfl
theorem rf_93_3 : p_R (p_mk Ls I L R X) 93 3 = some 95 := rfl
theorem rf_93_4 : p_R (p_mk Ls I L R X) 93 4 = some 96 := rfl
theorem rf_93_5 : p_R (p_mk Ls I L R X) 93 5 = some 97 := rfl
theorem rf_93_6 : p_R (p_mk Ls I L R X) 93 6 = some 98 := rfl
theorem rf_93_11 : p_R (p_mk Ls I L R X) 93 11 = some 99 := rfl
theorem rf_93_12 : p_R (p_mk Ls I L R X) 93 12 = some 100 := rfl
theorem rf_93_14 : p_R (p_mk Ls I L R X) 93 14 = some 101 := rfl
theorem rf_102_0 : p_R (p_mk Ls I L R X) 102 0 = some 103 := rfl
theorem rf_102_1 : p_R (p_mk Ls I L R X) 102 1 = some 112 := rfl
theorem rf_103_1 : p_R (p_mk Ls I L R X) 103 1 = some 104 := rfl
theorem rf_103_3 : p_R (p_mk Ls I L R X) 103 3 = some 105 := rfl
theorem rf_103_4 : p_R (p_mk Ls I L R X) 103 4 = some 106 := rfl
theorem rf_103_5 : p_R (p_mk Ls I L R X) 103 5 = some 107 := rfl
theorem rf_103_6 : p_R (p_mk Ls I L R X) 103 6 = some 108 := rfl
theorem rf_103_11 : p_R (p_mk Ls I L R X) 103 11 = some 109 := rfl
theorem rf_103_12 : p_R (p_mk Ls I L R X) 103 12 = some 110 := rfl
theorem rf_103_14 : p_R (p_mk Ls I L R X) 103 14 = some 111 := rfl
theorem rf_112_1 : p_R (p_mk Ls I L R X) 112 1 = some 113 := rfl
theorem rf_112_3 : p_R (p_mk Ls I L R X) 112 3 = some 114 := rfl
theorem rf_112_4 : p_R (p_mk Ls I L R X) 112 4 = some 115 := rfl
theorem rf_112_5 : p_R (p_mk Ls I L R X) 112 5 = some 116 := rfl
theorem rf_112_6 : p_R (p_mk Ls I L R X) 112 6 = some 117 := rfl
theorem rf_112_11 : p_R (p_mk Ls I L R X) 112 11 = some 118 := rfl
theorem rf_112_12 : p_R (p_mk Ls I L R X) 112 12 = some 119 := rfl
theorem rf_112_14 : p_R (p_mk Ls I L R X) 112 14 = some 120 := rfl
theorem rf_123_1 : p_R (p_mk Ls I L R X) 123 1 = some 124 := rfl
theorem rf_123_2 : p_R (p_mk Ls I L R X) 123 2 = some 125 := rfl
theorem rf_123_3 : p_R (p_mk Ls I L R X) 123 3 = some 126 := rfl
theorem rf_123_4 : p_R (p_mk Ls I L R X) 123 4 = some 127 := rfl
theorem rf_123_5 : p_R (p_mk Ls I L R X) 123 5 = some 128 := rfl
theorem rf_123_7 : p_R (p_mk Ls I L R X) 123 7 = some 129 := rfl
theorem rf_123_11 : p_R (p_mk Ls I L R X) 123 11 = some 130 := rfl
theorem rf_123_12 : p_R (p_mk Ls I L R X) 123 12 = some 131 := rfl
theorem rf_123_15 : p_R (p_mk Ls I L R X) 123 15 = some 132 := rfl
theorem rf_123_16 : p_R (p_mk Ls I L R X) 123 16 = some 133 := rfl
theorem rf_123_17 : p_R (p_mk Ls I L R X) 123 17 = some 134 := rfl
theorem rf_123_26 : p_R (p_mk Ls I L R X) 123 26 = some 135 := rfl
theorem rf_123_29 : p_R (p_mk Ls I L R X) 123 29 = some 136 := rfl
theorem rf_123_30 : p_R (p_mk Ls I L R X) 123 30 = some 137 := rfl
theorem rf_123_32 : p_R (p_mk Ls I L R X) 123 32 = some 138 := rfl
theorem rf_123_34 : p_R (p_mk Ls I L R X) 123 34 = some 139 := rfl
theorem rf_123_35 : p_R (p_mk Ls I L R X) 123 35 = some 140 := rfl
theorem rf_123_45 : p_R (p_mk Ls I L R X) 123 45 = some 141 := rfl
theorem rf_35_1 : p_R (p_mk Ls I L R X) 35 1 = R 35 1 := rfl
theorem rf_48_1 : p_R (p_mk Ls I L R X) 48 1 = R 48 1 := rfl
theorem rf_48_2 : p_R (p_mk Ls I L R X) 48 2 = R 48 2 := rfl
theorem rg_60 (k : Nat) : p_R (p_mk Ls I L R X) 60 k = R 60 k := by
  show (match p_sr 60 k with | some b => some b | none => R 60 k) = R 60 k
  rw [show p_sr 60 k = none from by unfold p_sr; rw [show p_nt2 p_srT 60 = some [] from rfl]; cases k <;> rfl]
theorem rg_79 (k : Nat) : p_R (p_mk Ls I L R X) 79 k = R 79 k := by
  show (match p_sr 79 k with | some b => some b | none => R 79 k) = R 79 k
  rw [show p_sr 79 k = none from by unfold p_sr; rw [show p_nt2 p_srT 79 = some [] from rfl]; cases k <;> rfl]
theorem rg_90 (k : Nat) : p_R (p_mk Ls I L R X) 90 k = R 90 k := by
  show (match p_sr 90 k with | some b => some b | none => R 90 k) = R 90 k
  rw [show p_sr 90 k = none from by unfold p_sr; rw [show p_nt2 p_srT 90 = some [] from rfl]; cases k <;> rfl]
theorem rg_101 (k : Nat) : p_R (p_mk Ls I L R X) 101 k = R 101 k := by
  show (match p_sr 101 k with | some b => some b | none => R 101 k) = R 101 k
  rw [show p_sr 101 k = none from by unfold p_sr; rw [show p_nt2 p_srT 101 = some [] from rfl]; cases k <;> rfl]
theorem rg_111 (k : Nat) : p_R (p_mk Ls I L R X) 111 k = R 111 k := by
  show (match p_sr 111 k with | some b => some b | none => R 111 k) = R 111 k
  rw [show p_sr 111 k = none from by unfold p_sr; rw [show p_nt2 p_srT 111 = some [] from rfl]; cases k <;> rfl]
theorem rg_120 (k : Nat) : p_R (p_mk Ls I L R X) 120 k = R 120 k := by
  show (match p_sr 120 k with | some b => some b | none => R 120 k) = R 120 k
  rw [show p_sr 120 k = none from by unfold p_sr; rw [show p_nt2 p_srT 120 = some [] from rfl]; cases k <;> rfl]
end SHP
