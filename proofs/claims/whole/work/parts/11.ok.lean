/-! the code of each method, checked: 0 -/
set_option maxRecDepth 100000 in
theorem ok_0 : p_okm 0 = true := by decide +kernel
set_option maxRecDepth 100000 in
theorem ok_1 : p_okm 1 = true := by decide +kernel
set_option maxRecDepth 100000 in
theorem ok_2 : p_okm 2 = true := by decide +kernel
set_option maxRecDepth 100000 in
theorem ok_3 : p_okm 3 = true := by decide +kernel
set_option maxRecDepth 100000 in
theorem ok_4 : p_okm 4 = true := by decide +kernel
set_option maxRecDepth 100000 in
theorem ok_5 : p_okm 5 = true := by decide +kernel
set_option maxRecDepth 100000 in
theorem ok_6 : p_okm 6 = true := by decide +kernel
set_option maxRecDepth 100000 in
theorem ok_7 : p_okm 7 = true := by decide +kernel
set_option maxRecDepth 100000 in
theorem ok_8 : p_okm 8 = true := by decide +kernel
set_option maxRecDepth 100000 in
theorem ok_9 : p_okm 9 = true := by decide +kernel
set_option maxRecDepth 100000 in
theorem ok_10 : p_okm 10 = true := by decide +kernel
set_option maxRecDepth 100000 in
theorem ok_11 : p_okm 11 = true := by decide +kernel
set_option maxRecDepth 100000 in
theorem ok_12 : p_okm 12 = true := by decide +kernel
set_option maxRecDepth 100000 in
theorem ok_13 : p_okm 13 = true := by decide +kernel
set_option maxRecDepth 100000 in
theorem ok_14 : p_okm 14 = true := by decide +kernel
set_option maxRecDepth 100000 in
theorem ok_15 : p_okm 15 = true := by decide +kernel
set_option maxRecDepth 100000 in
theorem ok_16 : p_okm 16 = true := by decide +kernel
set_option maxRecDepth 100000 in
theorem ok_17 : p_okm 17 = true := by decide +kernel
set_option maxRecDepth 100000 in
theorem ok_18 : p_okm 18 = true := by decide +kernel
set_option maxRecDepth 100000 in
theorem ok_19 : p_okm 19 = true := by decide +kernel
set_option maxRecDepth 100000 in
theorem ok_20 : p_okm 20 = true := by decide +kernel
set_option maxRecDepth 100000 in
theorem ok_21 : p_okm 21 = true := by decide +kernel
set_option maxRecDepth 100000 in
theorem ok_22 : p_okm 22 = true := by decide +kernel
set_option maxRecDepth 100000 in
theorem ok_23 : p_okm 23 = true := by decide +kernel
set_option maxRecDepth 100000 in
theorem ok_24 : p_okm 24 = true := by decide +kernel
set_option maxRecDepth 100000 in
theorem ok_25 : p_okm 25 = true := by decide +kernel
set_option maxRecDepth 100000 in
theorem ok_26 : p_okm 26 = true := by decide +kernel
set_option maxRecDepth 100000 in
theorem ok_27 : p_okm 27 = true := by decide +kernel
set_option maxRecDepth 100000 in
theorem ok_28 : p_okm 28 = true := by decide +kernel
set_option maxRecDepth 100000 in
theorem ok_29 : p_okm 29 = true := by decide +kernel
set_option maxRecDepth 100000 in
theorem ok_30 : p_okm 30 = true := by decide +kernel
set_option maxRecDepth 100000 in
theorem ok_31 : p_okm 31 = true := by decide +kernel
set_option maxRecDepth 100000 in
theorem ok_32 : p_okm 32 = true := by decide +kernel
set_option maxRecDepth 100000 in
theorem ok_33 : p_okm 33 = true := by decide +kernel
set_option maxRecDepth 100000 in
theorem ok_34 : p_okm 34 = true := by decide +kernel
set_option maxRecDepth 100000 in
theorem ok_35 : p_okm 35 = true := by decide +kernel
set_option maxRecDepth 100000 in
theorem ok_36 : p_okm 36 = true := by decide +kernel
set_option maxRecDepth 100000 in
theorem ok_37 : p_okm 37 = true := by decide +kernel
set_option maxRecDepth 100000 in
theorem ok_38 : p_okm 38 = true := by decide +kernel
set_option maxRecDepth 100000 in
theorem ok_39 : p_okm 39 = true := by decide +kernel
set_option maxRecDepth 100000 in
theorem ok_40 : p_okm 40 = true := by decide +kernel
set_option maxRecDepth 100000 in
theorem ok_41 : p_okm 41 = true := by decide +kernel
set_option maxRecDepth 100000 in
theorem ok_42 : p_okm 42 = true := by decide +kernel
set_option maxRecDepth 100000 in
theorem ok_43 : p_okm 43 = true := by decide +kernel
set_option maxRecDepth 100000 in
theorem ok_44 : p_okm 44 = true := by decide +kernel
set_option maxRecDepth 100000 in
theorem ok_45 : p_okm 45 = true := by decide +kernel
set_option maxRecDepth 100000 in
theorem ok_46 : p_okm 46 = true := by decide +kernel
set_option maxRecDepth 100000 in
theorem ok_47 : p_okm 47 = true := by decide +kernel
set_option maxRecDepth 100000 in
theorem ok_48 : p_okm 48 = true := by decide +kernel
set_option maxRecDepth 100000 in
theorem ok_49 : p_okm 49 = true := by decide +kernel
set_option maxRecDepth 100000 in
theorem ok_50 : p_okm 50 = true := by decide +kernel
set_option maxRecDepth 100000 in
theorem ok_51 : p_okm 51 = true := by decide +kernel
set_option maxRecDepth 100000 in
theorem ok_52 : p_okm 52 = true := by decide +kernel
set_option maxRecDepth 100000 in
theorem ok_53 : p_okm 53 = true := by decide +kernel
set_option maxRecDepth 100000 in
theorem ok_54 : p_okm 54 = true := by decide +kernel
set_option maxRecDepth 100000 in
theorem ok_55 : p_okm 55 = true := by decide +kernel
set_option maxRecDepth 100000 in
theorem ok_56 : p_okm 56 = true := by decide +kernel
set_option maxRecDepth 100000 in
theorem ok_57 : p_okm 57 = true := by decide +kernel
set_option maxRecDepth 100000 in
theorem ok_58 : p_okm 58 = true := by decide +kernel
set_option maxRecDepth 100000 in
theorem ok_59 : p_okm 59 = true := by decide +kernel
set_option maxRecDepth 100000 in
theorem ok_60 : p_okm 60 = true := by decide +kernel
set_option maxRecDepth 100000 in
theorem ok_61 : p_okm 61 = true := by decide +kernel
set_option maxRecDepth 100000 in
theorem ok_62 : p_okm 62 = true := by decide +kernel
set_option maxRecDepth 100000 in
theorem ok_63 : p_okm 63 = true := by decide +kernel
set_option maxRecDepth 100000 in
theorem ok_64 : p_okm 64 = true := by decide +kernel
set_option maxRecDepth 100000 in
theorem ok_65 : p_okm 65 = true := by decide +kernel
set_option maxRecDepth 100000 in
theorem ok_66 : p_okm 66 = true := by decide +kernel
set_option maxRecDepth 100000 in
theorem ok_67 : p_okm 67 = true := by decide +kernel
set_option maxRecDepth 100000 in
theorem ok_68 : p_okm 68 = true := by decide +kernel
set_option maxRecDepth 100000 in
theorem ok_69 : p_okm 69 = true := by decide +kernel
set_option maxRecDepth 100000 in
theorem ok_70 : p_okm 70 = true := by decide +kernel
set_option maxRecDepth 100000 in
theorem ok_71 : p_okm 71 = true := by decide +kernel
set_option maxRecDepth 100000 in
theorem ok_72 : p_okm 72 = true := by decide +kernel
set_option maxRecDepth 100000 in
theorem ok_73 : p_okm 73 = true := by decide +kernel
set_option maxRecDepth 100000 in
theorem ok_74 : p_okm 74 = true := by decide +kernel
set_option maxRecDepth 100000 in
theorem ok_75 : p_okm 75 = true := by decide +kernel
set_option maxRecDepth 100000 in
theorem ok_76 : p_okm 76 = true := by decide +kernel
set_option maxRecDepth 100000 in
theorem ok_77 : p_okm 77 = true := by decide +kernel
set_option maxRecDepth 100000 in
theorem ok_78 : p_okm 78 = true := by decide +kernel
set_option maxRecDepth 100000 in
theorem ok_79 : p_okm 79 = true := by decide +kernel
set_option maxRecDepth 100000 in
theorem ok_80 : p_okm 80 = true := by decide +kernel
set_option maxRecDepth 100000 in
theorem ok_81 : p_okm 81 = true := by decide +kernel
set_option maxRecDepth 100000 in
theorem ok_82 : p_okm 82 = true := by decide +kernel
set_option maxRecDepth 100000 in
theorem ok_83 : p_okm 83 = true := by decide +kernel
set_option maxRecDepth 100000 in
theorem ok_84 : p_okm 84 = true := by decide +kernel
set_option maxRecDepth 100000 in
theorem ok_85 : p_okm 85 = true := by decide +kernel
set_option maxRecDepth 100000 in
theorem ok_86 : p_okm 86 = true := by decide +kernel
set_option maxRecDepth 100000 in
theorem ok_87 : p_okm 87 = true := by decide +kernel
set_option maxRecDepth 100000 in
theorem ok_88 : p_okm 88 = true := by decide +kernel
set_option maxRecDepth 100000 in
theorem ok_89 : p_okm 89 = true := by decide +kernel
set_option maxRecDepth 100000 in
theorem ok_90 : p_okm 90 = true := by decide +kernel
set_option maxRecDepth 100000 in
theorem ok_91 : p_okm 91 = true := by decide +kernel
set_option maxRecDepth 100000 in
theorem ok_92 : p_okm 92 = true := by decide +kernel
set_option maxRecDepth 100000 in
theorem ok_93 : p_okm 93 = true := by decide +kernel
set_option maxRecDepth 100000 in
theorem ok_94 : p_okm 94 = true := by decide +kernel
set_option maxRecDepth 100000 in
theorem ok_95 : p_okm 95 = true := by decide +kernel
set_option maxRecDepth 100000 in
theorem ok_96 : p_okm 96 = true := by decide +kernel
set_option maxRecDepth 100000 in
theorem ok_97 : p_okm 97 = true := by decide +kernel
set_option maxRecDepth 100000 in
theorem ok_98 : p_okm 98 = true := by decide +kernel
set_option maxRecDepth 100000 in
theorem ok_99 : p_okm 99 = true := by decide +kernel
set_option maxRecDepth 100000 in
theorem ok_100 : p_okm 100 = true := by decide +kernel
set_option maxRecDepth 100000 in
theorem ok_101 : p_okm 101 = true := by decide +kernel
set_option maxRecDepth 100000 in
theorem ok_102 : p_okm 102 = true := by decide +kernel
set_option maxRecDepth 100000 in
theorem ok_103 : p_okm 103 = true := by decide +kernel
set_option maxRecDepth 100000 in
theorem ok_104 : p_okm 104 = true := by decide +kernel
set_option maxRecDepth 100000 in
theorem ok_105 : p_okm 105 = true := by decide +kernel
set_option maxRecDepth 100000 in
theorem ok_106 : p_okm 106 = true := by decide +kernel
set_option maxRecDepth 100000 in
theorem ok_107 : p_okm 107 = true := by decide +kernel
set_option maxRecDepth 100000 in
theorem ok_108 : p_okm 108 = true := by decide +kernel
set_option maxRecDepth 100000 in
theorem ok_109 : p_okm 109 = true := by decide +kernel
set_option maxRecDepth 100000 in
theorem ok_110 : p_okm 110 = true := by decide +kernel
set_option maxRecDepth 100000 in
theorem ok_111 : p_okm 111 = true := by decide +kernel
set_option maxRecDepth 100000 in
theorem ok_112 : p_okm 112 = true := by decide +kernel
set_option maxRecDepth 100000 in
theorem ok_113 : p_okm 113 = true := by decide +kernel
set_option maxRecDepth 100000 in
theorem ok_114 : p_okm 114 = true := by decide +kernel
set_option maxRecDepth 100000 in
theorem ok_115 : p_okm 115 = true := by decide +kernel
set_option maxRecDepth 100000 in
theorem ok_116 : p_okm 116 = true := by decide +kernel
set_option maxRecDepth 100000 in
theorem ok_117 : p_okm 117 = true := by decide +kernel
set_option maxRecDepth 100000 in
theorem ok_118 : p_okm 118 = true := by decide +kernel
set_option maxRecDepth 100000 in
theorem ok_119 : p_okm 119 = true := by decide +kernel
set_option maxRecDepth 100000 in
theorem ok_120 : p_okm 120 = true := by decide +kernel
set_option maxRecDepth 100000 in
theorem ok_121 : p_okm 121 = true := by decide +kernel
set_option maxRecDepth 100000 in
theorem ok_122 : p_okm 122 = true := by decide +kernel
set_option maxRecDepth 100000 in
theorem ok_123 : p_okm 123 = true := by decide +kernel
set_option maxRecDepth 100000 in
theorem ok_124 : p_okm 124 = true := by decide +kernel
set_option maxRecDepth 100000 in
theorem ok_125 : p_okm 125 = true := by decide +kernel
