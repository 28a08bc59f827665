/-- what each cell is: an object of a class, or an array (0 ints, 1 booleans, 2 States) of a length -/
def kg_SHl : List (Nat ⊕ (Nat × Nat)) := [.inl 7, .inl 6, .inr (0, 240), .inl 5, .inr (0, 7), .inr (0, 5), .inr (0, 20), .inl 4, .inr (2, 20), .inl 5, .inr (0, 7), .inr (0, 5), .inr (0, 20), .inl 5, .inr (0, 7), .inr (0, 5), .inr (0, 20), .inl 5, .inr (0, 7), .inr (0, 5), .inr (0, 20), .inl 5, .inr (0, 7), .inr (0, 5), .inr (0, 20), .inl 5, .inr (0, 7), .inr (0, 5), .inr (0, 20), .inl 5, .inr (0, 7), .inr (0, 5), .inr (0, 20), .inl 5, .inr (0, 7), .inr (0, 5), .inr (0, 20), .inl 5, .inr (0, 7), .inr (0, 5), .inr (0, 20), .inl 5, .inr (0, 7), .inr (0, 5), .inr (0, 20), .inl 5, .inr (0, 7), .inr (0, 5), .inr (0, 20), .inl 5, .inr (0, 7), .inr (0, 5), .inr (0, 20), .inl 5, .inr (0, 7), .inr (0, 5), .inr (0, 20), .inl 5, .inr (0, 7), .inr (0, 5), .inr (0, 20), .inl 5, .inr (0, 7), .inr (0, 5), .inr (0, 20), .inl 5, .inr (0, 7), .inr (0, 5), .inr (0, 20), .inl 5, .inr (0, 7), .inr (0, 5), .inr (0, 20), .inl 5, .inr (0, 7), .inr (0, 5), .inr (0, 20), .inl 5, .inr (0, 7), .inr (0, 5), .inr (0, 20), .inl 5, .inr (0, 7), .inr (0, 5), .inr (0, 20), .inl 5, .inr (0, 7), .inr (0, 5), .inr (0, 20), .inl 2, .inr (0, 15), .inr (0, 15), .inl 3, .inr (0, 7), .inr (0, 7), .inl 1, .inr (0, 128), .inr (2, 2), .inl 5, .inr (0, 7), .inr (0, 5), .inr (0, 20), .inl 5, .inr (0, 7), .inr (0, 5), .inr (0, 20), .inr (1, 2), .inr (0, 2), .inr (0, 7), .inl 0, .inr (0, 5), .inr (0, 49), .inr (0, 7), .inl 0, .inr (0, 5), .inr (0, 49), .inr (0, 7), .inl 8, .inr (0, 5), .inr (0, 49), .inr (0, 55), .inr (0, 21), .inr (0, 21), .inr (0, 240), .inr (0, 5), .inr (0, 7), .inr (0, 7), .inr (0, 49), .inr (0, 1100), .inr (0, 3), .inr (0, 7), .inr (0, 7), .inr (0, 10648), .inr (0, 10648), .inr (1, 128), .inr (1, 128), .inr (0, 6), .inr (1, 6), .inr (0, 15), .inr (0, 15), .inr (0, 112), .inr (1, 2)]
def kg_SH (k : Nat) : Nat ⊕ (Nat × Nat) := kg_SHl.getD k (.inl 100)
def kg_all : Nat := 142
/-- of each class, which fields are references -/
def kg_kd : List (List Bool) := [[false, false, false, false, true, true, true], [true, false], [false, false, false, false, true, true], [true, true, false, false, false, false], [true, false, false], [false, false, false, false, false, false, true, true, true], [true, false, false, false, false, false], [true, true, true, true, true, true, true, true, true, true, true, true, false, false], [false, true, false, true, true, false, true, true, true, false, false, false, false, false, false, true, false, true, true, true, false, true, true, true, true, false, false, true, true, false, true, true, false, true, true, false, true, true, true, true]]
def kg_nest : List (String × Nat × MethodName × String) := [(RX7, 9, yX6_init, "KissGates"), (RX7, 18, yX5_init, "KissGates"), (RX4, 17, yX5_init, "KissGates"), (RX7, 32, yX2_init, "KissGates"), (RX7, 39, yX3_init, "KissGates"), (RX7, 46, yX1_init, "KissGates"), (RX7, 68, yX0_init, "KissGates")]
def kg_T : List Cond := lw_tbl.filter goodWord
theorem kg_inT {w : Cond} (i : Nat) (h : lw_tbl[i]? = some w) (hg : goodWord w = true) : w ∈ kg_T := List.mem_filter.mpr ⟨List.mem_of_getElem? h, hg⟩
theorem sh_0 : kg_SH 0 = .inl 7 := rfl
theorem sh_1 : kg_SH 1 = .inl 6 := rfl
theorem sh_2 : kg_SH 2 = .inr (0, 240) := rfl
theorem sh_3 : kg_SH 3 = .inl 5 := rfl
theorem sh_4 : kg_SH 4 = .inr (0, 7) := rfl
theorem sh_5 : kg_SH 5 = .inr (0, 5) := rfl
theorem sh_6 : kg_SH 6 = .inr (0, 20) := rfl
theorem sh_7 : kg_SH 7 = .inl 4 := rfl
theorem sh_8 : kg_SH 8 = .inr (2, 20) := rfl
theorem sh_9 : kg_SH 9 = .inl 5 := rfl
theorem sh_10 : kg_SH 10 = .inr (0, 7) := rfl
theorem sh_11 : kg_SH 11 = .inr (0, 5) := rfl
theorem sh_12 : kg_SH 12 = .inr (0, 20) := rfl
theorem sh_13 : kg_SH 13 = .inl 5 := rfl
theorem sh_14 : kg_SH 14 = .inr (0, 7) := rfl
theorem sh_15 : kg_SH 15 = .inr (0, 5) := rfl
theorem sh_16 : kg_SH 16 = .inr (0, 20) := rfl
theorem sh_17 : kg_SH 17 = .inl 5 := rfl
theorem sh_18 : kg_SH 18 = .inr (0, 7) := rfl
theorem sh_19 : kg_SH 19 = .inr (0, 5) := rfl
theorem sh_20 : kg_SH 20 = .inr (0, 20) := rfl
theorem sh_21 : kg_SH 21 = .inl 5 := rfl
theorem sh_22 : kg_SH 22 = .inr (0, 7) := rfl
theorem sh_23 : kg_SH 23 = .inr (0, 5) := rfl
theorem sh_24 : kg_SH 24 = .inr (0, 20) := rfl
theorem sh_25 : kg_SH 25 = .inl 5 := rfl
theorem sh_26 : kg_SH 26 = .inr (0, 7) := rfl
theorem sh_27 : kg_SH 27 = .inr (0, 5) := rfl
theorem sh_28 : kg_SH 28 = .inr (0, 20) := rfl
theorem sh_29 : kg_SH 29 = .inl 5 := rfl
theorem sh_30 : kg_SH 30 = .inr (0, 7) := rfl
theorem sh_31 : kg_SH 31 = .inr (0, 5) := rfl
theorem sh_32 : kg_SH 32 = .inr (0, 20) := rfl
theorem sh_33 : kg_SH 33 = .inl 5 := rfl
theorem sh_34 : kg_SH 34 = .inr (0, 7) := rfl
theorem sh_35 : kg_SH 35 = .inr (0, 5) := rfl
theorem sh_36 : kg_SH 36 = .inr (0, 20) := rfl
theorem sh_37 : kg_SH 37 = .inl 5 := rfl
theorem sh_38 : kg_SH 38 = .inr (0, 7) := rfl
theorem sh_39 : kg_SH 39 = .inr (0, 5) := rfl
theorem sh_40 : kg_SH 40 = .inr (0, 20) := rfl
theorem sh_41 : kg_SH 41 = .inl 5 := rfl
theorem sh_42 : kg_SH 42 = .inr (0, 7) := rfl
theorem sh_43 : kg_SH 43 = .inr (0, 5) := rfl
theorem sh_44 : kg_SH 44 = .inr (0, 20) := rfl
theorem sh_45 : kg_SH 45 = .inl 5 := rfl
theorem sh_46 : kg_SH 46 = .inr (0, 7) := rfl
theorem sh_47 : kg_SH 47 = .inr (0, 5) := rfl
theorem sh_48 : kg_SH 48 = .inr (0, 20) := rfl
theorem sh_49 : kg_SH 49 = .inl 5 := rfl
theorem sh_50 : kg_SH 50 = .inr (0, 7) := rfl
theorem sh_51 : kg_SH 51 = .inr (0, 5) := rfl
theorem sh_52 : kg_SH 52 = .inr (0, 20) := rfl
theorem sh_53 : kg_SH 53 = .inl 5 := rfl
theorem sh_54 : kg_SH 54 = .inr (0, 7) := rfl
theorem sh_55 : kg_SH 55 = .inr (0, 5) := rfl
theorem sh_56 : kg_SH 56 = .inr (0, 20) := rfl
theorem sh_57 : kg_SH 57 = .inl 5 := rfl
theorem sh_58 : kg_SH 58 = .inr (0, 7) := rfl
theorem sh_59 : kg_SH 59 = .inr (0, 5) := rfl
theorem sh_60 : kg_SH 60 = .inr (0, 20) := rfl
theorem sh_61 : kg_SH 61 = .inl 5 := rfl
theorem sh_62 : kg_SH 62 = .inr (0, 7) := rfl
theorem sh_63 : kg_SH 63 = .inr (0, 5) := rfl
theorem sh_64 : kg_SH 64 = .inr (0, 20) := rfl
theorem sh_65 : kg_SH 65 = .inl 5 := rfl
theorem sh_66 : kg_SH 66 = .inr (0, 7) := rfl
theorem sh_67 : kg_SH 67 = .inr (0, 5) := rfl
theorem sh_68 : kg_SH 68 = .inr (0, 20) := rfl
theorem sh_69 : kg_SH 69 = .inl 5 := rfl
theorem sh_70 : kg_SH 70 = .inr (0, 7) := rfl
theorem sh_71 : kg_SH 71 = .inr (0, 5) := rfl
theorem sh_72 : kg_SH 72 = .inr (0, 20) := rfl
theorem sh_73 : kg_SH 73 = .inl 5 := rfl
theorem sh_74 : kg_SH 74 = .inr (0, 7) := rfl
theorem sh_75 : kg_SH 75 = .inr (0, 5) := rfl
theorem sh_76 : kg_SH 76 = .inr (0, 20) := rfl
theorem sh_77 : kg_SH 77 = .inl 5 := rfl
theorem sh_78 : kg_SH 78 = .inr (0, 7) := rfl
theorem sh_79 : kg_SH 79 = .inr (0, 5) := rfl
theorem sh_80 : kg_SH 80 = .inr (0, 20) := rfl
theorem sh_81 : kg_SH 81 = .inl 5 := rfl
theorem sh_82 : kg_SH 82 = .inr (0, 7) := rfl
theorem sh_83 : kg_SH 83 = .inr (0, 5) := rfl
theorem sh_84 : kg_SH 84 = .inr (0, 20) := rfl
theorem sh_85 : kg_SH 85 = .inl 5 := rfl
theorem sh_86 : kg_SH 86 = .inr (0, 7) := rfl
theorem sh_87 : kg_SH 87 = .inr (0, 5) := rfl
theorem sh_88 : kg_SH 88 = .inr (0, 20) := rfl
theorem sh_89 : kg_SH 89 = .inl 2 := rfl
theorem sh_90 : kg_SH 90 = .inr (0, 15) := rfl
theorem sh_91 : kg_SH 91 = .inr (0, 15) := rfl
theorem sh_92 : kg_SH 92 = .inl 3 := rfl
theorem sh_93 : kg_SH 93 = .inr (0, 7) := rfl
theorem sh_94 : kg_SH 94 = .inr (0, 7) := rfl
theorem sh_95 : kg_SH 95 = .inl 1 := rfl
theorem sh_96 : kg_SH 96 = .inr (0, 128) := rfl
theorem sh_97 : kg_SH 97 = .inr (2, 2) := rfl
theorem sh_98 : kg_SH 98 = .inl 5 := rfl
theorem sh_99 : kg_SH 99 = .inr (0, 7) := rfl
theorem sh_100 : kg_SH 100 = .inr (0, 5) := rfl
theorem sh_101 : kg_SH 101 = .inr (0, 20) := rfl
theorem sh_102 : kg_SH 102 = .inl 5 := rfl
theorem sh_103 : kg_SH 103 = .inr (0, 7) := rfl
theorem sh_104 : kg_SH 104 = .inr (0, 5) := rfl
theorem sh_105 : kg_SH 105 = .inr (0, 20) := rfl
theorem sh_106 : kg_SH 106 = .inr (1, 2) := rfl
theorem sh_107 : kg_SH 107 = .inr (0, 2) := rfl
theorem sh_108 : kg_SH 108 = .inr (0, 7) := rfl
theorem sh_109 : kg_SH 109 = .inl 0 := rfl
theorem sh_110 : kg_SH 110 = .inr (0, 5) := rfl
theorem sh_111 : kg_SH 111 = .inr (0, 49) := rfl
theorem sh_112 : kg_SH 112 = .inr (0, 7) := rfl
theorem sh_113 : kg_SH 113 = .inl 0 := rfl
theorem sh_114 : kg_SH 114 = .inr (0, 5) := rfl
theorem sh_115 : kg_SH 115 = .inr (0, 49) := rfl
theorem sh_116 : kg_SH 116 = .inr (0, 7) := rfl
theorem sh_117 : kg_SH 117 = .inl 8 := rfl
theorem sh_118 : kg_SH 118 = .inr (0, 5) := rfl
theorem sh_119 : kg_SH 119 = .inr (0, 49) := rfl
theorem sh_120 : kg_SH 120 = .inr (0, 55) := rfl
theorem sh_121 : kg_SH 121 = .inr (0, 21) := rfl
theorem sh_122 : kg_SH 122 = .inr (0, 21) := rfl
theorem sh_123 : kg_SH 123 = .inr (0, 240) := rfl
theorem sh_124 : kg_SH 124 = .inr (0, 5) := rfl
theorem sh_125 : kg_SH 125 = .inr (0, 7) := rfl
theorem sh_126 : kg_SH 126 = .inr (0, 7) := rfl
theorem sh_127 : kg_SH 127 = .inr (0, 49) := rfl
theorem sh_128 : kg_SH 128 = .inr (0, 1100) := rfl
theorem sh_129 : kg_SH 129 = .inr (0, 3) := rfl
theorem sh_130 : kg_SH 130 = .inr (0, 7) := rfl
theorem sh_131 : kg_SH 131 = .inr (0, 7) := rfl
theorem sh_132 : kg_SH 132 = .inr (0, 10648) := rfl
theorem sh_133 : kg_SH 133 = .inr (0, 10648) := rfl
theorem sh_134 : kg_SH 134 = .inr (1, 128) := rfl
theorem sh_135 : kg_SH 135 = .inr (1, 128) := rfl
theorem sh_136 : kg_SH 136 = .inr (0, 6) := rfl
theorem sh_137 : kg_SH 137 = .inr (1, 6) := rfl
theorem sh_138 : kg_SH 138 = .inr (0, 15) := rfl
theorem sh_139 : kg_SH 139 = .inr (0, 15) := rfl
theorem sh_140 : kg_SH 140 = .inr (0, 112) := rfl
theorem sh_141 : kg_SH 141 = .inr (1, 2) := rfl
