/-! facts of the layout that the walks need -/
def gF : Nat := 5000
theorem kd_scene {a : Nat} (h : kd a = 5) : kd (a + 1) = 24 ∧ ln (a + 1) = 5 ∧ a + 7 ≤ 140 := by
  have ha : a < 151 := by
    rcases Nat.lt_or_ge a 151 with q | q
    · exact q
    · have : kd a = 99 := by
        unfold kd
        rw [List.getD_eq_getElem?_getD, List.getElem?_eq_none (by simpa [kdL] using q)]
        rfl
      omega
  have key : ∀ a, a < 151 → kd a = 5 → kd (a + 1) = 24 ∧ ln (a + 1) = 5 ∧ a + 7 ≤ 140 := by decide +kernel
  exact key a ha h
theorem kd_lt {a c : Nat} (h : kd a = c) (hc : c < 99) : a < 151 := by
  rcases Nat.lt_or_ge a 151 with q | q
  · exact q
  · have : kd a = 99 := by
      unfold kd
      rw [List.getD_eq_getElem?_getD, List.getElem?_eq_none (by simpa [kdL] using q)]
      rfl
    omega
theorem inb_lt {i : Int32} {n : Nat} (h : inb i n = true) : i.toNatClampNeg < n := by
  have hv := inb_in h
  exact Nat.not_le.mp fun q => hv (Or.inr q)
theorem kd_warr {b : Nat} (h : kd b = 24) {j : Nat} (hj : j < 5) : kd (b + 1 + j) = 8 ∧ b + 1 + j < 140 := by
  have key : ∀ b, b < 151 → kd b = 24 → ∀ j, j < 5 → kd (b + 1 + j) = 8 ∧ b + 1 + j < 140 := by decide +kernel
  exact key b (kd_lt h (by decide)) h j hj
theorem kd_obj {a c : Nat} (h : kd a = c) (hc : c = 5 ∨ c = 6 ∨ c = 8) : a < 140 := by
  have key : ∀ b, b < 151 → (kd b = 5 ∨ kd b = 6 ∨ kd b = 8) → b < 140 := by decide +kernel
  exact key a (kd_lt h (by omega)) (by rw [h]; exact hc)
theorem kd_sis {j : Nat} (hj : j < 5) : kd (2 + 1 + j) = 6 ∧ 2 + 1 + j < 140 := by
  have key : ∀ j, j < 5 → kd (2 + 1 + j) = 6 ∧ 2 + 1 + j < 140 := by decide +kernel
  exact key j hj
theorem kd_past {j : Nat} (hj : j < 8) : kd (24 + 1 + 7 * j) = 5 := by
  have key : ∀ j, j < 8 → kd (24 + 1 + 7 * j) = 5 := by decide +kernel
  exact key j hj
theorem kd_kept {j : Nat} (hj : j < 2) : kd (81 + 1 + 7 * j) = 5 := by
  have key : ∀ j, j < 2 → kd (81 + 1 + 7 * j) = 5 := by decide +kernel
  exact key j hj
theorem kd_r98 {j : Nat} (hj : j < 5) : kd (98 + 1 + j) = 20 ∧ ln (98 + 1 + j) = 99 ∧ 98 + 1 + j < 140 := by
  have key : ∀ j, j < 5 → kd (98 + 1 + j) = 20 ∧ ln (98 + 1 + j) = 99 ∧ 98 + 1 + j < 140 := by decide +kernel
  exact key j hj
theorem kd_r107 {j : Nat} (hj : j < 20) : kd (107 + 1 + j) = 20 ∧ ln (107 + 1 + j) = 40 ∧ 107 + 1 + j < 140 := by
  have key : ∀ j, j < 20 → kd (107 + 1 + j) = 20 ∧ ln (107 + 1 + j) = 40 ∧ 107 + 1 + j < 140 := by decide +kernel
  exact key j hj
theorem kd_r128 {j : Nat} (hj : j < 6) : kd (128 + 1 + j) = 20 ∧ ln (128 + 1 + j) = 40 ∧ 128 + 1 + j < 140 := by
  have key : ∀ j, j < 6 → kd (128 + 1 + j) = 20 ∧ ln (128 + 1 + j) = 40 ∧ 128 + 1 + j < 140 := by decide +kernel
  exact key j hj
theorem kd_0 : kd 0 = 9 := by decide +kernel
theorem kd_1 : kd 1 = 7 := by decide +kernel
theorem kd_2 : kd 2 = 23 := by decide +kernel
theorem ln_2 : ln 2 = 5 := by decide +kernel
theorem kd_3 : kd 3 = 6 := by decide +kernel
theorem kd_4 : kd 4 = 6 := by decide +kernel
theorem kd_5 : kd 5 = 6 := by decide +kernel
theorem kd_6 : kd 6 = 6 := by decide +kernel
theorem kd_7 : kd 7 = 6 := by decide +kernel
theorem kd_8 : kd 8 = 3 := by decide +kernel
theorem kd_9 : kd 9 = 20 := by decide +kernel
theorem ln_9 : ln 9 = 160 := by decide +kernel
theorem kd_10 : kd 10 = 0 := by decide +kernel
theorem kd_11 : kd 11 = 26 := by decide +kernel
theorem ln_11 : ln 11 = 12 := by decide +kernel
theorem kd_12 : kd 12 = 20 := by decide +kernel
theorem ln_12 : ln 12 = 14 := by decide +kernel
theorem kd_13 : kd 13 = 20 := by decide +kernel
theorem ln_13 : ln 13 = 14 := by decide +kernel
theorem kd_14 : kd 14 = 20 := by decide +kernel
theorem ln_14 : ln 14 = 14 := by decide +kernel
theorem kd_15 : kd 15 = 20 := by decide +kernel
theorem ln_15 : ln 15 = 14 := by decide +kernel
theorem kd_16 : kd 16 = 5 := by decide +kernel
theorem kd_17 : kd 17 = 24 := by decide +kernel
theorem ln_17 : ln 17 = 5 := by decide +kernel
theorem kd_18 : kd 18 = 8 := by decide +kernel
theorem kd_19 : kd 19 = 8 := by decide +kernel
theorem kd_20 : kd 20 = 8 := by decide +kernel
theorem kd_21 : kd 21 = 8 := by decide +kernel
theorem kd_22 : kd 22 = 8 := by decide +kernel
theorem kd_23 : kd 23 = 4 := by decide +kernel
theorem kd_24 : kd 24 = 22 := by decide +kernel
theorem ln_24 : ln 24 = 8 := by decide +kernel
theorem kd_25 : kd 25 = 5 := by decide +kernel
theorem kd_26 : kd 26 = 24 := by decide +kernel
theorem ln_26 : ln 26 = 5 := by decide +kernel
theorem kd_27 : kd 27 = 8 := by decide +kernel
theorem kd_28 : kd 28 = 8 := by decide +kernel
theorem kd_29 : kd 29 = 8 := by decide +kernel
theorem kd_30 : kd 30 = 8 := by decide +kernel
theorem kd_31 : kd 31 = 8 := by decide +kernel
theorem kd_32 : kd 32 = 5 := by decide +kernel
theorem kd_33 : kd 33 = 24 := by decide +kernel
theorem ln_33 : ln 33 = 5 := by decide +kernel
theorem kd_34 : kd 34 = 8 := by decide +kernel
theorem kd_35 : kd 35 = 8 := by decide +kernel
theorem kd_36 : kd 36 = 8 := by decide +kernel
theorem kd_37 : kd 37 = 8 := by decide +kernel
theorem kd_38 : kd 38 = 8 := by decide +kernel
theorem kd_39 : kd 39 = 5 := by decide +kernel
theorem kd_40 : kd 40 = 24 := by decide +kernel
theorem ln_40 : ln 40 = 5 := by decide +kernel
theorem kd_41 : kd 41 = 8 := by decide +kernel
theorem kd_42 : kd 42 = 8 := by decide +kernel
theorem kd_43 : kd 43 = 8 := by decide +kernel
theorem kd_44 : kd 44 = 8 := by decide +kernel
theorem kd_45 : kd 45 = 8 := by decide +kernel
theorem kd_46 : kd 46 = 5 := by decide +kernel
theorem kd_47 : kd 47 = 24 := by decide +kernel
theorem ln_47 : ln 47 = 5 := by decide +kernel
theorem kd_48 : kd 48 = 8 := by decide +kernel
theorem kd_49 : kd 49 = 8 := by decide +kernel
theorem kd_50 : kd 50 = 8 := by decide +kernel
theorem kd_51 : kd 51 = 8 := by decide +kernel
theorem kd_52 : kd 52 = 8 := by decide +kernel
theorem kd_53 : kd 53 = 5 := by decide +kernel
theorem kd_54 : kd 54 = 24 := by decide +kernel
theorem ln_54 : ln 54 = 5 := by decide +kernel
theorem kd_55 : kd 55 = 8 := by decide +kernel
theorem kd_56 : kd 56 = 8 := by decide +kernel
theorem kd_57 : kd 57 = 8 := by decide +kernel
theorem kd_58 : kd 58 = 8 := by decide +kernel
theorem kd_59 : kd 59 = 8 := by decide +kernel
theorem kd_60 : kd 60 = 5 := by decide +kernel
theorem kd_61 : kd 61 = 24 := by decide +kernel
theorem ln_61 : ln 61 = 5 := by decide +kernel
theorem kd_62 : kd 62 = 8 := by decide +kernel
theorem kd_63 : kd 63 = 8 := by decide +kernel
theorem kd_64 : kd 64 = 8 := by decide +kernel
theorem kd_65 : kd 65 = 8 := by decide +kernel
theorem kd_66 : kd 66 = 8 := by decide +kernel
theorem kd_67 : kd 67 = 5 := by decide +kernel
theorem kd_68 : kd 68 = 24 := by decide +kernel
theorem ln_68 : ln 68 = 5 := by decide +kernel
theorem kd_69 : kd 69 = 8 := by decide +kernel
theorem kd_70 : kd 70 = 8 := by decide +kernel
theorem kd_71 : kd 71 = 8 := by decide +kernel
theorem kd_72 : kd 72 = 8 := by decide +kernel
theorem kd_73 : kd 73 = 8 := by decide +kernel
theorem kd_74 : kd 74 = 5 := by decide +kernel
theorem kd_75 : kd 75 = 24 := by decide +kernel
theorem ln_75 : ln 75 = 5 := by decide +kernel
theorem kd_76 : kd 76 = 8 := by decide +kernel
theorem kd_77 : kd 77 = 8 := by decide +kernel
theorem kd_78 : kd 78 = 8 := by decide +kernel
theorem kd_79 : kd 79 = 8 := by decide +kernel
theorem kd_80 : kd 80 = 8 := by decide +kernel
theorem kd_81 : kd 81 = 22 := by decide +kernel
theorem ln_81 : ln 81 = 2 := by decide +kernel
theorem kd_82 : kd 82 = 5 := by decide +kernel
theorem kd_83 : kd 83 = 24 := by decide +kernel
theorem ln_83 : ln 83 = 5 := by decide +kernel
theorem kd_84 : kd 84 = 8 := by decide +kernel
theorem kd_85 : kd 85 = 8 := by decide +kernel
theorem kd_86 : kd 86 = 8 := by decide +kernel
theorem kd_87 : kd 87 = 8 := by decide +kernel
theorem kd_88 : kd 88 = 8 := by decide +kernel
theorem kd_89 : kd 89 = 5 := by decide +kernel
theorem kd_90 : kd 90 = 24 := by decide +kernel
theorem ln_90 : ln 90 = 5 := by decide +kernel
theorem kd_91 : kd 91 = 8 := by decide +kernel
theorem kd_92 : kd 92 = 8 := by decide +kernel
theorem kd_93 : kd 93 = 8 := by decide +kernel
theorem kd_94 : kd 94 = 8 := by decide +kernel
theorem kd_95 : kd 95 = 8 := by decide +kernel
theorem kd_96 : kd 96 = 21 := by decide +kernel
theorem ln_96 : ln 96 = 2 := by decide +kernel
theorem kd_97 : kd 97 = 2 := by decide +kernel
theorem kd_98 : kd 98 = 25 := by decide +kernel
theorem ln_98 : ln 98 = 5 := by decide +kernel
theorem kd_99 : kd 99 = 20 := by decide +kernel
theorem ln_99 : ln 99 = 99 := by decide +kernel
theorem kd_100 : kd 100 = 20 := by decide +kernel
theorem ln_100 : ln 100 = 99 := by decide +kernel
theorem kd_101 : kd 101 = 20 := by decide +kernel
theorem ln_101 : ln 101 = 99 := by decide +kernel
theorem kd_102 : kd 102 = 20 := by decide +kernel
theorem ln_102 : ln 102 = 99 := by decide +kernel
theorem kd_103 : kd 103 = 20 := by decide +kernel
theorem ln_103 : ln 103 = 99 := by decide +kernel
theorem kd_104 : kd 104 = 8 := by decide +kernel
theorem kd_105 : kd 105 = 20 := by decide +kernel
theorem ln_105 : ln 105 = 100 := by decide +kernel
theorem kd_106 : kd 106 = 1 := by decide +kernel
theorem kd_107 : kd 107 = 25 := by decide +kernel
theorem ln_107 : ln 107 = 20 := by decide +kernel
theorem kd_108 : kd 108 = 20 := by decide +kernel
theorem ln_108 : ln 108 = 40 := by decide +kernel
theorem kd_109 : kd 109 = 20 := by decide +kernel
theorem ln_109 : ln 109 = 40 := by decide +kernel
theorem kd_110 : kd 110 = 20 := by decide +kernel
theorem ln_110 : ln 110 = 40 := by decide +kernel
theorem kd_111 : kd 111 = 20 := by decide +kernel
theorem ln_111 : ln 111 = 40 := by decide +kernel
theorem kd_112 : kd 112 = 20 := by decide +kernel
theorem ln_112 : ln 112 = 40 := by decide +kernel
theorem kd_113 : kd 113 = 20 := by decide +kernel
theorem ln_113 : ln 113 = 40 := by decide +kernel
theorem kd_114 : kd 114 = 20 := by decide +kernel
theorem ln_114 : ln 114 = 40 := by decide +kernel
theorem kd_115 : kd 115 = 20 := by decide +kernel
theorem ln_115 : ln 115 = 40 := by decide +kernel
theorem kd_116 : kd 116 = 20 := by decide +kernel
theorem ln_116 : ln 116 = 40 := by decide +kernel
theorem kd_117 : kd 117 = 20 := by decide +kernel
theorem ln_117 : ln 117 = 40 := by decide +kernel
theorem kd_118 : kd 118 = 20 := by decide +kernel
theorem ln_118 : ln 118 = 40 := by decide +kernel
theorem kd_119 : kd 119 = 20 := by decide +kernel
theorem ln_119 : ln 119 = 40 := by decide +kernel
theorem kd_120 : kd 120 = 20 := by decide +kernel
theorem ln_120 : ln 120 = 40 := by decide +kernel
theorem kd_121 : kd 121 = 20 := by decide +kernel
theorem ln_121 : ln 121 = 40 := by decide +kernel
theorem kd_122 : kd 122 = 20 := by decide +kernel
theorem ln_122 : ln 122 = 40 := by decide +kernel
theorem kd_123 : kd 123 = 20 := by decide +kernel
theorem ln_123 : ln 123 = 40 := by decide +kernel
theorem kd_124 : kd 124 = 20 := by decide +kernel
theorem ln_124 : ln 124 = 40 := by decide +kernel
theorem kd_125 : kd 125 = 20 := by decide +kernel
theorem ln_125 : ln 125 = 40 := by decide +kernel
theorem kd_126 : kd 126 = 20 := by decide +kernel
theorem ln_126 : ln 126 = 40 := by decide +kernel
theorem kd_127 : kd 127 = 20 := by decide +kernel
theorem ln_127 : ln 127 = 40 := by decide +kernel
theorem kd_128 : kd 128 = 25 := by decide +kernel
theorem ln_128 : ln 128 = 6 := by decide +kernel
theorem kd_129 : kd 129 = 20 := by decide +kernel
theorem ln_129 : ln 129 = 40 := by decide +kernel
theorem kd_130 : kd 130 = 20 := by decide +kernel
theorem ln_130 : ln 130 = 40 := by decide +kernel
theorem kd_131 : kd 131 = 20 := by decide +kernel
theorem ln_131 : ln 131 = 40 := by decide +kernel
theorem kd_132 : kd 132 = 20 := by decide +kernel
theorem ln_132 : ln 132 = 40 := by decide +kernel
theorem kd_133 : kd 133 = 20 := by decide +kernel
theorem ln_133 : ln 133 = 40 := by decide +kernel
theorem kd_134 : kd 134 = 20 := by decide +kernel
theorem ln_134 : ln 134 = 40 := by decide +kernel
theorem kd_135 : kd 135 = 20 := by decide +kernel
theorem ln_135 : ln 135 = 5 := by decide +kernel
theorem kd_136 : kd 136 = 8 := by decide +kernel
theorem kd_137 : kd 137 = 20 := by decide +kernel
theorem ln_137 : ln 137 = 5 := by decide +kernel
theorem kd_138 : kd 138 = 20 := by decide +kernel
theorem ln_138 : ln 138 = 6 := by decide +kernel
theorem kd_139 : kd 139 = 20 := by decide +kernel
theorem ln_139 : ln 139 = 6 := by decide +kernel
theorem kd_140 : kd 140 = 10 := by decide +kernel
theorem kd_141 : kd 141 = 20 := by decide +kernel
theorem ln_141 : ln 141 = 31 := by decide +kernel
theorem kd_142 : kd 142 = 20 := by decide +kernel
theorem ln_142 : ln 142 = 35 := by decide +kernel
theorem kd_143 : kd 143 = 20 := by decide +kernel
theorem ln_143 : ln 143 = 160 := by decide +kernel
theorem kd_144 : kd 144 = 20 := by decide +kernel
theorem ln_144 : ln 144 = 31 := by decide +kernel
theorem kd_145 : kd 145 = 20 := by decide +kernel
theorem ln_145 : ln 145 = 280 := by decide +kernel
theorem kd_146 : kd 146 = 21 := by decide +kernel
theorem ln_146 : ln 146 = 2 := by decide +kernel
theorem kd_147 : kd 147 = 20 := by decide +kernel
theorem ln_147 : ln 147 = 70 := by decide +kernel
theorem kd_148 : kd 148 = 20 := by decide +kernel
theorem ln_148 : ln 148 = 35 := by decide +kernel
theorem kd_149 : kd 149 = 20 := by decide +kernel
theorem ln_149 : ln 149 = 5 := by decide +kernel
theorem kd_150 : kd 150 = 20 := by decide +kernel
theorem ln_150 : ln 150 = 12 := by decide +kernel
