theorem kd_0 : uvKd 0 = 9 := rfl
theorem kd_1 : uvKd 1 = 8 := rfl
theorem kd_2 : uvKd 2 = 11 := rfl
theorem ln_2 : uvLn 2 = 40 := rfl
theorem kd_3 : uvKd 3 = 11 := rfl
theorem ln_3 : uvLn 3 = 40 := rfl
theorem kd_4 : uvKd 4 = 11 := rfl
theorem ln_4 : uvLn 4 = 40 := rfl
theorem kd_5 : uvKd 5 = 11 := rfl
theorem ln_5 : uvLn 5 = 40 := rfl
theorem kd_6 : uvKd 6 = 11 := rfl
theorem ln_6 : uvLn 6 = 40 := rfl
theorem kd_7 : uvKd 7 = 11 := rfl
theorem ln_7 : uvLn 7 = 40 := rfl
theorem kd_8 : uvKd 8 = 11 := rfl
theorem ln_8 : uvLn 8 = 40 := rfl
theorem kd_9 : uvKd 9 = 11 := rfl
theorem ln_9 : uvLn 9 = 4 := rfl
theorem kd_10 : uvKd 10 = 4 := rfl
theorem kd_11 : uvKd 11 = 11 := rfl
theorem ln_11 : uvLn 11 = 8 := rfl
theorem kd_12 : uvKd 12 = 11 := rfl
theorem ln_12 : uvLn 12 = 8 := rfl
theorem kd_13 : uvKd 13 = 11 := rfl
theorem ln_13 : uvLn 13 = 8 := rfl
theorem kd_14 : uvKd 14 = 7 := rfl
theorem kd_15 : uvKd 15 = 11 := rfl
theorem ln_15 : uvLn 15 = 120 := rfl
theorem kd_16 : uvKd 16 = 11 := rfl
theorem ln_16 : uvLn 16 = 120 := rfl
theorem kd_17 : uvKd 17 = 11 := rfl
theorem ln_17 : uvLn 17 = 120 := rfl
theorem kd_18 : uvKd 18 = 11 := rfl
theorem ln_18 : uvLn 18 = 120 := rfl
theorem kd_19 : uvKd 19 = 11 := rfl
theorem ln_19 : uvLn 19 = 120 := rfl
theorem kd_20 : uvKd 20 = 11 := rfl
theorem ln_20 : uvLn 20 = 120 := rfl
theorem kd_21 : uvKd 21 = 6 := rfl
theorem kd_22 : uvKd 22 = 11 := rfl
theorem ln_22 : uvLn 22 = 120 := rfl
theorem kd_23 : uvKd 23 = 4 := rfl
theorem kd_24 : uvKd 24 = 11 := rfl
theorem ln_24 : uvLn 24 = 8 := rfl
theorem kd_25 : uvKd 25 = 11 := rfl
theorem ln_25 : uvLn 25 = 8 := rfl
theorem kd_26 : uvKd 26 = 11 := rfl
theorem ln_26 : uvLn 26 = 8 := rfl
theorem kd_27 : uvKd 27 = 7 := rfl
theorem kd_28 : uvKd 28 = 11 := rfl
theorem ln_28 : uvLn 28 = 120 := rfl
theorem kd_29 : uvKd 29 = 11 := rfl
theorem ln_29 : uvLn 29 = 120 := rfl
theorem kd_30 : uvKd 30 = 11 := rfl
theorem ln_30 : uvLn 30 = 120 := rfl
theorem kd_31 : uvKd 31 = 11 := rfl
theorem ln_31 : uvLn 31 = 120 := rfl
theorem kd_32 : uvKd 32 = 11 := rfl
theorem ln_32 : uvLn 32 = 120 := rfl
theorem kd_33 : uvKd 33 = 11 := rfl
theorem ln_33 : uvLn 33 = 120 := rfl
theorem kd_34 : uvKd 34 = 11 := rfl
theorem ln_34 : uvLn 34 = 6 := rfl
theorem kd_35 : uvKd 35 = 2 := rfl
theorem kd_36 : uvKd 36 = 11 := rfl
theorem ln_36 : uvLn 36 = 40 := rfl
theorem kd_37 : uvKd 37 = 12 := rfl
theorem ln_37 : uvLn 37 = 8 := rfl
theorem kd_38 : uvKd 38 = 1 := rfl
theorem kd_39 : uvKd 39 = 11 := rfl
theorem ln_39 : uvLn 39 = 40 := rfl
theorem kd_40 : uvKd 40 = 1 := rfl
theorem kd_41 : uvKd 41 = 11 := rfl
theorem ln_41 : uvLn 41 = 40 := rfl
theorem kd_42 : uvKd 42 = 1 := rfl
theorem kd_43 : uvKd 43 = 11 := rfl
theorem ln_43 : uvLn 43 = 40 := rfl
theorem kd_44 : uvKd 44 = 1 := rfl
theorem kd_45 : uvKd 45 = 11 := rfl
theorem ln_45 : uvLn 45 = 40 := rfl
theorem kd_46 : uvKd 46 = 1 := rfl
theorem kd_47 : uvKd 47 = 11 := rfl
theorem ln_47 : uvLn 47 = 40 := rfl
theorem kd_48 : uvKd 48 = 1 := rfl
theorem kd_49 : uvKd 49 = 11 := rfl
theorem ln_49 : uvLn 49 = 40 := rfl
theorem kd_50 : uvKd 50 = 1 := rfl
theorem kd_51 : uvKd 51 = 11 := rfl
theorem ln_51 : uvLn 51 = 40 := rfl
theorem kd_52 : uvKd 52 = 1 := rfl
theorem kd_53 : uvKd 53 = 11 := rfl
theorem ln_53 : uvLn 53 = 40 := rfl
theorem kd_54 : uvKd 54 = 3 := rfl
theorem kd_55 : uvKd 55 = 0 := rfl
theorem kd_56 : uvKd 56 = 13 := rfl
theorem ln_56 : uvLn 56 = 8 := rfl
theorem kd_57 : uvKd 57 = 5 := rfl
theorem kd_58 : uvKd 58 = 11 := rfl
theorem ln_58 : uvLn 58 = 1 := rfl
theorem kd_59 : uvKd 59 = 11 := rfl
theorem ln_59 : uvLn 59 = 1 := rfl
theorem kd_60 : uvKd 60 = 11 := rfl
theorem ln_60 : uvLn 60 = 1 := rfl
theorem kd_61 : uvKd 61 = 11 := rfl
theorem ln_61 : uvLn 61 = 1 := rfl
theorem kd_62 : uvKd 62 = 11 := rfl
theorem ln_62 : uvLn 62 = 1 := rfl
theorem kd_63 : uvKd 63 = 5 := rfl
theorem kd_64 : uvKd 64 = 11 := rfl
theorem ln_64 : uvLn 64 = 1 := rfl
theorem kd_65 : uvKd 65 = 11 := rfl
theorem ln_65 : uvLn 65 = 1 := rfl
theorem kd_66 : uvKd 66 = 11 := rfl
theorem ln_66 : uvLn 66 = 1 := rfl
theorem kd_67 : uvKd 67 = 11 := rfl
theorem ln_67 : uvLn 67 = 1 := rfl
theorem kd_68 : uvKd 68 = 11 := rfl
theorem ln_68 : uvLn 68 = 1 := rfl
theorem kd_69 : uvKd 69 = 11 := rfl
theorem ln_69 : uvLn 69 = 8 := rfl
theorem kd_70 : uvKd 70 = 5 := rfl
theorem kd_71 : uvKd 71 = 11 := rfl
theorem ln_71 : uvLn 71 = 40 := rfl
theorem kd_72 : uvKd 72 = 11 := rfl
theorem ln_72 : uvLn 72 = 40 := rfl
theorem kd_73 : uvKd 73 = 11 := rfl
theorem ln_73 : uvLn 73 = 40 := rfl
theorem kd_74 : uvKd 74 = 11 := rfl
theorem ln_74 : uvLn 74 = 40 := rfl
theorem kd_75 : uvKd 75 = 11 := rfl
theorem ln_75 : uvLn 75 = 40 := rfl
theorem kd_76 : uvKd 76 = 5 := rfl
theorem kd_77 : uvKd 77 = 11 := rfl
theorem ln_77 : uvLn 77 = 40 := rfl
theorem kd_78 : uvKd 78 = 11 := rfl
theorem ln_78 : uvLn 78 = 40 := rfl
theorem kd_79 : uvKd 79 = 11 := rfl
theorem ln_79 : uvLn 79 = 40 := rfl
theorem kd_80 : uvKd 80 = 11 := rfl
theorem ln_80 : uvLn 80 = 40 := rfl
theorem kd_81 : uvKd 81 = 11 := rfl
theorem ln_81 : uvLn 81 = 40 := rfl
theorem kd_82 : uvKd 82 = 5 := rfl
theorem kd_83 : uvKd 83 = 11 := rfl
theorem ln_83 : uvLn 83 = 40 := rfl
theorem kd_84 : uvKd 84 = 11 := rfl
theorem ln_84 : uvLn 84 = 40 := rfl
theorem kd_85 : uvKd 85 = 11 := rfl
theorem ln_85 : uvLn 85 = 40 := rfl
theorem kd_86 : uvKd 86 = 11 := rfl
theorem ln_86 : uvLn 86 = 40 := rfl
theorem kd_87 : uvKd 87 = 11 := rfl
theorem ln_87 : uvLn 87 = 40 := rfl
theorem kd_88 : uvKd 88 = 5 := rfl
theorem kd_89 : uvKd 89 = 11 := rfl
theorem ln_89 : uvLn 89 = 40 := rfl
theorem kd_90 : uvKd 90 = 11 := rfl
theorem ln_90 : uvLn 90 = 40 := rfl
theorem kd_91 : uvKd 91 = 11 := rfl
theorem ln_91 : uvLn 91 = 40 := rfl
theorem kd_92 : uvKd 92 = 11 := rfl
theorem ln_92 : uvLn 92 = 40 := rfl
theorem kd_93 : uvKd 93 = 11 := rfl
theorem ln_93 : uvLn 93 = 40 := rfl
theorem kd_94 : uvKd 94 = 5 := rfl
theorem kd_95 : uvKd 95 = 11 := rfl
theorem ln_95 : uvLn 95 = 40 := rfl
theorem kd_96 : uvKd 96 = 11 := rfl
theorem ln_96 : uvLn 96 = 40 := rfl
theorem kd_97 : uvKd 97 = 11 := rfl
theorem ln_97 : uvLn 97 = 40 := rfl
theorem kd_98 : uvKd 98 = 11 := rfl
theorem ln_98 : uvLn 98 = 40 := rfl
theorem kd_99 : uvKd 99 = 11 := rfl
theorem ln_99 : uvLn 99 = 40 := rfl
theorem kd_100 : uvKd 100 = 5 := rfl
theorem kd_101 : uvKd 101 = 11 := rfl
theorem ln_101 : uvLn 101 = 40 := rfl
theorem kd_102 : uvKd 102 = 11 := rfl
theorem ln_102 : uvLn 102 = 40 := rfl
theorem kd_103 : uvKd 103 = 11 := rfl
theorem ln_103 : uvLn 103 = 40 := rfl
theorem kd_104 : uvKd 104 = 11 := rfl
theorem ln_104 : uvLn 104 = 40 := rfl
theorem kd_105 : uvKd 105 = 11 := rfl
theorem ln_105 : uvLn 105 = 40 := rfl
theorem kd_106 : uvKd 106 = 5 := rfl
theorem kd_107 : uvKd 107 = 11 := rfl
theorem ln_107 : uvLn 107 = 40 := rfl
theorem kd_108 : uvKd 108 = 11 := rfl
theorem ln_108 : uvLn 108 = 40 := rfl
theorem kd_109 : uvKd 109 = 11 := rfl
theorem ln_109 : uvLn 109 = 40 := rfl
theorem kd_110 : uvKd 110 = 11 := rfl
theorem ln_110 : uvLn 110 = 40 := rfl
theorem kd_111 : uvKd 111 = 11 := rfl
theorem ln_111 : uvLn 111 = 40 := rfl
theorem kd_112 : uvKd 112 = 5 := rfl
theorem kd_113 : uvKd 113 = 11 := rfl
theorem ln_113 : uvLn 113 = 40 := rfl
theorem kd_114 : uvKd 114 = 11 := rfl
theorem ln_114 : uvLn 114 = 40 := rfl
theorem kd_115 : uvKd 115 = 11 := rfl
theorem ln_115 : uvLn 115 = 40 := rfl
theorem kd_116 : uvKd 116 = 11 := rfl
theorem ln_116 : uvLn 116 = 40 := rfl
theorem kd_117 : uvKd 117 = 11 := rfl
theorem ln_117 : uvLn 117 = 40 := rfl
theorem kd_118 : uvKd 118 = 10 := rfl
theorem kd_119 : uvKd 119 = 11 := rfl
theorem ln_119 : uvLn 119 = 240 := rfl
theorem kd_120 : uvKd 120 = 11 := rfl
theorem ln_120 : uvLn 120 = 24 := rfl
theorem kd_121 : uvKd 121 = 11 := rfl
theorem ln_121 : uvLn 121 = 6 := rfl
theorem kd_122 : uvKd 122 = 11 := rfl
theorem ln_122 : uvLn 122 = 128 := rfl
theorem kd_123 : uvKd 123 = 11 := rfl
theorem ln_123 : uvLn 123 = 128 := rfl
theorem kd_124 : uvKd 124 = 11 := rfl
theorem ln_124 : uvLn 124 = 128 := rfl
theorem kd_125 : uvKd 125 = 11 := rfl
theorem ln_125 : uvLn 125 = 128 := rfl
theorem kd_126 : uvKd 126 = 11 := rfl
theorem ln_126 : uvLn 126 = 3 := rfl
theorem kd_127 : uvKd 127 = 11 := rfl
theorem ln_127 : uvLn 127 = 120 := rfl
theorem kd_128 : uvKd 128 = 11 := rfl
theorem ln_128 : uvLn 128 = 24 := rfl
theorem kd_129 : uvKd 129 = 11 := rfl
theorem ln_129 : uvLn 129 = 128 := rfl
theorem kd_130 : uvKd 130 = 11 := rfl
theorem ln_130 : uvLn 130 = 128 := rfl
theorem kd_131 : uvKd 131 = 11 := rfl
theorem ln_131 : uvLn 131 = 128 := rfl
theorem kd_132 : uvKd 132 = 11 := rfl
theorem ln_132 : uvLn 132 = 128 := rfl
theorem kd_133 : uvKd 133 = 11 := rfl
theorem ln_133 : uvLn 133 = 8 := rfl
theorem kd_134 : uvKd 134 = 11 := rfl
theorem ln_134 : uvLn 134 = 8 := rfl
theorem kd_135 : uvKd 135 = 11 := rfl
theorem ln_135 : uvLn 135 = 320 := rfl
theorem kd_136 : uvKd 136 = 11 := rfl
theorem ln_136 : uvLn 136 = 8 := rfl
theorem kd_137 : uvKd 137 = 11 := rfl
theorem ln_137 : uvLn 137 = 320 := rfl
theorem kd_138 : uvKd 138 = 11 := rfl
theorem ln_138 : uvLn 138 = 320 := rfl
theorem kd_139 : uvKd 139 = 11 := rfl
theorem ln_139 : uvLn 139 = 320 := rfl
theorem kd_140 : uvKd 140 = 11 := rfl
theorem ln_140 : uvLn 140 = 320 := rfl
theorem kd_141 : uvKd 141 = 11 := rfl
theorem ln_141 : uvLn 141 = 8 := rfl
theorem ite_k {c : Prop} {_ : Decidable c} {a b k : Nat} (ha : a ≠ k) (h : (if c then a else b) = k) : b = k := by
  by_cases hc : c
  · rw [if_pos hc] at h; exact absurd h ha
  · rw [if_neg hc] at h; exact h
theorem kd_inv1 {o : Int} (h : uvKd o = 1) : o = 38 ∨ o = 40 ∨ o = 42 ∨ o = 44 ∨ o = 46 ∨ o = 48 ∨ o = 50 ∨ o = 52 := by
  obtain ⟨h0, h1⟩ := uvKd_in h (by decide)
  have h1 : o < 142 := h1
  by_cases c : 38 ≤ o ∧ o < 54 ∧ o % 2 = 0
  · omega
  · exfalso
    unfold uvKd at h
    rw [if_neg c] at h
    repeat replace h := ite_k (by decide) h
    exact absurd h (by decide)
theorem kd_inv4 {o : Int} (h : uvKd o = 4) : o = 10 ∨ o = 23 := by
  by_cases c : o = 10 ∨ o = 23
  · exact c
  · exfalso
    unfold uvKd at h
    rw [if_neg c] at h
    repeat replace h := ite_k (by decide) h
    exact absurd h (by decide)
theorem kd_inv7 {o : Int} (h : uvKd o = 7) : o = 14 ∨ o = 27 := by
  by_cases c : o = 14 ∨ o = 27
  · exact c
  · exfalso
    unfold uvKd at h
    rw [if_neg c] at h
    repeat replace h := ite_k (by decide) h
    exact absurd h (by decide)
theorem kd_inv5 {o : Int} (h : uvKd o = 5) : o = 57 ∨ o = 63 ∨ o = 70 ∨ o = 76 ∨ o = 82 ∨ o = 88 ∨ o = 94 ∨ o = 100 ∨ o = 106 ∨ o = 112 := by
  by_cases c : o = 57 ∨ o = 63 ∨ (70 ≤ o ∧ o < 118 ∧ (o - 70) % 6 = 0)
  · omega
  · exfalso
    unfold uvKd at h
    rw [if_neg c] at h
    repeat replace h := ite_k (by decide) h
    exact absurd h (by decide)
theorem rf_37 (i : Int) : uvRf 37 i = 38 + 2 * i := rfl
theorem rf_56 (i : Int) : uvRf 56 i = 70 + 6 * i := rfl
theorem kd_ch {i : Int} (h : 0 ≤ i ∧ i < (8 : Nat)) : uvKd (38 + 2 * i) = 1 := by
  have : i = 0 ∨ i = 1 ∨ i = 2 ∨ i = 3 ∨ i = 4 ∨ i = 5 ∨ i = 6 ∨ i = 7 := by omega
  rcases this with rfl | rfl | rfl | rfl | rfl | rfl | rfl | rfl <;> rfl
theorem kd_ta {i : Int} (h : 0 ≤ i ∧ i < (8 : Nat)) : uvKd (70 + 6 * i) = 5 := by
  have : i = 0 ∨ i = 1 ∨ i = 2 ∨ i = 3 ∨ i = 4 ∨ i = 5 ∨ i = 6 ∨ i = 7 := by omega
  rcases this with rfl | rfl | rfl | rfl | rfl | rfl | rfl | rfl <;> rfl
theorem rf1_0 {o : Int} (h : uvKd o = 1) : uvRf o 0 = o + 1 := by rcases kd_inv1 h with rfl | rfl | rfl | rfl | rfl | rfl | rfl | rfl <;> rfl
theorem ka1_0 {o : Int} (h : uvKd o = 1) : uvKd (o + 1) = 11 := by rcases kd_inv1 h with rfl | rfl | rfl | rfl | rfl | rfl | rfl | rfl <;> rfl
theorem ln1_0 {o : Int} (h : uvKd o = 1) : uvLn (o + 1) = 40 := by rcases kd_inv1 h with rfl | rfl | rfl | rfl | rfl | rfl | rfl | rfl <;> rfl
theorem rf4_0 {o : Int} (h : uvKd o = 4) : uvRf o 0 = o + 1 := by rcases kd_inv4 h with rfl | rfl <;> rfl
theorem ka4_0 {o : Int} (h : uvKd o = 4) : uvKd (o + 1) = 11 := by rcases kd_inv4 h with rfl | rfl <;> rfl
theorem ln4_0 {o : Int} (h : uvKd o = 4) : uvLn (o + 1) = 8 := by rcases kd_inv4 h with rfl | rfl <;> rfl
theorem rf4_1 {o : Int} (h : uvKd o = 4) : uvRf o 1 = o + 2 := by rcases kd_inv4 h with rfl | rfl <;> rfl
theorem ka4_1 {o : Int} (h : uvKd o = 4) : uvKd (o + 2) = 11 := by rcases kd_inv4 h with rfl | rfl <;> rfl
theorem ln4_1 {o : Int} (h : uvKd o = 4) : uvLn (o + 2) = 8 := by rcases kd_inv4 h with rfl | rfl <;> rfl
theorem rf4_2 {o : Int} (h : uvKd o = 4) : uvRf o 2 = o + 3 := by rcases kd_inv4 h with rfl | rfl <;> rfl
theorem ka4_2 {o : Int} (h : uvKd o = 4) : uvKd (o + 3) = 11 := by rcases kd_inv4 h with rfl | rfl <;> rfl
theorem ln4_2 {o : Int} (h : uvKd o = 4) : uvLn (o + 3) = 8 := by rcases kd_inv4 h with rfl | rfl <;> rfl
theorem rf7_0 {o : Int} (h : uvKd o = 7) : uvRf o 0 = o + 1 := by rcases kd_inv7 h with rfl | rfl <;> rfl
theorem ka7_0 {o : Int} (h : uvKd o = 7) : uvKd (o + 1) = 11 := by rcases kd_inv7 h with rfl | rfl <;> rfl
theorem ln7_0 {o : Int} (h : uvKd o = 7) : uvLn (o + 1) = 120 := by rcases kd_inv7 h with rfl | rfl <;> rfl
theorem rf7_1 {o : Int} (h : uvKd o = 7) : uvRf o 1 = o + 2 := by rcases kd_inv7 h with rfl | rfl <;> rfl
theorem ka7_1 {o : Int} (h : uvKd o = 7) : uvKd (o + 2) = 11 := by rcases kd_inv7 h with rfl | rfl <;> rfl
theorem ln7_1 {o : Int} (h : uvKd o = 7) : uvLn (o + 2) = 120 := by rcases kd_inv7 h with rfl | rfl <;> rfl
theorem rf7_2 {o : Int} (h : uvKd o = 7) : uvRf o 2 = o + 3 := by rcases kd_inv7 h with rfl | rfl <;> rfl
theorem ka7_2 {o : Int} (h : uvKd o = 7) : uvKd (o + 3) = 11 := by rcases kd_inv7 h with rfl | rfl <;> rfl
theorem ln7_2 {o : Int} (h : uvKd o = 7) : uvLn (o + 3) = 120 := by rcases kd_inv7 h with rfl | rfl <;> rfl
theorem rf7_3 {o : Int} (h : uvKd o = 7) : uvRf o 3 = o + 4 := by rcases kd_inv7 h with rfl | rfl <;> rfl
theorem ka7_3 {o : Int} (h : uvKd o = 7) : uvKd (o + 4) = 11 := by rcases kd_inv7 h with rfl | rfl <;> rfl
theorem ln7_3 {o : Int} (h : uvKd o = 7) : uvLn (o + 4) = 120 := by rcases kd_inv7 h with rfl | rfl <;> rfl
theorem rf7_4 {o : Int} (h : uvKd o = 7) : uvRf o 4 = o + 5 := by rcases kd_inv7 h with rfl | rfl <;> rfl
theorem ka7_4 {o : Int} (h : uvKd o = 7) : uvKd (o + 5) = 11 := by rcases kd_inv7 h with rfl | rfl <;> rfl
theorem ln7_4 {o : Int} (h : uvKd o = 7) : uvLn (o + 5) = 120 := by rcases kd_inv7 h with rfl | rfl <;> rfl
theorem rf7_5 {o : Int} (h : uvKd o = 7) : uvRf o 5 = o + 6 := by rcases kd_inv7 h with rfl | rfl <;> rfl
theorem ka7_5 {o : Int} (h : uvKd o = 7) : uvKd (o + 6) = 11 := by rcases kd_inv7 h with rfl | rfl <;> rfl
theorem ln7_5 {o : Int} (h : uvKd o = 7) : uvLn (o + 6) = 120 := by rcases kd_inv7 h with rfl | rfl <;> rfl
theorem rf5_0 {o : Int} (h : uvKd o = 5) : uvRf o 0 = o + 1 := by rcases kd_inv5 h with rfl | rfl | rfl | rfl | rfl | rfl | rfl | rfl | rfl | rfl <;> rfl
theorem ka5_0 {o : Int} (h : uvKd o = 5) : uvKd (o + 1) = 11 := by rcases kd_inv5 h with rfl | rfl | rfl | rfl | rfl | rfl | rfl | rfl | rfl | rfl <;> rfl
theorem rf5_1 {o : Int} (h : uvKd o = 5) : uvRf o 1 = o + 2 := by rcases kd_inv5 h with rfl | rfl | rfl | rfl | rfl | rfl | rfl | rfl | rfl | rfl <;> rfl
theorem ka5_1 {o : Int} (h : uvKd o = 5) : uvKd (o + 2) = 11 := by rcases kd_inv5 h with rfl | rfl | rfl | rfl | rfl | rfl | rfl | rfl | rfl | rfl <;> rfl
theorem rf5_2 {o : Int} (h : uvKd o = 5) : uvRf o 2 = o + 3 := by rcases kd_inv5 h with rfl | rfl | rfl | rfl | rfl | rfl | rfl | rfl | rfl | rfl <;> rfl
theorem ka5_2 {o : Int} (h : uvKd o = 5) : uvKd (o + 3) = 11 := by rcases kd_inv5 h with rfl | rfl | rfl | rfl | rfl | rfl | rfl | rfl | rfl | rfl <;> rfl
theorem rf5_3 {o : Int} (h : uvKd o = 5) : uvRf o 3 = o + 4 := by rcases kd_inv5 h with rfl | rfl | rfl | rfl | rfl | rfl | rfl | rfl | rfl | rfl <;> rfl
theorem ka5_3 {o : Int} (h : uvKd o = 5) : uvKd (o + 4) = 11 := by rcases kd_inv5 h with rfl | rfl | rfl | rfl | rfl | rfl | rfl | rfl | rfl | rfl <;> rfl
theorem rf5_4 {o : Int} (h : uvKd o = 5) : uvRf o 4 = o + 5 := by rcases kd_inv5 h with rfl | rfl | rfl | rfl | rfl | rfl | rfl | rfl | rfl | rfl <;> rfl
theorem ka5_4 {o : Int} (h : uvKd o = 5) : uvKd (o + 5) = 11 := by rcases kd_inv5 h with rfl | rfl | rfl | rfl | rfl | rfl | rfl | rfl | rfl | rfl <;> rfl
theorem wI_ite {c : Prop} {_ : Decidable c} {a b : Int} (ha : wI a = a) (hb : wI b = b) : wI (if c then a else b) = if c then a else b := by
  by_cases h : c
  · rw [if_pos h]; exact ha
  · rw [if_neg h]; exact hb
theorem b01_ite {c : Prop} {_ : Decidable c} {a b : Int} (ha : a = 0 ∨ a = 1) (hb : b = 0 ∨ b = 1) : (if c then a else b) = 0 ∨ (if c then a else b) = 1 := by
  by_cases h : c
  · rw [if_pos h]; exact ha
  · rw [if_neg h]; exact hb
