def st_0 : St := fun _ _ => 0
def st_1 : St := upS st_0 1001 0 3
def st_2 : St := upS st_1 1001 1 4
def st_3 : St := upS st_2 1001 2 5
def st_4 : St := upS st_3 1001 3 6
def st_5 : St := upS st_4 1001 4 7
def st_6 : St := upS st_5 1001 5 8
def st_7 : St := upS st_6 1001 6 9
def st_8 : St := upS st_7 1001 7 10
def st_9 : St := upS st_8 1 8 0
def st_10 : St := upS st_9 9 0 (-1)
def st_11 : St := upS st_10 9 1 (-1)
def st_12 : St := upS st_11 9 2 (-1)
def st_13 : St := upS st_12 9 3 (-1)
def st_14 : St := upS st_13 1000 0 2
def st_15 : St := upS st_14 1010 0 12
def st_16 : St := upS st_15 1010 1 13
def st_17 : St := upS st_16 1010 2 14
def st_18 : St := upS st_17 1000 1 11
def st_19 : St := upS st_18 1014 0 16
def st_20 : St := upS st_19 1014 1 17
def st_21 : St := upS st_20 1014 2 18
def st_22 : St := upS st_21 1014 3 19
def st_23 : St := upS st_22 1014 4 20
def st_24 : St := upS st_23 1014 5 21
def st_25 : St := upS st_24 15 0 42
def st_26 : St := upS st_25 16 0 0
def st_27 : St := upS st_26 17 0 (-1)
def st_28 : St := upS st_27 18 0 (-1)
def st_29 : St := upS st_28 19 0 (-1)
def st_30 : St := upS st_29 20 0 (-1)
def st_31 : St := upS st_30 14 6 1
def st_32 : St := upS st_31 20 0 0
def st_33 : St := upS st_32 14 7 1
def st_34 : St := upS st_33 1000 2 15
def st_35 : St := upS st_34 1021 0 23
def st_36 : St := upS st_35 1023 0 25
def st_37 : St := upS st_36 1023 1 26
def st_38 : St := upS st_37 1023 2 27
def st_39 : St := upS st_38 1021 1 24
def st_40 : St := upS st_39 1027 0 29
def st_41 : St := upS st_40 1027 1 30
def st_42 : St := upS st_41 1027 2 31
def st_43 : St := upS st_42 1027 3 32
def st_44 : St := upS st_43 1027 4 33
def st_45 : St := upS st_44 1027 5 34
def st_46 : St := upS st_45 28 0 42
def st_47 : St := upS st_46 29 0 0
def st_48 : St := upS st_47 30 0 (-1)
def st_49 : St := upS st_48 31 0 (-1)
def st_50 : St := upS st_49 32 0 (-1)
def st_51 : St := upS st_50 33 0 (-1)
def st_52 : St := upS st_51 27 6 1
def st_53 : St := upS st_52 33 0 0
def st_54 : St := upS st_53 27 7 1
def st_55 : St := upS st_54 1021 2 28
def st_56 : St := upS st_55 1000 3 22
def st_57 : St := upS st_56 1000 4 35
def st_58 : St := upS st_57 34 0 0
def st_59 : St := upS st_58 34 1 1
def st_60 : St := upS st_59 34 2 2
def st_61 : St := upS st_60 34 3 3
def st_62 : St := upS st_61 34 4 4
def st_63 : St := upS st_62 34 5 5
def st_64 : St := upS st_63 1035 4 37
def st_65 : St := upS st_64 1035 5 38
def st_66 : St := upS st_65 1035 0 2
def st_67 : St := upS st_66 1035 1 11
def st_68 : St := upS st_67 1035 2 15
def st_69 : St := upS st_68 1035 3 35
def st_70 : St := upS st_69 1038 0 40
def st_71 : St := upS st_70 1037 0 39
def st_72 : St := upS st_71 1040 0 42
def st_73 : St := upS st_72 1037 1 41
def st_74 : St := upS st_73 1042 0 44
def st_75 : St := upS st_74 1037 2 43
def st_76 : St := upS st_75 1044 0 46
def st_77 : St := upS st_76 1037 3 45
def st_78 : St := upS st_77 1046 0 48
def st_79 : St := upS st_78 1037 4 47
def st_80 : St := upS st_79 1048 0 50
def st_81 : St := upS st_80 1037 5 49
def st_82 : St := upS st_81 1050 0 52
def st_83 : St := upS st_82 1037 6 51
def st_84 : St := upS st_83 1052 0 54
def st_85 : St := upS st_84 1037 7 53
def st_86 : St := upS st_85 1000 5 36
def st_87 : St := upS st_86 1054 0 2
def st_88 : St := upS st_87 1054 1 11
def st_89 : St := upS st_88 1000 6 55
def st_90 : St := upS st_89 1055 3 57
def st_91 : St := upS st_90 1057 0 59
def st_92 : St := upS st_91 1057 1 60
def st_93 : St := upS st_92 1057 2 61
def st_94 : St := upS st_93 1057 3 62
def st_95 : St := upS st_94 1057 4 63
def st_96 : St := upS st_95 1055 4 58
def st_97 : St := upS st_96 1063 0 65
def st_98 : St := upS st_97 1063 1 66
def st_99 : St := upS st_98 1063 2 67
def st_100 : St := upS st_99 1063 3 68
def st_101 : St := upS st_100 1063 4 69
def st_102 : St := upS st_101 1055 5 64
def st_103 : St := upS st_102 1055 6 70
def st_104 : St := upS st_103 1055 0 11
def st_105 : St := upS st_104 1055 1 38
def st_106 : St := upS st_105 1055 2 55
def st_107 : St := upS st_106 1070 0 72
def st_108 : St := upS st_107 1070 1 73
def st_109 : St := upS st_108 1070 2 74
def st_110 : St := upS st_109 1070 3 75
def st_111 : St := upS st_110 1070 4 76
def st_112 : St := upS st_111 1056 0 71
def st_113 : St := upS st_112 1076 0 78
def st_114 : St := upS st_113 1076 1 79
def st_115 : St := upS st_114 1076 2 80
def st_116 : St := upS st_115 1076 3 81
def st_117 : St := upS st_116 1076 4 82
def st_118 : St := upS st_117 1056 1 77
def st_119 : St := upS st_118 1082 0 84
def st_120 : St := upS st_119 1082 1 85
def st_121 : St := upS st_120 1082 2 86
def st_122 : St := upS st_121 1082 3 87
def st_123 : St := upS st_122 1082 4 88
def st_124 : St := upS st_123 1056 2 83
def st_125 : St := upS st_124 1088 0 90
def st_126 : St := upS st_125 1088 1 91
def st_127 : St := upS st_126 1088 2 92
def st_128 : St := upS st_127 1088 3 93
def st_129 : St := upS st_128 1088 4 94
def st_130 : St := upS st_129 1056 3 89
def st_131 : St := upS st_130 1094 0 96
def st_132 : St := upS st_131 1094 1 97
def st_133 : St := upS st_132 1094 2 98
def st_134 : St := upS st_133 1094 3 99
def st_135 : St := upS st_134 1094 4 100
def st_136 : St := upS st_135 1056 4 95
def st_137 : St := upS st_136 1100 0 102
def st_138 : St := upS st_137 1100 1 103
def st_139 : St := upS st_138 1100 2 104
def st_140 : St := upS st_139 1100 3 105
def st_141 : St := upS st_140 1100 4 106
def st_142 : St := upS st_141 1056 5 101
def st_143 : St := upS st_142 1106 0 108
def st_144 : St := upS st_143 1106 1 109
def st_145 : St := upS st_144 1106 2 110
def st_146 : St := upS st_145 1106 3 111
def st_147 : St := upS st_146 1106 4 112
def st_148 : St := upS st_147 1056 6 107
def st_149 : St := upS st_148 1112 0 114
def st_150 : St := upS st_149 1112 1 115
def st_151 : St := upS st_150 1112 2 116
def st_152 : St := upS st_151 1112 3 117
def st_153 : St := upS st_152 1112 4 118
def st_154 : St := upS st_153 1056 7 113
def st_155 : St := upS st_154 64 0 1000000
def st_156 : St := upS st_155 65 0 1000000
def st_157 : St := upS st_156 66 0 0
def st_158 : St := upS st_157 67 0 0
def st_159 : St := upS st_158 68 0 0
def st_160 : St := upS st_159 64 0 0
def st_161 : St := upS st_160 67 0 1
def st_162 : St := upS st_161 1000 7 56
def st_163 : St := upS st_162 1118 0 120
def st_164 : St := upS st_163 1118 2 121
def st_165 : St := upS st_164 1118 4 122
def st_166 : St := upS st_165 1118 6 123
def st_167 : St := upS st_166 1118 7 124
def st_168 : St := upS st_167 1118 8 125
def st_169 : St := upS st_168 1118 9 126
def st_170 : St := upS st_169 118 10 1
def st_171 : St := upS st_170 1118 12 127
def st_172 : St := upS st_171 1118 13 128
def st_173 : St := upS st_172 1118 16 129
def st_174 : St := upS st_173 1118 17 130
def st_175 : St := upS st_174 1118 18 131
def st_176 : St := upS st_175 1118 19 132
def st_177 : St := upS st_176 1118 20 133
def st_178 : St := upS st_177 1118 23 134
def st_179 : St := upS st_178 1118 24 135
def st_180 : St := upS st_179 1118 25 136
def st_181 : St := upS st_180 1118 26 137
def st_182 : St := upS st_181 118 27 (-1)
def st_183 : St := upS st_182 1118 30 138
def st_184 : St := upS st_183 1118 31 139
def st_185 : St := upS st_184 1118 32 140
def st_186 : St := upS st_185 1118 33 141
def st_187 : St := upS st_186 1118 38 142
def st_188 : St := upS st_187 121 0 0
def st_189 : St := upS st_188 121 1 1
def st_190 : St := upS st_189 121 2 2
def st_191 : St := upS st_190 121 3 3
def st_192 : St := upS st_191 121 4 4
def st_193 : St := upS st_192 121 5 5
def rdS {α : Type} (L : Nat) (xs : Nat → Int32) (i : Int) (k : Int → Option α) : Option α := if 0 ≤ i ∧ i < L then k (xs i.toNat).toInt else none
def lp_L_law_18 (L : Nat) (xs : Nat → Int32) (kx : St → Option (Int × St)) : Nat → St → Int → Option (Int × St)
  | 0, _, _ => none
  | n + 1, σ, x3 =>
    if wI (L - 7) < wI x3 then
      kx σ
    else
      rdS L xs x3 fun v2 =>
      if wI (andI v2 31) = 0 then
        rdS L xs (x3 + 1) fun v4 =>
        rdS L xs (x3 + 2) fun v5 =>
        rdS L xs (x3 + 3) fun v6 =>
        rdS L xs (x3 + 4) fun v7 =>
        rdS L xs (x3 + 5) fun v8 =>
        rdS L xs (x3 + 6) fun v9 =>
        bd2 (f_X9_unit σ v4 v5 v6 v7 v8 v9) fun v10 σ11 =>
        rdS L xs (x3 + 1) fun v12 =>
        rdS L xs (x3 + 2) fun v13 =>
        rdS L xs (x3 + 3) fun v14 =>
        rdS L xs (x3 + 4) fun v15 =>
        rdS L xs (x3 + 5) fun v16 =>
        rdS L xs (x3 + 6) fun v17 =>
        bd2 (f_X10_unit σ11 v12 v13 v14 v15 v16 v17) fun v18 σ19 =>
        if wI v10 = wI v18 then
          lp_L_law_18 L xs kx n σ19 (x3 + 7)
        else
          some (0, σ19)
      else
        if wI (andI v2 31) = 1 then
          rdS L xs (x3 + 1) fun v22 =>
          rdS L xs (x3 + 2) fun v23 =>
          rdS L xs (x3 + 3) fun v24 =>
          bd2 (f_X9_records σ v22 v23 v24) fun v25 σ26 =>
          rdS L xs (x3 + 1) fun v27 =>
          rdS L xs (x3 + 2) fun v28 =>
          rdS L xs (x3 + 3) fun v29 =>
          bd2 (f_X10_records σ26 v27 v28 v29) fun v30 σ31 =>
          if wI v25 = wI v30 then
            lp_L_law_18 L xs kx n σ31 (x3 + 7)
          else
            some (0, σ31)
        else
          if wI (andI v2 31) = 2 then
            rdS L xs (x3 + 1) fun v34 =>
            rdS L xs (x3 + 2) fun v35 =>
            bd2 (f_X9_of σ v34 v35) fun v36 σ37 =>
            rdS L xs (x3 + 1) fun v38 =>
            rdS L xs (x3 + 2) fun v39 =>
            bd2 (f_X10_of σ37 v38 v39) fun v40 σ41 =>
            if wI v36 = wI v40 then
              lp_L_law_18 L xs kx n σ41 (x3 + 7)
            else
              some (0, σ41)
          else
            if wI (andI v2 31) = 3 then
              bd2 (f_X9_empties σ) fun v44 σ45 =>
              bd2 (f_X10_empties σ45) fun v46 σ47 =>
              if wI v44 = wI v46 then
                lp_L_law_18 L xs kx n σ47 (x3 + 7)
              else
                some (0, σ47)
            else
              if wI (andI v2 31) = 4 then
                rdS L xs (x3 + 1) fun v50 =>
                rdS L xs (x3 + 2) fun v51 =>
                bd2 (f_X9_other σ v50 v51) fun v52 σ53 =>
                rdS L xs (x3 + 1) fun v54 =>
                rdS L xs (x3 + 2) fun v55 =>
                bd2 (f_X10_other σ53 v54 v55) fun v56 σ57 =>
                if wI v52 = wI v56 then
                  lp_L_law_18 L xs kx n σ57 (x3 + 7)
                else
                  some (0, σ57)
              else
                if wI (andI v2 31) = 5 then
                  rdS L xs (x3 + 1) fun v60 =>
                  bd2 (f_X9_fitter σ v60) fun v61 σ62 =>
                  rdS L xs (x3 + 1) fun v63 =>
                  bd2 (f_X10_fitter σ62 v63) fun v64 σ65 =>
                  if wI v61 = wI v64 then
                    lp_L_law_18 L xs kx n σ65 (x3 + 7)
                  else
                    some (0, σ65)
                else
                  if wI (andI v2 31) = 6 then
                    rdS L xs (x3 + 1) fun v68 =>
                    bd2 (f_X9_type σ v68) fun v69 σ70 =>
                    rdS L xs (x3 + 1) fun v71 =>
                    bd2 (f_X10_type σ70 v71) fun v72 σ73 =>
                    if wI v69 = wI v72 then
                      lp_L_law_18 L xs kx n σ73 (x3 + 7)
                    else
                      some (0, σ73)
                  else
                    if wI (andI v2 31) = 7 then
                      bd2 (f_X9_clear σ) fun v76 σ77 =>
                      bd2 (f_X10_clear σ77) fun v78 σ79 =>
                      if wI v76 = wI v78 then
                        lp_L_law_18 L xs kx n σ79 (x3 + 7)
                      else
                        some (0, σ79)
                    else
                      if wI (andI v2 31) = 8 then
                        bd2 (f_X9_reads σ) fun v82 σ83 =>
                        bd2 (f_X10_reads σ83) fun v84 σ85 =>
                        if wI v82 = wI v84 then
                          lp_L_law_18 L xs kx n σ85 (x3 + 7)
                        else
                          some (0, σ85)
                      else
                        if wI (andI v2 31) = 9 then
                          rdS L xs (x3 + 1) fun v88 =>
                          rdS L xs (x3 + 2) fun v89 =>
                          bd2 (f_X9_target σ v88 v89) fun v90 σ91 =>
                          rdS L xs (x3 + 1) fun v92 =>
                          rdS L xs (x3 + 2) fun v93 =>
                          bd2 (f_X10_target σ91 v92 v93) fun v94 σ95 =>
                          if wI v90 = wI v94 then
                            lp_L_law_18 L xs kx n σ95 (x3 + 7)
                          else
                            some (0, σ95)
                        else
                          if wI (andI v2 31) = 10 then
                            rdS L xs (x3 + 1) fun v98 =>
                            bd2 (f_X9_tree σ v98) fun v99 σ100 =>
                            rdS L xs (x3 + 1) fun v101 =>
                            bd2 (f_X10_tree σ100 v101) fun v102 σ103 =>
                            if wI v99 = wI v102 then
                              lp_L_law_18 L xs kx n σ103 (x3 + 7)
                            else
                              some (0, σ103)
                          else
                            if wI (andI v2 31) = 11 then
                              rdS L xs (x3 + 1) fun v106 =>
                              rdS L xs (x3 + 2) fun v107 =>
                              bd2 (f_X9_leaf σ v106 v107) fun v108 σ109 =>
                              rdS L xs (x3 + 1) fun v110 =>
                              rdS L xs (x3 + 2) fun v111 =>
                              bd2 (f_X10_leaf σ109 v110 v111) fun v112 σ113 =>
                              if wI v108 = wI v112 then
                                lp_L_law_18 L xs kx n σ113 (x3 + 7)
                              else
                                some (0, σ113)
                            else
                              if wI (andI v2 31) = 12 then
                                rdS L xs (x3 + 1) fun v116 =>
                                rdS L xs (x3 + 2) fun v117 =>
                                bd2 (f_X9_choice σ v116 v117) fun v118 σ119 =>
                                rdS L xs (x3 + 1) fun v120 =>
                                rdS L xs (x3 + 2) fun v121 =>
                                bd2 (f_X10_choice σ119 v120 v121) fun v122 σ123 =>
                                if wI v118 = wI v122 then
                                  lp_L_law_18 L xs kx n σ123 (x3 + 7)
                                else
                                  some (0, σ123)
                              else
                                if wI (andI v2 31) = 13 then
                                  rdS L xs (x3 + 1) fun v126 =>
                                  bd2 (f_X9_steps σ v126) fun v127 σ128 =>
                                  rdS L xs (x3 + 1) fun v129 =>
                                  bd2 (f_X10_steps σ128 v129) fun v130 σ131 =>
                                  if wI v127 = wI v130 then
                                    lp_L_law_18 L xs kx n σ131 (x3 + 7)
                                  else
                                    some (0, σ131)
                                else
                                  if wI (andI v2 31) = 14 then
                                    rdS L xs (x3 + 1) fun v134 =>
                                    bd2 (f_X9_tried σ v134) fun v135 σ136 =>
                                    rdS L xs (x3 + 1) fun v137 =>
                                    bd2 (f_X10_tried σ136 v137) fun v138 σ139 =>
                                    if wI v135 = wI v138 then
                                      lp_L_law_18 L xs kx n σ139 (x3 + 7)
                                    else
                                      some (0, σ139)
                                  else
                                    if wI (andI v2 31) = 15 then
                                      rdS L xs (x3 + 1) fun v142 =>
                                      rdS L xs (x3 + 2) fun v143 =>
                                      bd2 (f_X9_fit σ v142 v143) fun v144 σ145 =>
                                      rdS L xs (x3 + 1) fun v146 =>
                                      rdS L xs (x3 + 2) fun v147 =>
                                      bd2 (f_X10_fit σ145 v146 v147) fun v148 σ149 =>
                                      if wI v144 = wI v148 then
                                        lp_L_law_18 L xs kx n σ149 (x3 + 7)
                                      else
                                        some (0, σ149)
                                    else
                                      if wI (andI v2 31) = 16 then
                                        rdS L xs (x3 + 1) fun v152 =>
                                        rdS L xs (x3 + 2) fun v153 =>
                                        bd2 (f_X9_joint σ v152 v153) fun v154 σ155 =>
                                        rdS L xs (x3 + 1) fun v156 =>
                                        rdS L xs (x3 + 2) fun v157 =>
                                        bd2 (f_X10_joint σ155 v156 v157) fun v158 σ159 =>
                                        if wI v154 = wI v158 then
                                          lp_L_law_18 L xs kx n σ159 (x3 + 7)
                                        else
                                          some (0, σ159)
                                      else
                                        if wI (andI v2 31) = 17 then
                                          bd2 (f_X9_cost σ) fun v162 σ163 =>
                                          bd2 (f_X10_cost σ163) fun v164 σ165 =>
                                          if wI v162 = wI v164 then
                                            lp_L_law_18 L xs kx n σ165 (x3 + 7)
                                          else
                                            some (0, σ165)
                                        else
                                          if wI (andI v2 31) = 18 then
                                            rdS L xs (x3 + 1) fun v168 =>
                                            bd2 (f_X9_chain σ v168) fun v169 σ170 =>
                                            rdS L xs (x3 + 1) fun v171 =>
                                            bd2 (f_X10_chain σ170 v171) fun v172 σ173 =>
                                            if wI v169 = wI v172 then
                                              lp_L_law_18 L xs kx n σ173 (x3 + 7)
                                            else
                                              some (0, σ173)
                                          else
                                            if wI (andI v2 31) = 19 then
                                              bd2 (f_X9_ways σ) fun v176 σ177 =>
                                              bd2 (f_X10_ways σ177) fun v178 σ179 =>
                                              if wI v176 = wI v178 then
                                                lp_L_law_18 L xs kx n σ179 (x3 + 7)
                                              else
                                                some (0, σ179)
                                            else
                                              if wI (andI v2 31) = 20 then
                                                bd2 (f_X9_next σ) fun v182 σ183 =>
                                                bd2 (f_X10_next σ183) fun v184 σ185 =>
                                                if wI v182 = wI v184 then
                                                  lp_L_law_18 L xs kx n σ185 (x3 + 7)
                                                else
                                                  some (0, σ185)
                                              else
                                                if wI (andI v2 31) = 21 then
                                                  bd2 (f_X9_dearest σ) fun v188 σ189 =>
                                                  bd2 (f_X10_dearest σ189) fun v190 σ191 =>
                                                  if wI v188 = wI v190 then
                                                    lp_L_law_18 L xs kx n σ191 (x3 + 7)
                                                  else
                                                    some (0, σ191)
                                                else
                                                  if wI (andI v2 31) = 22 then
                                                    rdS L xs (x3 + 1) fun v194 =>
                                                    bd2 (f_X9_without σ v194) fun v195 σ196 =>
                                                    rdS L xs (x3 + 1) fun v197 =>
                                                    bd2 (f_X10_without σ196 v197) fun v198 σ199 =>
                                                    if wI v195 = wI v198 then
                                                      lp_L_law_18 L xs kx n σ199 (x3 + 7)
                                                    else
                                                      some (0, σ199)
                                                  else
                                                    if wI (andI v2 31) = 23 then
                                                      rdS L xs (x3 + 1) fun v202 =>
                                                      bd2 (f_X9_about σ v202) fun v203 σ204 =>
                                                      rdS L xs (x3 + 1) fun v205 =>
                                                      bd2 (f_X10_about σ204 v205) fun v206 σ207 =>
                                                      if wI v203 = wI v206 then
                                                        lp_L_law_18 L xs kx n σ207 (x3 + 7)
                                                      else
                                                        some (0, σ207)
                                                    else
                                                      if wI (andI v2 31) = 24 then
                                                        rdS L xs (x3 + 1) fun v210 =>
                                                        bd2 (f_X9_cheapest σ v210) fun v211 σ212 =>
                                                        rdS L xs (x3 + 1) fun v213 =>
                                                        bd2 (f_X10_cheapest σ212 v213) fun v214 σ215 =>
                                                        if wI v211 = wI v214 then
                                                          lp_L_law_18 L xs kx n σ215 (x3 + 7)
                                                        else
                                                          some (0, σ215)
                                                      else
                                                        if wI (andI v2 31) = 25 then
                                                          rdS L xs (x3 + 1) fun v218 =>
                                                          bd2 (f_X9_told σ v218) fun v219 σ220 =>
                                                          rdS L xs (x3 + 1) fun v221 =>
                                                          bd2 (f_X10_told σ220 v221) fun v222 σ223 =>
                                                          if wI v219 = wI v222 then
                                                            lp_L_law_18 L xs kx n σ223 (x3 + 7)
                                                          else
                                                            some (0, σ223)
                                                        else
                                                          if wI (andI v2 31) = 26 then
                                                            bd2 (f_X9_digest σ) fun v226 σ227 =>
                                                            bd2 (f_X10_digest σ227) fun v228 σ229 =>
                                                            if cmpL v226 v228 = 0 then
                                                              lp_L_law_18 L xs kx n σ229 (x3 + 7)
                                                            else
                                                              some (0, σ229)
                                                          else
                                                            lp_L_law_18 L xs kx n σ (x3 + 7)
def f_L_law (L : Nat) (xs : Nat → Int32) (σ : St) : Option (Int × St) :=
  lp_L_law_18 L xs (fun σ231 =>
      some (1, σ231)) 600 σ 0
