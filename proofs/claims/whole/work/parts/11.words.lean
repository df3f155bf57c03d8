theorem wd_0 : (Cond.initialized "UnitVoicesLaw") ∈ TB := tb_in (i := 62) (by decide +kernel) rfl
theorem wd_1 : (Cond.initialized "UnitVoices") ∈ TB := tb_in (i := 63) (by decide +kernel) rfl
theorem wd_2 : (Cond.initialized "UnitVoices$Units") ∈ TB := tb_in (i := 64) (by decide +kernel) rfl
theorem wd_3 : (Cond.initialized "UnitVoices$Row") ∈ TB := tb_in (i := 65) (by decide +kernel) rfl
theorem wd_4 : (Cond.initialized "UnitVoices$Tree") ∈ TB := tb_in (i := 66) (by decide +kernel) rfl
theorem wd_5 : (Cond.initialized "UnitVoices$Text") ∈ TB := tb_in (i := 67) (by decide +kernel) rfl
theorem wd_6 : (Cond.initialized "UnitVoices$Chooser") ∈ TB := tb_in (i := 68) (by decide +kernel) rfl
theorem wd_7 : (Cond.initialized "UnitVoices$Choice") ∈ TB := tb_in (i := 69) (by decide +kernel) rfl
theorem wd_8 : (Cond.initialized "UnitVoices$Prices") ∈ TB := tb_in (i := 70) (by decide +kernel) rfl
theorem wd_9 : (Cond.initialized "UnitVoices$Chains") ∈ TB := tb_in (i := 71) (by decide +kernel) rfl
theorem wd_10 : (Cond.initialized "UnitVoices$Tally") ∈ TB := tb_in (i := 72) (by decide +kernel) rfl
theorem wd_11 : (Cond.initialized "java/lang/Math") ∈ TB := tb_in (i := 73) (by decide +kernel) rfl
theorem wd_12 : (Cond.initialized "UnitVoicesModel") ∈ TB := tb_in (i := 74) (by decide +kernel) rfl
theorem wd_13 : (Cond.initialized "java/lang/String") ∈ TB := tb_in (i := 75) (by decide +kernel) rfl
theorem wd_14 : (Cond.initialized "java/lang/StringLatin1") ∈ TB := tb_in (i := 76) (by decide +kernel) rfl
theorem wd_15 : (Cond.initialized "jdk/internal/util/Preconditions") ∈ TB := tb_in (i := 77) (by decide +kernel) rfl
theorem wd_16 : (Cond.initialized "java/lang/StringUTF16") ∈ TB := tb_in (i := 78) (by decide +kernel) rfl
theorem wd_17 : (Cond.initialized "java/lang/Long") ∈ TB := tb_in (i := 79) (by decide +kernel) rfl
theorem wd_18 : (Cond.classLink "UnitVoicesLaw" (7 : Nat) "UnitVoices") ∈ TB := tb_in (i := 80) (by decide +kernel) rfl
theorem wd_19 : (Cond.instantiable "UnitVoices" (12 : Nat)) ∈ TB := tb_in (i := 81) (by decide +kernel) rfl
theorem wd_20 : (Cond.methodLink "UnitVoicesLaw" (9 : Nat) ({ cls := "UnitVoices", name := "<init>", desc := "()V" } : Jvm.MethodName)) ∈ TB := tb_in (i := 82) (by decide +kernel) rfl
theorem wd_23 : (Cond.methodLink "UnitVoices" (1 : Nat) ({ cls := "java/lang/Object", name := "<init>", desc := "()V" } : Jvm.MethodName)) ∈ TB := tb_in (i := 85) (by decide +kernel) rfl
theorem wd_26 : (Cond.classLink "UnitVoices" (7 : Nat) "UnitVoices$Units") ∈ TB := tb_in (i := 88) (by decide +kernel) rfl
theorem wd_27 : (Cond.instantiable "UnitVoices$Units" (9 : Nat)) ∈ TB := tb_in (i := 89) (by decide +kernel) rfl
theorem wd_28 : (Cond.methodLink "UnitVoices" (9 : Nat) ({ cls := "UnitVoices$Units", name := "<init>", desc := "()V" } : Jvm.MethodName)) ∈ TB := tb_in (i := 90) (by decide +kernel) rfl
theorem wd_31 : (Cond.methodLink "UnitVoices$Units" (3 : Nat) ({ cls := "java/lang/Object", name := "<init>", desc := "()V" } : Jvm.MethodName)) ∈ TB := tb_in (i := 93) (by decide +kernel) rfl
theorem wd_32 : (Cond.methodLink "UnitVoices$Units" (36 : Nat) ({ cls := "UnitVoices$Units", name := "removeAll", desc := "()V" } : Jvm.MethodName)) ∈ TB := tb_in (i := 94) (by decide +kernel) rfl
theorem wd_36 : (Cond.fieldLink "UnitVoices$Units" (9 : Nat) "UnitVoices$Units" "sound" "[I") ∈ TB := tb_in (i := 98) (by decide +kernel) rfl
theorem wd_37 : (Cond.fieldLink "UnitVoices$Prices" (55 : Nat) "UnitVoices$Units" "sound" "[I") ∈ TB := tb_in (i := 99) (by decide +kernel) rfl
theorem wd_38 : (Cond.fieldLink "UnitVoices" (120 : Nat) "UnitVoices$Units" "sound" "[I") ∈ TB := tb_in (i := 100) (by decide +kernel) rfl
theorem wd_39 : (Cond.fieldLink "UnitVoices$Chooser" (116 : Nat) "UnitVoices$Units" "sound" "[I") ∈ TB := tb_in (i := 101) (by decide +kernel) rfl
theorem wd_40 : (Cond.fieldLink "UnitVoices$Units" (15 : Nat) "UnitVoices$Units" "left" "[I") ∈ TB := tb_in (i := 102) (by decide +kernel) rfl
theorem wd_41 : (Cond.fieldLink "UnitVoices$Chooser" (37 : Nat) "UnitVoices$Units" "left" "[I") ∈ TB := tb_in (i := 103) (by decide +kernel) rfl
theorem wd_42 : (Cond.fieldLink "UnitVoices$Prices" (40 : Nat) "UnitVoices$Units" "left" "[I") ∈ TB := tb_in (i := 104) (by decide +kernel) rfl
theorem wd_43 : (Cond.fieldLink "UnitVoices" (123 : Nat) "UnitVoices$Units" "left" "[I") ∈ TB := tb_in (i := 105) (by decide +kernel) rfl
theorem wd_44 : (Cond.fieldLink "UnitVoices$Units" (18 : Nat) "UnitVoices$Units" "right" "[I") ∈ TB := tb_in (i := 106) (by decide +kernel) rfl
theorem wd_45 : (Cond.fieldLink "UnitVoices$Chooser" (42 : Nat) "UnitVoices$Units" "right" "[I") ∈ TB := tb_in (i := 107) (by decide +kernel) rfl
theorem wd_46 : (Cond.fieldLink "UnitVoices$Prices" (46 : Nat) "UnitVoices$Units" "right" "[I") ∈ TB := tb_in (i := 108) (by decide +kernel) rfl
theorem wd_47 : (Cond.fieldLink "UnitVoices" (126 : Nat) "UnitVoices$Units" "right" "[I") ∈ TB := tb_in (i := 109) (by decide +kernel) rfl
theorem wd_48 : (Cond.fieldLink "UnitVoices$Units" (21 : Nat) "UnitVoices$Units" "pitch" "[I") ∈ TB := tb_in (i := 110) (by decide +kernel) rfl
theorem wd_49 : (Cond.fieldLink "UnitVoices$Prices" (17 : Nat) "UnitVoices$Units" "pitch" "[I") ∈ TB := tb_in (i := 111) (by decide +kernel) rfl
theorem wd_50 : (Cond.fieldLink "UnitVoices$Chooser" (45 : Nat) "UnitVoices$Units" "pitch" "[I") ∈ TB := tb_in (i := 112) (by decide +kernel) rfl
theorem wd_51 : (Cond.fieldLink "UnitVoices" (129 : Nat) "UnitVoices$Units" "pitch" "[I") ∈ TB := tb_in (i := 113) (by decide +kernel) rfl
theorem wd_52 : (Cond.fieldLink "UnitVoices$Units" (24 : Nat) "UnitVoices$Units" "length" "[I") ∈ TB := tb_in (i := 114) (by decide +kernel) rfl
theorem wd_53 : (Cond.fieldLink "UnitVoices$Prices" (32 : Nat) "UnitVoices$Units" "length" "[I") ∈ TB := tb_in (i := 115) (by decide +kernel) rfl
theorem wd_54 : (Cond.fieldLink "UnitVoices$Chooser" (48 : Nat) "UnitVoices$Units" "length" "[I") ∈ TB := tb_in (i := 116) (by decide +kernel) rfl
theorem wd_55 : (Cond.fieldLink "UnitVoices" (132 : Nat) "UnitVoices$Units" "length" "[I") ∈ TB := tb_in (i := 117) (by decide +kernel) rfl
theorem wd_56 : (Cond.fieldLink "UnitVoices$Units" (27 : Nat) "UnitVoices$Units" "take" "[I") ∈ TB := tb_in (i := 118) (by decide +kernel) rfl
theorem wd_57 : (Cond.fieldLink "UnitVoices" (135 : Nat) "UnitVoices$Units" "take" "[I") ∈ TB := tb_in (i := 119) (by decide +kernel) rfl
theorem wd_58 : (Cond.fieldLink "UnitVoices$Units" (30 : Nat) "UnitVoices$Units" "follower" "[I") ∈ TB := tb_in (i := 120) (by decide +kernel) rfl
theorem wd_59 : (Cond.fieldLink "UnitVoices$Prices" (52 : Nat) "UnitVoices$Units" "follower" "[I") ∈ TB := tb_in (i := 121) (by decide +kernel) rfl
theorem wd_60 : (Cond.fieldLink "UnitVoices" (138 : Nat) "UnitVoices$Units" "follower" "[I") ∈ TB := tb_in (i := 122) (by decide +kernel) rfl
theorem wd_61 : (Cond.fieldLink "UnitVoices$Chains" (98 : Nat) "UnitVoices$Units" "follower" "[I") ∈ TB := tb_in (i := 123) (by decide +kernel) rfl
theorem wd_62 : (Cond.fieldLink "UnitVoices$Units" (33 : Nat) "UnitVoices$Units" "newest" "[I") ∈ TB := tb_in (i := 124) (by decide +kernel) rfl
theorem wd_63 : (Cond.fieldLink "UnitVoices$Units" (39 : Nat) "UnitVoices$Units" "count" "I") ∈ TB := tb_in (i := 125) (by decide +kernel) rfl
theorem wd_64 : (Cond.fieldLink "UnitVoices" (83 : Nat) "UnitVoices$Units" "count" "I") ∈ TB := tb_in (i := 126) (by decide +kernel) rfl
theorem wd_65 : (Cond.fieldLink "UnitVoices$Chooser" (83 : Nat) "UnitVoices$Units" "count" "I") ∈ TB := tb_in (i := 127) (by decide +kernel) rfl
theorem wd_85 : (Cond.arrayClass Jvm.ClassFile.FieldType.int) ∈ TB := tb_in (i := 147) (by decide +kernel) rfl
theorem wd_86 : (Cond.classLink "UnitVoices" (16 : Nat) "UnitVoices$Row") ∈ TB := tb_in (i := 148) (by decide +kernel) rfl
theorem wd_87 : (Cond.instantiable "UnitVoices$Row" (4 : Nat)) ∈ TB := tb_in (i := 149) (by decide +kernel) rfl
theorem wd_91 : (Cond.methodLink "UnitVoices$Row" (3 : Nat) ({ cls := "java/lang/Object", name := "<init>", desc := "()V" } : Jvm.MethodName)) ∈ TB := tb_in (i := 153) (by decide +kernel) rfl
theorem wd_92 : (Cond.fieldLink "UnitVoices$Row" (9 : Nat) "UnitVoices$Row" "sound" "[I") ∈ TB := tb_in (i := 154) (by decide +kernel) rfl
theorem wd_93 : (Cond.fieldLink "UnitVoices$Chooser" (93 : Nat) "UnitVoices$Row" "sound" "[I") ∈ TB := tb_in (i := 155) (by decide +kernel) rfl
theorem wd_94 : (Cond.fieldLink "UnitVoices" (174 : Nat) "UnitVoices$Row" "sound" "[I") ∈ TB := tb_in (i := 156) (by decide +kernel) rfl
theorem wd_95 : (Cond.fieldLink "UnitVoices$Row" (15 : Nat) "UnitVoices$Row" "pitch" "[I") ∈ TB := tb_in (i := 157) (by decide +kernel) rfl
theorem wd_96 : (Cond.fieldLink "UnitVoices$Prices" (23 : Nat) "UnitVoices$Row" "pitch" "[I") ∈ TB := tb_in (i := 158) (by decide +kernel) rfl
theorem wd_97 : (Cond.fieldLink "UnitVoices$Chooser" (66 : Nat) "UnitVoices$Row" "pitch" "[I") ∈ TB := tb_in (i := 159) (by decide +kernel) rfl
theorem wd_98 : (Cond.fieldLink "UnitVoices" (175 : Nat) "UnitVoices$Row" "pitch" "[I") ∈ TB := tb_in (i := 160) (by decide +kernel) rfl
theorem wd_99 : (Cond.fieldLink "UnitVoices$Row" (18 : Nat) "UnitVoices$Row" "length" "[I") ∈ TB := tb_in (i := 161) (by decide +kernel) rfl
theorem wd_100 : (Cond.fieldLink "UnitVoices$Prices" (35 : Nat) "UnitVoices$Row" "length" "[I") ∈ TB := tb_in (i := 162) (by decide +kernel) rfl
theorem wd_101 : (Cond.fieldLink "UnitVoices$Chooser" (67 : Nat) "UnitVoices$Row" "length" "[I") ∈ TB := tb_in (i := 163) (by decide +kernel) rfl
theorem wd_102 : (Cond.fieldLink "UnitVoices" (176 : Nat) "UnitVoices$Row" "length" "[I") ∈ TB := tb_in (i := 164) (by decide +kernel) rfl
theorem wd_103 : (Cond.fieldLink "UnitVoices$Row" (21 : Nat) "UnitVoices$Row" "count" "I") ∈ TB := tb_in (i := 165) (by decide +kernel) rfl
theorem wd_104 : (Cond.fieldLink "UnitVoices$Chains" (49 : Nat) "UnitVoices$Row" "count" "I") ∈ TB := tb_in (i := 166) (by decide +kernel) rfl
theorem wd_105 : (Cond.fieldLink "UnitVoices$Text" (39 : Nat) "UnitVoices$Row" "count" "I") ∈ TB := tb_in (i := 167) (by decide +kernel) rfl
theorem wd_106 : (Cond.fieldLink "UnitVoices$Chooser" (71 : Nat) "UnitVoices$Row" "count" "I") ∈ TB := tb_in (i := 168) (by decide +kernel) rfl
theorem wd_107 : (Cond.fieldLink "UnitVoices" (163 : Nat) "UnitVoices$Row" "count" "I") ∈ TB := tb_in (i := 169) (by decide +kernel) rfl
theorem wd_117 : (Cond.classLink "UnitVoices" (23 : Nat) "UnitVoices$Tree") ∈ TB := tb_in (i := 179) (by decide +kernel) rfl
theorem wd_118 : (Cond.instantiable "UnitVoices$Tree" (9 : Nat)) ∈ TB := tb_in (i := 180) (by decide +kernel) rfl
theorem wd_119 : (Cond.methodLink "UnitVoices" (25 : Nat) ({ cls := "UnitVoices$Tree", name := "<init>", desc := "()V" } : Jvm.MethodName)) ∈ TB := tb_in (i := 181) (by decide +kernel) rfl
theorem wd_122 : (Cond.methodLink "UnitVoices$Tree" (3 : Nat) ({ cls := "java/lang/Object", name := "<init>", desc := "()V" } : Jvm.MethodName)) ∈ TB := tb_in (i := 184) (by decide +kernel) rfl
theorem wd_123 : (Cond.methodLink "UnitVoices$Tree" (30 : Nat) ({ cls := "UnitVoices$Tree", name := "addLeaf", desc := "(I)I" } : Jvm.MethodName)) ∈ TB := tb_in (i := 185) (by decide +kernel) rfl
theorem wd_127 : (Cond.methodLink "UnitVoices$Tree" (44 : Nat) ({ cls := "UnitVoices$Tree", name := "addNode", desc := "(III)I" } : Jvm.MethodName)) ∈ TB := tb_in (i := 189) (by decide +kernel) rfl
theorem wd_131 : (Cond.fieldLink "UnitVoices$Tree" (9 : Nat) "UnitVoices$Tree" "letter" "[I") ∈ TB := tb_in (i := 193) (by decide +kernel) rfl
theorem wd_132 : (Cond.fieldLink "UnitVoices$Tree" (15 : Nat) "UnitVoices$Tree" "figure" "[I") ∈ TB := tb_in (i := 194) (by decide +kernel) rfl
theorem wd_133 : (Cond.fieldLink "UnitVoices$Tree" (18 : Nat) "UnitVoices$Tree" "above" "[I") ∈ TB := tb_in (i := 195) (by decide +kernel) rfl
theorem wd_134 : (Cond.fieldLink "UnitVoices$Tree" (21 : Nat) "UnitVoices$Tree" "yes" "[I") ∈ TB := tb_in (i := 196) (by decide +kernel) rfl
theorem wd_135 : (Cond.fieldLink "UnitVoices$Tree" (24 : Nat) "UnitVoices$Tree" "no" "[I") ∈ TB := tb_in (i := 197) (by decide +kernel) rfl
theorem wd_136 : (Cond.fieldLink "UnitVoices$Tree" (27 : Nat) "UnitVoices$Tree" "number" "[I") ∈ TB := tb_in (i := 198) (by decide +kernel) rfl
theorem wd_137 : (Cond.fieldLink "UnitVoices$Tree" (34 : Nat) "UnitVoices$Tree" "nodes" "I") ∈ TB := tb_in (i := 199) (by decide +kernel) rfl
theorem wd_138 : (Cond.fieldLink "UnitVoices$Tree" (38 : Nat) "UnitVoices$Tree" "leaves" "I") ∈ TB := tb_in (i := 200) (by decide +kernel) rfl
theorem wd_139 : (Cond.fieldLink "UnitVoices" (168 : Nat) "UnitVoices$Tree" "leaves" "I") ∈ TB := tb_in (i := 201) (by decide +kernel) rfl
theorem wd_140 : (Cond.fieldLink "UnitVoices$Tree" (41 : Nat) "UnitVoices$Tree" "height" "I") ∈ TB := tb_in (i := 202) (by decide +kernel) rfl
theorem wd_141 : (Cond.fieldLink "UnitVoices" (184 : Nat) "UnitVoices$Tree" "height" "I") ∈ TB := tb_in (i := 203) (by decide +kernel) rfl
theorem wd_161 : (Cond.classLink "UnitVoices" (30 : Nat) "UnitVoices$Text") ∈ TB := tb_in (i := 223) (by decide +kernel) rfl
theorem wd_162 : (Cond.instantiable "UnitVoices$Text" (7 : Nat)) ∈ TB := tb_in (i := 224) (by decide +kernel) rfl
theorem wd_166 : (Cond.methodLink "UnitVoices$Text" (3 : Nat) ({ cls := "java/lang/Object", name := "<init>", desc := "()V" } : Jvm.MethodName)) ∈ TB := tb_in (i := 228) (by decide +kernel) rfl
theorem wd_167 : (Cond.classLink "UnitVoices$Text" (15 : Nat) "UnitVoices$Row") ∈ TB := tb_in (i := 229) (by decide +kernel) rfl
theorem wd_169 : (Cond.classLink "UnitVoices$Text" (22 : Nat) "UnitVoices$Tree") ∈ TB := tb_in (i := 231) (by decide +kernel) rfl
theorem wd_170 : (Cond.methodLink "UnitVoices$Text" (24 : Nat) ({ cls := "UnitVoices$Tree", name := "<init>", desc := "()V" } : Jvm.MethodName)) ∈ TB := tb_in (i := 232) (by decide +kernel) rfl
theorem wd_171 : (Cond.fieldLink "UnitVoices$Text" (9 : Nat) "UnitVoices$Text" "bytes" "[I") ∈ TB := tb_in (i := 233) (by decide +kernel) rfl
theorem wd_172 : (Cond.fieldLink "UnitVoices$Text" (18 : Nat) "UnitVoices$Text" "row" "LUnitVoices$Row;") ∈ TB := tb_in (i := 234) (by decide +kernel) rfl
theorem wd_173 : (Cond.fieldLink "UnitVoices" (158 : Nat) "UnitVoices$Text" "row" "LUnitVoices$Row;") ∈ TB := tb_in (i := 235) (by decide +kernel) rfl
theorem wd_174 : (Cond.fieldLink "UnitVoices$Text" (25 : Nat) "UnitVoices$Text" "tree" "LUnitVoices$Tree;") ∈ TB := tb_in (i := 236) (by decide +kernel) rfl
theorem wd_175 : (Cond.fieldLink "UnitVoices" (164 : Nat) "UnitVoices$Text" "tree" "LUnitVoices$Tree;") ∈ TB := tb_in (i := 237) (by decide +kernel) rfl
theorem wd_176 : (Cond.fieldLink "UnitVoices$Text" (29 : Nat) "UnitVoices$Text" "count" "I") ∈ TB := tb_in (i := 238) (by decide +kernel) rfl
theorem wd_177 : (Cond.fieldLink "UnitVoices" (147 : Nat) "UnitVoices$Text" "count" "I") ∈ TB := tb_in (i := 239) (by decide +kernel) rfl
theorem wd_178 : (Cond.fieldLink "UnitVoices$Text" (47 : Nat) "UnitVoices$Text" "tellsRow" "Z") ∈ TB := tb_in (i := 240) (by decide +kernel) rfl
theorem wd_179 : (Cond.fieldLink "UnitVoices" (154 : Nat) "UnitVoices$Text" "tellsRow" "Z") ∈ TB := tb_in (i := 241) (by decide +kernel) rfl
theorem wd_180 : (Cond.fieldLink "UnitVoices$Text" (33 : Nat) "UnitVoices$Text" "place" "I") ∈ TB := tb_in (i := 242) (by decide +kernel) rfl
theorem wd_181 : (Cond.fieldLink "UnitVoices$Text" (36 : Nat) "UnitVoices$Text" "fault" "I") ∈ TB := tb_in (i := 243) (by decide +kernel) rfl
theorem wd_197 : (Cond.classLink "UnitVoices" (41 : Nat) "UnitVoices$Chooser") ∈ TB := tb_in (i := 259) (by decide +kernel) rfl
theorem wd_198 : (Cond.instantiable "UnitVoices$Chooser" (6 : Nat)) ∈ TB := tb_in (i := 260) (by decide +kernel) rfl
theorem wd_199 : (Cond.methodLink "UnitVoices" (43 : Nat) ({ cls := "UnitVoices$Chooser", name := "<init>", desc := "(LUnitVoices$Units;LUnitVoices$Row;LUnitVoices$Tree;[I)V" } : Jvm.MethodName)) ∈ TB := tb_in (i := 261) (by decide +kernel) rfl
theorem wd_202 : (Cond.methodLink "UnitVoices$Chooser" (3 : Nat) ({ cls := "java/lang/Object", name := "<init>", desc := "()V" } : Jvm.MethodName)) ∈ TB := tb_in (i := 264) (by decide +kernel) rfl
theorem wd_203 : (Cond.classLink "UnitVoices$Chooser" (15 : Nat) "UnitVoices$Choice") ∈ TB := tb_in (i := 265) (by decide +kernel) rfl
theorem wd_205 : (Cond.instantiable "UnitVoices$Choice" (4 : Nat)) ∈ TB := tb_in (i := 267) (by decide +kernel) rfl
theorem wd_209 : (Cond.methodLink "UnitVoices$Choice" (3 : Nat) ({ cls := "java/lang/Object", name := "<init>", desc := "()V" } : Jvm.MethodName)) ∈ TB := tb_in (i := 271) (by decide +kernel) rfl
theorem wd_210 : (Cond.fieldLink "UnitVoices$Choice" (9 : Nat) "UnitVoices$Choice" "unit" "[I") ∈ TB := tb_in (i := 272) (by decide +kernel) rfl
theorem wd_211 : (Cond.fieldLink "UnitVoices$Chains" (69 : Nat) "UnitVoices$Choice" "unit" "[I") ∈ TB := tb_in (i := 273) (by decide +kernel) rfl
theorem wd_212 : (Cond.fieldLink "UnitVoices" (219 : Nat) "UnitVoices$Choice" "unit" "[I") ∈ TB := tb_in (i := 274) (by decide +kernel) rfl
theorem wd_213 : (Cond.fieldLink "UnitVoices$Choice" (15 : Nat) "UnitVoices$Choice" "count" "I") ∈ TB := tb_in (i := 275) (by decide +kernel) rfl
theorem wd_214 : (Cond.fieldLink "UnitVoices$Chains" (55 : Nat) "UnitVoices$Choice" "count" "I") ∈ TB := tb_in (i := 276) (by decide +kernel) rfl
theorem wd_215 : (Cond.fieldLink "UnitVoices$Chooser" (106 : Nat) "UnitVoices$Choice" "count" "I") ∈ TB := tb_in (i := 277) (by decide +kernel) rfl
theorem wd_216 : (Cond.fieldLink "UnitVoices" (218 : Nat) "UnitVoices$Choice" "count" "I") ∈ TB := tb_in (i := 278) (by decide +kernel) rfl
theorem wd_217 : (Cond.fieldLink "UnitVoices$Choice" (19 : Nat) "UnitVoices$Choice" "steps" "I") ∈ TB := tb_in (i := 279) (by decide +kernel) rfl
theorem wd_218 : (Cond.fieldLink "UnitVoices$Chooser" (99 : Nat) "UnitVoices$Choice" "steps" "I") ∈ TB := tb_in (i := 280) (by decide +kernel) rfl
theorem wd_219 : (Cond.fieldLink "UnitVoices" (222 : Nat) "UnitVoices$Choice" "steps" "I") ∈ TB := tb_in (i := 281) (by decide +kernel) rfl
theorem wd_220 : (Cond.fieldLink "UnitVoices$Choice" (22 : Nat) "UnitVoices$Choice" "tried" "I") ∈ TB := tb_in (i := 282) (by decide +kernel) rfl
theorem wd_221 : (Cond.fieldLink "UnitVoices$Chooser" (96 : Nat) "UnitVoices$Choice" "tried" "I") ∈ TB := tb_in (i := 283) (by decide +kernel) rfl
theorem wd_222 : (Cond.fieldLink "UnitVoices" (225 : Nat) "UnitVoices$Choice" "tried" "I") ∈ TB := tb_in (i := 284) (by decide +kernel) rfl
theorem wd_232 : (Cond.fieldLink "UnitVoices$Chooser" (21 : Nat) "UnitVoices$Chooser" "units" "LUnitVoices$Units;") ∈ TB := tb_in (i := 294) (by decide +kernel) rfl
theorem wd_233 : (Cond.fieldLink "UnitVoices$Chooser" (25 : Nat) "UnitVoices$Chooser" "row" "LUnitVoices$Row;") ∈ TB := tb_in (i := 295) (by decide +kernel) rfl
theorem wd_234 : (Cond.fieldLink "UnitVoices$Chooser" (29 : Nat) "UnitVoices$Chooser" "tree" "LUnitVoices$Tree;") ∈ TB := tb_in (i := 296) (by decide +kernel) rfl
theorem wd_235 : (Cond.fieldLink "UnitVoices$Chooser" (33 : Nat) "UnitVoices$Chooser" "others" "[I") ∈ TB := tb_in (i := 297) (by decide +kernel) rfl
theorem wd_236 : (Cond.fieldLink "UnitVoices$Chooser" (9 : Nat) "UnitVoices$Chooser" "leafOf" "[I") ∈ TB := tb_in (i := 298) (by decide +kernel) rfl
theorem wd_237 : (Cond.fieldLink "UnitVoices$Chooser" (17 : Nat) "UnitVoices$Chooser" "choices" "[LUnitVoices$Choice;") ∈ TB := tb_in (i := 299) (by decide +kernel) rfl
theorem wd_238 : (Cond.fieldLink "UnitVoices$Chains" (35 : Nat) "UnitVoices$Chooser" "choices" "[LUnitVoices$Choice;") ∈ TB := tb_in (i := 300) (by decide +kernel) rfl
theorem wd_252 : (Cond.classLink "UnitVoices" (50 : Nat) "UnitVoices$Prices") ∈ TB := tb_in (i := 314) (by decide +kernel) rfl
theorem wd_253 : (Cond.instantiable "UnitVoices$Prices" (2 : Nat)) ∈ TB := tb_in (i := 315) (by decide +kernel) rfl
theorem wd_254 : (Cond.methodLink "UnitVoices" (52 : Nat) ({ cls := "UnitVoices$Prices", name := "<init>", desc := "(LUnitVoices$Units;LUnitVoices$Row;)V" } : Jvm.MethodName)) ∈ TB := tb_in (i := 316) (by decide +kernel) rfl
theorem wd_257 : (Cond.methodLink "UnitVoices$Prices" (1 : Nat) ({ cls := "java/lang/Object", name := "<init>", desc := "()V" } : Jvm.MethodName)) ∈ TB := tb_in (i := 319) (by decide +kernel) rfl
theorem wd_258 : (Cond.fieldLink "UnitVoices$Prices" (7 : Nat) "UnitVoices$Prices" "units" "LUnitVoices$Units;") ∈ TB := tb_in (i := 320) (by decide +kernel) rfl
theorem wd_259 : (Cond.fieldLink "UnitVoices$Prices" (13 : Nat) "UnitVoices$Prices" "row" "LUnitVoices$Row;") ∈ TB := tb_in (i := 321) (by decide +kernel) rfl
theorem wd_265 : (Cond.classLink "UnitVoices" (59 : Nat) "UnitVoices$Chains") ∈ TB := tb_in (i := 327) (by decide +kernel) rfl
theorem wd_266 : (Cond.instantiable "UnitVoices$Chains" (7 : Nat)) ∈ TB := tb_in (i := 328) (by decide +kernel) rfl
theorem wd_267 : (Cond.methodLink "UnitVoices" (61 : Nat) ({ cls := "UnitVoices$Chains", name := "<init>", desc := "(LUnitVoices$Row;LUnitVoices$Chooser;LUnitVoices$Prices;)V" } : Jvm.MethodName)) ∈ TB := tb_in (i := 329) (by decide +kernel) rfl
theorem wd_270 : (Cond.methodLink "UnitVoices$Chains" (3 : Nat) ({ cls := "java/lang/Object", name := "<init>", desc := "()V" } : Jvm.MethodName)) ∈ TB := tb_in (i := 332) (by decide +kernel) rfl
theorem wd_271 : (Cond.classLink "UnitVoices$Chains" (9 : Nat) "UnitVoices$Tally") ∈ TB := tb_in (i := 333) (by decide +kernel) rfl
theorem wd_273 : (Cond.instantiable "UnitVoices$Tally" (5 : Nat)) ∈ TB := tb_in (i := 335) (by decide +kernel) rfl
theorem wd_274 : (Cond.methodLink "UnitVoices$Chains" (17 : Nat) ({ cls := "UnitVoices$Tally", name := "<init>", desc := "(I)V" } : Jvm.MethodName)) ∈ TB := tb_in (i := 336) (by decide +kernel) rfl
theorem wd_277 : (Cond.methodLink "UnitVoices$Tally" (3 : Nat) ({ cls := "java/lang/Object", name := "<init>", desc := "()V" } : Jvm.MethodName)) ∈ TB := tb_in (i := 339) (by decide +kernel) rfl
theorem wd_278 : (Cond.methodLink "UnitVoices$Tally" (9 : Nat) ({ cls := "java/lang/Math", name := "max", desc := "(II)I" } : Jvm.MethodName)) ∈ TB := tb_in (i := 340) (by decide +kernel) rfl
theorem wd_281 : (Cond.fieldLink "UnitVoices$Tally" (15 : Nat) "UnitVoices$Tally" "least" "[I") ∈ TB := tb_in (i := 343) (by decide +kernel) rfl
theorem wd_282 : (Cond.fieldLink "UnitVoices$Chains" (85 : Nat) "UnitVoices$Tally" "least" "[I") ∈ TB := tb_in (i := 344) (by decide +kernel) rfl
theorem wd_283 : (Cond.fieldLink "UnitVoices$Tally" (21 : Nat) "UnitVoices$Tally" "second" "[I") ∈ TB := tb_in (i := 345) (by decide +kernel) rfl
theorem wd_284 : (Cond.fieldLink "UnitVoices$Chains" (88 : Nat) "UnitVoices$Tally" "second" "[I") ∈ TB := tb_in (i := 346) (by decide +kernel) rfl
theorem wd_285 : (Cond.fieldLink "UnitVoices$Tally" (24 : Nat) "UnitVoices$Tally" "most" "[I") ∈ TB := tb_in (i := 347) (by decide +kernel) rfl
theorem wd_286 : (Cond.fieldLink "UnitVoices$Chains" (92 : Nat) "UnitVoices$Tally" "most" "[I") ∈ TB := tb_in (i := 348) (by decide +kernel) rfl
theorem wd_287 : (Cond.fieldLink "UnitVoices$Tally" (27 : Nat) "UnitVoices$Tally" "ways" "[I") ∈ TB := tb_in (i := 349) (by decide +kernel) rfl
theorem wd_288 : (Cond.fieldLink "UnitVoices$Chains" (95 : Nat) "UnitVoices$Tally" "ways" "[I") ∈ TB := tb_in (i := 350) (by decide +kernel) rfl
theorem wd_289 : (Cond.fieldLink "UnitVoices$Tally" (30 : Nat) "UnitVoices$Tally" "onward" "[I") ∈ TB := tb_in (i := 351) (by decide +kernel) rfl
theorem wd_290 : (Cond.fieldLink "UnitVoices$Chains" (82 : Nat) "UnitVoices$Tally" "onward" "[I") ∈ TB := tb_in (i := 352) (by decide +kernel) rfl
theorem wd_302 : (Cond.methodLink "UnitVoices$Chains" (46 : Nat) ({ cls := "UnitVoices$Tally", name := "end", desc := "(I)V" } : Jvm.MethodName)) ∈ TB := tb_in (i := 364) (by decide +kernel) rfl
theorem wd_306 : (Cond.methodLink "UnitVoices$Tally" (34 : Nat) ({ cls := "UnitVoices$Tally", name := "begin", desc := "(I)V" } : Jvm.MethodName)) ∈ TB := tb_in (i := 368) (by decide +kernel) rfl
theorem wd_310 : (Cond.constant "UnitVoices$Tally" (33 : Nat) (1000000 : Int32)) ∈ TB := tb_in (i := 372) (by decide +kernel) rfl
theorem wd_311 : (Cond.fieldLink "UnitVoices$Chains" (31 : Nat) "UnitVoices$Chains" "row" "LUnitVoices$Row;") ∈ TB := tb_in (i := 373) (by decide +kernel) rfl
theorem wd_312 : (Cond.fieldLink "UnitVoices$Chains" (41 : Nat) "UnitVoices$Chains" "choices" "[LUnitVoices$Choice;") ∈ TB := tb_in (i := 374) (by decide +kernel) rfl
theorem wd_313 : (Cond.fieldLink "UnitVoices$Chains" (42 : Nat) "UnitVoices$Chains" "prices" "LUnitVoices$Prices;") ∈ TB := tb_in (i := 375) (by decide +kernel) rfl
theorem wd_314 : (Cond.fieldLink "UnitVoices$Chains" (11 : Nat) "UnitVoices$Chains" "tallies" "[LUnitVoices$Tally;") ∈ TB := tb_in (i := 376) (by decide +kernel) rfl
theorem wd_315 : (Cond.fieldLink "UnitVoices$Chains" (20 : Nat) "UnitVoices$Chains" "whole" "LUnitVoices$Tally;") ∈ TB := tb_in (i := 377) (by decide +kernel) rfl
theorem wd_316 : (Cond.fieldLink "UnitVoices$Chains" (24 : Nat) "UnitVoices$Chains" "ending" "LUnitVoices$Tally;") ∈ TB := tb_in (i := 378) (by decide +kernel) rfl
theorem wd_317 : (Cond.fieldLink "UnitVoices$Chains" (27 : Nat) "UnitVoices$Chains" "path" "[I") ∈ TB := tb_in (i := 379) (by decide +kernel) rfl
theorem wd_318 : (Cond.fieldLink "UnitVoices" (242 : Nat) "UnitVoices$Chains" "path" "[I") ∈ TB := tb_in (i := 380) (by decide +kernel) rfl
theorem wd_334 : (Cond.fieldLink "UnitVoices" (10 : Nat) "UnitVoices" "units" "LUnitVoices$Units;") ∈ TB := tb_in (i := 396) (by decide +kernel) rfl
theorem wd_335 : (Cond.fieldLink "UnitVoices" (19 : Nat) "UnitVoices" "row" "LUnitVoices$Row;") ∈ TB := tb_in (i := 397) (by decide +kernel) rfl
theorem wd_336 : (Cond.fieldLink "UnitVoices" (26 : Nat) "UnitVoices" "tree" "LUnitVoices$Tree;") ∈ TB := tb_in (i := 398) (by decide +kernel) rfl
theorem wd_337 : (Cond.fieldLink "UnitVoices" (33 : Nat) "UnitVoices" "text" "LUnitVoices$Text;") ∈ TB := tb_in (i := 399) (by decide +kernel) rfl
theorem wd_338 : (Cond.fieldLink "UnitVoices" (37 : Nat) "UnitVoices" "others" "[I") ∈ TB := tb_in (i := 400) (by decide +kernel) rfl
theorem wd_339 : (Cond.fieldLink "UnitVoices" (46 : Nat) "UnitVoices" "chooser" "LUnitVoices$Chooser;") ∈ TB := tb_in (i := 401) (by decide +kernel) rfl
theorem wd_340 : (Cond.fieldLink "UnitVoices" (55 : Nat) "UnitVoices" "prices" "LUnitVoices$Prices;") ∈ TB := tb_in (i := 402) (by decide +kernel) rfl
theorem wd_341 : (Cond.fieldLink "UnitVoices" (64 : Nat) "UnitVoices" "chains" "LUnitVoices$Chains;") ∈ TB := tb_in (i := 403) (by decide +kernel) rfl
theorem wd_342 : (Cond.fieldLink "UnitVoices" (144 : Nat) "UnitVoices" "kind" "I") ∈ TB := tb_in (i := 404) (by decide +kernel) rfl
theorem wd_343 : (Cond.fieldLink "UnitVoices" (202 : Nat) "UnitVoices" "bads" "I") ∈ TB := tb_in (i := 405) (by decide +kernel) rfl
theorem wd_344 : (Cond.fieldLink "UnitVoices" (274 : Nat) "UnitVoices" "noes" "I") ∈ TB := tb_in (i := 406) (by decide +kernel) rfl
theorem wd_345 : (Cond.fieldLink "UnitVoices" (277 : Nat) "UnitVoices" "fulls" "I") ∈ TB := tb_in (i := 407) (by decide +kernel) rfl
theorem wd_371 : (Cond.methodLink "UnitVoicesLaw" (13 : Nat) ({ cls := "UnitVoices", name := "unit", desc := "(IIIIII)I" } : Jvm.MethodName)) ∈ TB := tb_in (i := 433) (by decide +kernel) rfl
theorem wd_375 : (Cond.methodLink "UnitVoices" (68 : Nat) ({ cls := "UnitVoices", name := "isSound", desc := "(I)Z" } : Jvm.MethodName)) ∈ TB := tb_in (i := 437) (by decide +kernel) rfl
theorem wd_378 : (Cond.methodLink "UnitVoices" (72 : Nat) ({ cls := "UnitVoices", name := "within", desc := "(III)Z" } : Jvm.MethodName)) ∈ TB := tb_in (i := 440) (by decide +kernel) rfl
theorem wd_381 : (Cond.methodLink "UnitVoices" (76 : Nat) ({ cls := "UnitVoices", name := "isTake", desc := "(I)Z" } : Jvm.MethodName)) ∈ TB := tb_in (i := 443) (by decide +kernel) rfl
theorem wd_384 : (Cond.methodLink "UnitVoices" (79 : Nat) ({ cls := "UnitVoices", name := "bad", desc := "()I" } : Jvm.MethodName)) ∈ TB := tb_in (i := 446) (by decide +kernel) rfl
theorem wd_388 : (Cond.methodLink "UnitVoices" (87 : Nat) ({ cls := "UnitVoices", name := "full", desc := "()I" } : Jvm.MethodName)) ∈ TB := tb_in (i := 450) (by decide +kernel) rfl
theorem wd_392 : (Cond.methodLink "UnitVoices" (90 : Nat) ({ cls := "UnitVoices$Units", name := "add", desc := "(IIIIII)I" } : Jvm.MethodName)) ∈ TB := tb_in (i := 454) (by decide +kernel) rfl
theorem wd_397 : (Cond.methodLink "UnitVoicesLaw" (18 : Nat) ({ cls := "UnitVoices", name := "records", desc := "(III)I" } : Jvm.MethodName)) ∈ TB := tb_in (i := 459) (by decide +kernel) rfl
theorem wd_401 : (Cond.constant "UnitVoices" (94 : Nat) (999999 : Int32)) ∈ TB := tb_in (i := 463) (by decide +kernel) rfl
theorem wd_402 : (Cond.constantLong "UnitVoices" (95 : Nat) (1103515245 : Int64)) ∈ TB := tb_in (i := 464) (by decide +kernel) rfl
theorem wd_403 : (Cond.constantLong "UnitVoices" (97 : Nat) (12345 : Int64)) ∈ TB := tb_in (i := 465) (by decide +kernel) rfl
theorem wd_404 : (Cond.constantLong "UnitVoices" (99 : Nat) (2147483648 : Int64)) ∈ TB := tb_in (i := 466) (by decide +kernel) rfl
theorem wd_405 : (Cond.constantLong "UnitVoices" (101 : Nat) (65536 : Int64)) ∈ TB := tb_in (i := 467) (by decide +kernel) rfl
theorem wd_406 : (Cond.constantLong "UnitVoices" (103 : Nat) (6 : Int64)) ∈ TB := tb_in (i := 468) (by decide +kernel) rfl
theorem wd_407 : (Cond.constantLong "UnitVoices" (105 : Nat) (4096 : Int64)) ∈ TB := tb_in (i := 469) (by decide +kernel) rfl
theorem wd_408 : (Cond.constantLong "UnitVoices" (107 : Nat) (10 : Int64)) ∈ TB := tb_in (i := 470) (by decide +kernel) rfl
theorem wd_409 : (Cond.constantLong "UnitVoices" (109 : Nat) (1024 : Int64)) ∈ TB := tb_in (i := 471) (by decide +kernel) rfl
theorem wd_410 : (Cond.constantLong "UnitVoices" (111 : Nat) (9 : Int64)) ∈ TB := tb_in (i := 472) (by decide +kernel) rfl
theorem wd_411 : (Cond.methodLink "UnitVoices" (113 : Nat) ({ cls := "UnitVoices$Units", name := "putRight", desc := "(II)V" } : Jvm.MethodName)) ∈ TB := tb_in (i := 473) (by decide +kernel) rfl
theorem wd_415 : (Cond.methodLink "UnitVoicesLaw" (23 : Nat) ({ cls := "UnitVoices", name := "of", desc := "(II)I" } : Jvm.MethodName)) ∈ TB := tb_in (i := 477) (by decide +kernel) rfl
theorem wd_419 : (Cond.methodLink "UnitVoices" (117 : Nat) ({ cls := "UnitVoices", name := "isUnit", desc := "(I)Z" } : Jvm.MethodName)) ∈ TB := tb_in (i := 481) (by decide +kernel) rfl
theorem wd_423 : (Cond.methodLink "UnitVoicesLaw" (28 : Nat) ({ cls := "UnitVoices", name := "empties", desc := "()I" } : Jvm.MethodName)) ∈ TB := tb_in (i := 485) (by decide +kernel) rfl
theorem wd_427 : (Cond.methodLink "UnitVoices" (141 : Nat) ({ cls := "UnitVoices$Units", name := "removeAll", desc := "()V" } : Jvm.MethodName)) ∈ TB := tb_in (i := 489) (by decide +kernel) rfl
theorem wd_428 : (Cond.methodLink "UnitVoicesLaw" (33 : Nat) ({ cls := "UnitVoices", name := "other", desc := "(II)I" } : Jvm.MethodName)) ∈ TB := tb_in (i := 490) (by decide +kernel) rfl
theorem wd_432 : (Cond.methodLink "UnitVoicesLaw" (37 : Nat) ({ cls := "UnitVoices", name := "fitter", desc := "(I)I" } : Jvm.MethodName)) ∈ TB := tb_in (i := 494) (by decide +kernel) rfl
theorem wd_436 : (Cond.methodLink "UnitVoicesLaw" (42 : Nat) ({ cls := "UnitVoices", name := "type", desc := "(I)I" } : Jvm.MethodName)) ∈ TB := tb_in (i := 498) (by decide +kernel) rfl
theorem wd_440 : (Cond.methodLink "UnitVoices" (148 : Nat) ({ cls := "UnitVoices$Text", name := "add", desc := "(I)V" } : Jvm.MethodName)) ∈ TB := tb_in (i := 502) (by decide +kernel) rfl
theorem wd_444 : (Cond.methodLink "UnitVoicesLaw" (46 : Nat) ({ cls := "UnitVoices", name := "clear", desc := "()I" } : Jvm.MethodName)) ∈ TB := tb_in (i := 506) (by decide +kernel) rfl
theorem wd_448 : (Cond.methodLink "UnitVoicesLaw" (50 : Nat) ({ cls := "UnitVoices", name := "reads", desc := "()I" } : Jvm.MethodName)) ∈ TB := tb_in (i := 510) (by decide +kernel) rfl
theorem wd_452 : (Cond.methodLink "UnitVoices" (151 : Nat) ({ cls := "UnitVoices$Text", name := "read", desc := "()I" } : Jvm.MethodName)) ∈ TB := tb_in (i := 514) (by decide +kernel) rfl
theorem wd_456 : (Cond.methodLink "UnitVoices$Text" (40 : Nat) ({ cls := "UnitVoices$Tree", name := "removeAll", desc := "()V" } : Jvm.MethodName)) ∈ TB := tb_in (i := 518) (by decide +kernel) rfl
theorem wd_460 : (Cond.methodLink "UnitVoices$Text" (43 : Nat) ({ cls := "UnitVoices$Text", name := "look", desc := "()I" } : Jvm.MethodName)) ∈ TB := tb_in (i := 522) (by decide +kernel) rfl
theorem wd_464 : (Cond.methodLink "UnitVoices$Text" (51 : Nat) ({ cls := "UnitVoices$Text", name := "readRow", desc := "()V" } : Jvm.MethodName)) ∈ TB := tb_in (i := 526) (by decide +kernel) rfl
theorem wd_469 : (Cond.methodLink "UnitVoices$Text" (64 : Nat) ({ cls := "UnitVoices$Text", name := "readWord", desc := "(Ljava/lang/String;)Z" } : Jvm.MethodName)) ∈ TB := tb_in (i := 531) (by decide +kernel) rfl
theorem wd_473 : (Cond.methodLink "UnitVoices$Text" (109 : Nat) ({ cls := "java/lang/String", name := "length", desc := "()I" } : Jvm.MethodName)) ∈ TB := tb_in (i := 535) (by decide +kernel) rfl
theorem wd_477 : (Cond.methodLink "java/lang/String" (335 : Nat) ({ cls := "java/lang/String", name := "coder", desc := "()B" } : Jvm.MethodName)) ∈ TB := tb_in (i := 539) (by decide +kernel) rfl
theorem wd_481 : (Cond.fieldLink "java/lang/String" (38 : Nat) "java/lang/String" "COMPACT_STRINGS" "Z") ∈ TB := tb_in (i := 543) (by decide +kernel) rfl
theorem wd_483 : (Cond.methodLink "UnitVoices$Text" (57 : Nat) ({ cls := "UnitVoices$Text", name := "fail", desc := "()I" } : Jvm.MethodName)) ∈ TB := tb_in (i := 545) (by decide +kernel) rfl
theorem wd_487 : (Cond.methodLink "UnitVoices$Text" (114 : Nat) ({ cls := "java/lang/String", name := "charAt", desc := "(I)C" } : Jvm.MethodName)) ∈ TB := tb_in (i := 549) (by decide +kernel) rfl
theorem wd_491 : (Cond.methodLink "java/lang/String" (492 : Nat) ({ cls := "java/lang/String", name := "isLatin1", desc := "()Z" } : Jvm.MethodName)) ∈ TB := tb_in (i := 553) (by decide +kernel) rfl
theorem wd_495 : (Cond.methodLink "java/lang/String" (495 : Nat) ({ cls := "java/lang/StringLatin1", name := "charAt", desc := "([BI)C" } : Jvm.MethodName)) ∈ TB := tb_in (i := 557) (by decide +kernel) rfl
theorem wd_498 : (Cond.methodLink "java/lang/StringLatin1" (9 : Nat) ({ cls := "java/lang/String", name := "checkIndex", desc := "(II)V" } : Jvm.MethodName)) ∈ TB := tb_in (i := 560) (by decide +kernel) rfl
theorem wd_501 : (Cond.fieldLink "java/lang/String" (1053 : Nat) "jdk/internal/util/Preconditions" "SIOOBE_FORMATTER" "Ljava/util/function/BiFunction;") ∈ TB := tb_in (i := 563) (by decide +kernel) rfl
theorem wd_503 : (Cond.methodLink "java/lang/String" (1059 : Nat) ({ cls := "jdk/internal/util/Preconditions", name := "checkIndex", desc := "(IILjava/util/function/BiFunction;)I" } : Jvm.MethodName)) ∈ TB := tb_in (i := 565) (by decide +kernel) rfl
theorem wd_506 : (Cond.methodLink "java/lang/String" (498 : Nat) ({ cls := "java/lang/StringUTF16", name := "charAt", desc := "([BI)C" } : Jvm.MethodName)) ∈ TB := tb_in (i := 568) (by decide +kernel) rfl
theorem wd_509 : (Cond.methodLink "java/lang/StringUTF16" (67 : Nat) ({ cls := "java/lang/StringUTF16", name := "checkIndex", desc := "(I[B)V" } : Jvm.MethodName)) ∈ TB := tb_in (i := 571) (by decide +kernel) rfl
theorem wd_512 : (Cond.methodLink "java/lang/StringUTF16" (48 : Nat) ({ cls := "java/lang/StringUTF16", name := "length", desc := "([B)I" } : Jvm.MethodName)) ∈ TB := tb_in (i := 574) (by decide +kernel) rfl
theorem wd_515 : (Cond.methodLink "java/lang/StringUTF16" (414 : Nat) ({ cls := "java/lang/String", name := "checkIndex", desc := "(II)V" } : Jvm.MethodName)) ∈ TB := tb_in (i := 577) (by decide +kernel) rfl
theorem wd_516 : (Cond.methodLink "java/lang/StringUTF16" (71 : Nat) ({ cls := "java/lang/StringUTF16", name := "getChar", desc := "([BI)C" } : Jvm.MethodName)) ∈ TB := tb_in (i := 578) (by decide +kernel) rfl
theorem wd_519 : (Cond.fieldLink "java/lang/StringUTF16" (44 : Nat) "java/lang/StringUTF16" "$assertionsDisabled" "Z") ∈ TB := tb_in (i := 581) (by decide +kernel) rfl
theorem wd_521 : (Cond.fieldLink "java/lang/StringUTF16" (59 : Nat) "java/lang/StringUTF16" "HI_BYTE_SHIFT" "I") ∈ TB := tb_in (i := 583) (by decide +kernel) rfl
theorem wd_523 : (Cond.fieldLink "java/lang/StringUTF16" (63 : Nat) "java/lang/StringUTF16" "LO_BYTE_SHIFT" "I") ∈ TB := tb_in (i := 585) (by decide +kernel) rfl
theorem wd_526 : (Cond.methodLink "UnitVoices$Text" (72 : Nat) ({ cls := "UnitVoices$Text", name := "readTarget", desc := "(I)V" } : Jvm.MethodName)) ∈ TB := tb_in (i := 588) (by decide +kernel) rfl
theorem wd_530 : (Cond.methodLink "UnitVoices$Text" (76 : Nat) ({ cls := "UnitVoices$Text", name := "readFigure", desc := "(II)I" } : Jvm.MethodName)) ∈ TB := tb_in (i := 592) (by decide +kernel) rfl
theorem wd_534 : (Cond.methodLink "UnitVoices$Text" (80 : Nat) ({ cls := "UnitVoices$Row", name := "add", desc := "(III)V" } : Jvm.MethodName)) ∈ TB := tb_in (i := 596) (by decide +kernel) rfl
theorem wd_538 : (Cond.methodLink "UnitVoices$Text" (54 : Nat) ({ cls := "UnitVoices$Text", name := "readTree", desc := "()V" } : Jvm.MethodName)) ∈ TB := tb_in (i := 600) (by decide +kernel) rfl
theorem wd_543 : (Cond.methodLink "UnitVoices$Text" (85 : Nat) ({ cls := "UnitVoices$Text", name := "readNode", desc := "(II)I" } : Jvm.MethodName)) ∈ TB := tb_in (i := 605) (by decide +kernel) rfl
theorem wd_547 : (Cond.methodLink "UnitVoices$Text" (88 : Nat) ({ cls := "UnitVoices$Tree", name := "addLeaf", desc := "(I)I" } : Jvm.MethodName)) ∈ TB := tb_in (i := 609) (by decide +kernel) rfl
theorem wd_548 : (Cond.methodLink "UnitVoices$Text" (92 : Nat) ({ cls := "UnitVoices$Text", name := "isQuestion", desc := "(I)Z" } : Jvm.MethodName)) ∈ TB := tb_in (i := 610) (by decide +kernel) rfl
theorem wd_551 : (Cond.methodLink "UnitVoices$Text" (96 : Nat) ({ cls := "UnitVoices$Tree", name := "addQuestion", desc := "(IIII)I" } : Jvm.MethodName)) ∈ TB := tb_in (i := 613) (by decide +kernel) rfl
theorem wd_555 : (Cond.methodLink "UnitVoices$Tree" (48 : Nat) ({ cls := "java/lang/Math", name := "max", desc := "(II)I" } : Jvm.MethodName)) ∈ TB := tb_in (i := 617) (by decide +kernel) rfl
theorem wd_556 : (Cond.methodLink "UnitVoices$Text" (100 : Nat) ({ cls := "UnitVoices$Text", name := "readBranches", desc := "(II)I" } : Jvm.MethodName)) ∈ TB := tb_in (i := 618) (by decide +kernel) rfl
theorem wd_560 : (Cond.methodLink "UnitVoices$Text" (103 : Nat) ({ cls := "UnitVoices$Text", name := "readSign", desc := "(I)Z" } : Jvm.MethodName)) ∈ TB := tb_in (i := 622) (by decide +kernel) rfl
theorem wd_564 : (Cond.methodLink "UnitVoices$Text" (106 : Nat) ({ cls := "UnitVoices$Tree", name := "putBranches", desc := "(III)V" } : Jvm.MethodName)) ∈ TB := tb_in (i := 626) (by decide +kernel) rfl
theorem wd_568 : (Cond.methodLink "UnitVoices$Tree" (54 : Nat) ({ cls := "UnitVoices$Tree", name := "isNode", desc := "(I)Z" } : Jvm.MethodName)) ∈ TB := tb_in (i := 630) (by decide +kernel) rfl
theorem wd_572 : (Cond.methodLink "UnitVoices$Text" (60 : Nat) ({ cls := "UnitVoices$Text", name := "readEnd", desc := "()V" } : Jvm.MethodName)) ∈ TB := tb_in (i := 634) (by decide +kernel) rfl
theorem wd_576 : (Cond.methodLink "UnitVoices" (159 : Nat) ({ cls := "UnitVoices$Row", name := "become", desc := "(LUnitVoices$Row;)V" } : Jvm.MethodName)) ∈ TB := tb_in (i := 638) (by decide +kernel) rfl
theorem wd_580 : (Cond.methodLink "UnitVoices$Row" (25 : Nat) ({ cls := "UnitVoices$Row", name := "add", desc := "(III)V" } : Jvm.MethodName)) ∈ TB := tb_in (i := 642) (by decide +kernel) rfl
theorem wd_581 : (Cond.methodLink "UnitVoices" (165 : Nat) ({ cls := "UnitVoices$Tree", name := "become", desc := "(LUnitVoices$Tree;)V" } : Jvm.MethodName)) ∈ TB := tb_in (i := 643) (by decide +kernel) rfl
theorem wd_585 : (Cond.arrayClass Jvm.ClassFile.FieldType.byte) ∈ TB := tb_in (i := 647) (by decide +kernel) rfl
theorem wd_586 : (Cond.methodLink "UnitVoicesLaw" (54 : Nat) ({ cls := "UnitVoices", name := "target", desc := "(II)I" } : Jvm.MethodName)) ∈ TB := tb_in (i := 648) (by decide +kernel) rfl
theorem wd_590 : (Cond.methodLink "UnitVoices" (171 : Nat) ({ cls := "UnitVoices", name := "isTarget", desc := "(I)Z" } : Jvm.MethodName)) ∈ TB := tb_in (i := 652) (by decide +kernel) rfl
theorem wd_594 : (Cond.methodLink "UnitVoices" (177 : Nat) ({ cls := "UnitVoices$Row", name := "leftOf", desc := "(I)I" } : Jvm.MethodName)) ∈ TB := tb_in (i := 656) (by decide +kernel) rfl
theorem wd_598 : (Cond.methodLink "UnitVoices" (181 : Nat) ({ cls := "UnitVoices$Row", name := "rightOf", desc := "(I)I" } : Jvm.MethodName)) ∈ TB := tb_in (i := 660) (by decide +kernel) rfl
theorem wd_602 : (Cond.methodLink "UnitVoicesLaw" (58 : Nat) ({ cls := "UnitVoices", name := "tree", desc := "(I)I" } : Jvm.MethodName)) ∈ TB := tb_in (i := 664) (by decide +kernel) rfl
theorem wd_606 : (Cond.methodLink "UnitVoices" (187 : Nat) ({ cls := "UnitVoices", name := "emptyLeaves", desc := "()I" } : Jvm.MethodName)) ∈ TB := tb_in (i := 668) (by decide +kernel) rfl
theorem wd_610 : (Cond.methodLink "UnitVoices" (190 : Nat) ({ cls := "UnitVoices$Chooser", name := "leafOfUnit", desc := "(I)I" } : Jvm.MethodName)) ∈ TB := tb_in (i := 672) (by decide +kernel) rfl
theorem wd_614 : (Cond.methodLink "UnitVoices$Chooser" (51 : Nat) ({ cls := "UnitVoices$Tree", name := "leafFor", desc := "(IIII)I" } : Jvm.MethodName)) ∈ TB := tb_in (i := 676) (by decide +kernel) rfl
theorem wd_618 : (Cond.methodLink "UnitVoices$Tree" (58 : Nat) ({ cls := "UnitVoices$Tree", name := "saysYes", desc := "(IIIII)Z" } : Jvm.MethodName)) ∈ TB := tb_in (i := 680) (by decide +kernel) rfl
theorem wd_622 : (Cond.methodLink "UnitVoices" (193 : Nat) ({ cls := "UnitVoices$Tree", name := "numberOf", desc := "(I)I" } : Jvm.MethodName)) ∈ TB := tb_in (i := 684) (by decide +kernel) rfl
theorem wd_626 : (Cond.methodLink "UnitVoices" (298 : Nat) ({ cls := "java/lang/Long", name := "bitCount", desc := "(J)I" } : Jvm.MethodName)) ∈ TB := tb_in (i := 688) (by decide +kernel) rfl
theorem wd_629 : (Cond.constantLong "java/lang/Long" (314 : Nat) (6148914691236517205 : Int64)) ∈ TB := tb_in (i := 691) (by decide +kernel) rfl
theorem wd_630 : (Cond.constantLong "java/lang/Long" (316 : Nat) (3689348814741910323 : Int64)) ∈ TB := tb_in (i := 692) (by decide +kernel) rfl
theorem wd_631 : (Cond.constantLong "java/lang/Long" (318 : Nat) (1085102592571150095 : Int64)) ∈ TB := tb_in (i := 693) (by decide +kernel) rfl
theorem wd_632 : (Cond.methodLink "UnitVoicesLaw" (62 : Nat) ({ cls := "UnitVoices", name := "leaf", desc := "(II)I" } : Jvm.MethodName)) ∈ TB := tb_in (i := 694) (by decide +kernel) rfl
theorem wd_636 : (Cond.methodLink "UnitVoices" (196 : Nat) ({ cls := "UnitVoices$Chooser", name := "leafOfTarget", desc := "(I)I" } : Jvm.MethodName)) ∈ TB := tb_in (i := 698) (by decide +kernel) rfl
theorem wd_640 : (Cond.methodLink "UnitVoices$Chooser" (57 : Nat) ({ cls := "UnitVoices$Row", name := "leftOf", desc := "(I)I" } : Jvm.MethodName)) ∈ TB := tb_in (i := 702) (by decide +kernel) rfl
theorem wd_641 : (Cond.methodLink "UnitVoices$Chooser" (63 : Nat) ({ cls := "UnitVoices$Row", name := "rightOf", desc := "(I)I" } : Jvm.MethodName)) ∈ TB := tb_in (i := 703) (by decide +kernel) rfl
theorem wd_642 : (Cond.methodLink "UnitVoicesLaw" (66 : Nat) ({ cls := "UnitVoices", name := "choice", desc := "(II)I" } : Jvm.MethodName)) ∈ TB := tb_in (i := 704) (by decide +kernel) rfl
theorem wd_646 : (Cond.methodLink "UnitVoices" (199 : Nat) ({ cls := "UnitVoices", name := "isPlace", desc := "(I)Z" } : Jvm.MethodName)) ∈ TB := tb_in (i := 708) (by decide +kernel) rfl
theorem wd_650 : (Cond.methodLink "UnitVoices" (205 : Nat) ({ cls := "UnitVoices", name := "no", desc := "()I" } : Jvm.MethodName)) ∈ TB := tb_in (i := 712) (by decide +kernel) rfl
theorem wd_654 : (Cond.methodLink "UnitVoices" (208 : Nat) ({ cls := "UnitVoices$Chooser", name := "choose", desc := "(II)LUnitVoices$Choice;" } : Jvm.MethodName)) ∈ TB := tb_in (i := 716) (by decide +kernel) rfl
theorem wd_658 : (Cond.methodLink "UnitVoices$Chooser" (68 : Nat) ({ cls := "UnitVoices$Chooser", name := "findLeaves", desc := "()V" } : Jvm.MethodName)) ∈ TB := tb_in (i := 720) (by decide +kernel) rfl
theorem wd_662 : (Cond.methodLink "UnitVoices$Chooser" (84 : Nat) ({ cls := "UnitVoices$Chooser", name := "leafOfUnit", desc := "(I)I" } : Jvm.MethodName)) ∈ TB := tb_in (i := 724) (by decide +kernel) rfl
theorem wd_663 : (Cond.methodLink "UnitVoices$Chooser" (75 : Nat) ({ cls := "UnitVoices$Chooser", name := "chooseFor", desc := "(II)V" } : Jvm.MethodName)) ∈ TB := tb_in (i := 725) (by decide +kernel) rfl
theorem wd_667 : (Cond.methodLink "UnitVoices$Chooser" (87 : Nat) ({ cls := "UnitVoices$Choice", name := "begin", desc := "()V" } : Jvm.MethodName)) ∈ TB := tb_in (i := 729) (by decide +kernel) rfl
theorem wd_671 : (Cond.methodLink "UnitVoices$Chooser" (90 : Nat) ({ cls := "UnitVoices$Chooser", name := "leafOfTarget", desc := "(I)I" } : Jvm.MethodName)) ∈ TB := tb_in (i := 733) (by decide +kernel) rfl
theorem wd_672 : (Cond.methodLink "UnitVoices$Chooser" (102 : Nat) ({ cls := "UnitVoices$Chooser", name := "climb", desc := "(LUnitVoices$Choice;III)V" } : Jvm.MethodName)) ∈ TB := tb_in (i := 734) (by decide +kernel) rfl
theorem wd_676 : (Cond.methodLink "UnitVoices$Chooser" (110 : Nat) ({ cls := "UnitVoices$Chooser", name := "gather", desc := "(LUnitVoices$Choice;III)V" } : Jvm.MethodName)) ∈ TB := tb_in (i := 738) (by decide +kernel) rfl
theorem wd_680 : (Cond.methodLink "UnitVoices$Chooser" (117 : Nat) ({ cls := "UnitVoices$Tree", name := "liesUnder", desc := "(II)Z" } : Jvm.MethodName)) ∈ TB := tb_in (i := 742) (by decide +kernel) rfl
theorem wd_684 : (Cond.methodLink "UnitVoices$Tree" (62 : Nat) ({ cls := "UnitVoices$Tree", name := "nodeAbove", desc := "(I)I" } : Jvm.MethodName)) ∈ TB := tb_in (i := 746) (by decide +kernel) rfl
theorem wd_688 : (Cond.methodLink "UnitVoices$Chooser" (121 : Nat) ({ cls := "UnitVoices$Choice", name := "add", desc := "(I)V" } : Jvm.MethodName)) ∈ TB := tb_in (i := 750) (by decide +kernel) rfl
theorem wd_692 : (Cond.methodLink "UnitVoices$Chooser" (113 : Nat) ({ cls := "UnitVoices$Tree", name := "nodeAbove", desc := "(I)I" } : Jvm.MethodName)) ∈ TB := tb_in (i := 754) (by decide +kernel) rfl
theorem wd_693 : (Cond.methodLink "UnitVoices$Chooser" (107 : Nat) ({ cls := "UnitVoices$Choice", name := "miss", desc := "()V" } : Jvm.MethodName)) ∈ TB := tb_in (i := 755) (by decide +kernel) rfl
theorem wd_697 : (Cond.methodLink "UnitVoices" (212 : Nat) ({ cls := "UnitVoices$Choice", name := "isMissing", desc := "()Z" } : Jvm.MethodName)) ∈ TB := tb_in (i := 759) (by decide +kernel) rfl
theorem wd_701 : (Cond.methodLink "UnitVoicesLaw" (70 : Nat) ({ cls := "UnitVoices", name := "steps", desc := "(I)I" } : Jvm.MethodName)) ∈ TB := tb_in (i := 763) (by decide +kernel) rfl
theorem wd_705 : (Cond.methodLink "UnitVoicesLaw" (74 : Nat) ({ cls := "UnitVoices", name := "tried", desc := "(I)I" } : Jvm.MethodName)) ∈ TB := tb_in (i := 767) (by decide +kernel) rfl
theorem wd_709 : (Cond.methodLink "UnitVoicesLaw" (78 : Nat) ({ cls := "UnitVoices", name := "fit", desc := "(II)I" } : Jvm.MethodName)) ∈ TB := tb_in (i := 771) (by decide +kernel) rfl
theorem wd_713 : (Cond.methodLink "UnitVoices" (228 : Nat) ({ cls := "UnitVoices$Prices", name := "ofFit", desc := "(III)I" } : Jvm.MethodName)) ∈ TB := tb_in (i := 775) (by decide +kernel) rfl
theorem wd_717 : (Cond.methodLink "UnitVoices$Prices" (26 : Nat) ({ cls := "java/lang/Math", name := "abs", desc := "(I)I" } : Jvm.MethodName)) ∈ TB := tb_in (i := 779) (by decide +kernel) rfl
theorem wd_720 : (Cond.methodLink "UnitVoices$Prices" (36 : Nat) ({ cls := "UnitVoices$Prices", name := "besidePart", desc := "(II)I" } : Jvm.MethodName)) ∈ TB := tb_in (i := 782) (by decide +kernel) rfl
theorem wd_724 : (Cond.methodLink "UnitVoices$Prices" (43 : Nat) ({ cls := "UnitVoices$Row", name := "leftOf", desc := "(I)I" } : Jvm.MethodName)) ∈ TB := tb_in (i := 786) (by decide +kernel) rfl
theorem wd_725 : (Cond.methodLink "UnitVoices$Prices" (49 : Nat) ({ cls := "UnitVoices$Row", name := "rightOf", desc := "(I)I" } : Jvm.MethodName)) ∈ TB := tb_in (i := 787) (by decide +kernel) rfl
theorem wd_726 : (Cond.methodLink "UnitVoicesLaw" (82 : Nat) ({ cls := "UnitVoices", name := "joint", desc := "(II)I" } : Jvm.MethodName)) ∈ TB := tb_in (i := 788) (by decide +kernel) rfl
theorem wd_730 : (Cond.methodLink "UnitVoices" (232 : Nat) ({ cls := "UnitVoices$Prices", name := "ofJoint", desc := "(II)I" } : Jvm.MethodName)) ∈ TB := tb_in (i := 792) (by decide +kernel) rfl
theorem wd_734 : (Cond.methodLink "UnitVoicesLaw" (86 : Nat) ({ cls := "UnitVoices", name := "cost", desc := "()I" } : Jvm.MethodName)) ∈ TB := tb_in (i := 796) (by decide +kernel) rfl
theorem wd_738 : (Cond.methodLink "UnitVoices" (236 : Nat) ({ cls := "UnitVoices", name := "findChain", desc := "(I)Z" } : Jvm.MethodName)) ∈ TB := tb_in (i := 800) (by decide +kernel) rfl
theorem wd_742 : (Cond.methodLink "UnitVoices" (267 : Nat) ({ cls := "UnitVoices$Chooser", name := "chooseAll", desc := "(I)Z" } : Jvm.MethodName)) ∈ TB := tb_in (i := 804) (by decide +kernel) rfl
theorem wd_746 : (Cond.methodLink "UnitVoices$Chooser" (79 : Nat) ({ cls := "UnitVoices$Choice", name := "isMissing", desc := "()Z" } : Jvm.MethodName)) ∈ TB := tb_in (i := 808) (by decide +kernel) rfl
theorem wd_747 : (Cond.methodLink "UnitVoices" (271 : Nat) ({ cls := "UnitVoices$Chains", name := "weigh", desc := "(I)V" } : Jvm.MethodName)) ∈ TB := tb_in (i := 809) (by decide +kernel) rfl
theorem wd_751 : (Cond.methodLink "UnitVoices$Chains" (58 : Nat) ({ cls := "UnitVoices$Chains", name := "weighEntry", desc := "(III)V" } : Jvm.MethodName)) ∈ TB := tb_in (i := 813) (by decide +kernel) rfl
theorem wd_755 : (Cond.methodLink "UnitVoices$Chains" (72 : Nat) ({ cls := "UnitVoices$Prices", name := "ofFit", desc := "(III)I" } : Jvm.MethodName)) ∈ TB := tb_in (i := 817) (by decide +kernel) rfl
theorem wd_756 : (Cond.methodLink "UnitVoices$Chains" (62 : Nat) ({ cls := "UnitVoices$Tally", name := "begin", desc := "(I)V" } : Jvm.MethodName)) ∈ TB := tb_in (i := 818) (by decide +kernel) rfl
theorem wd_757 : (Cond.methodLink "UnitVoices$Chains" (65 : Nat) ({ cls := "UnitVoices$Tally", name := "offer", desc := "(IILUnitVoices$Tally;I)V" } : Jvm.MethodName)) ∈ TB := tb_in (i := 819) (by decide +kernel) rfl
theorem wd_761 : (Cond.methodLink "UnitVoices$Tally" (38 : Nat) ({ cls := "java/lang/Math", name := "min", desc := "(II)I" } : Jvm.MethodName)) ∈ TB := tb_in (i := 823) (by decide +kernel) rfl
theorem wd_764 : (Cond.constant "UnitVoices$Tally" (41 : Nat) (1000000000 : Int32)) ∈ TB := tb_in (i := 826) (by decide +kernel) rfl
theorem wd_765 : (Cond.methodLink "UnitVoices$Chains" (78 : Nat) ({ cls := "UnitVoices$Prices", name := "ofJoint", desc := "(II)I" } : Jvm.MethodName)) ∈ TB := tb_in (i := 827) (by decide +kernel) rfl
theorem wd_766 : (Cond.methodLink "UnitVoices" (295 : Nat) ({ cls := "UnitVoices$Chains", name := "trace", desc := "()V" } : Jvm.MethodName)) ∈ TB := tb_in (i := 828) (by decide +kernel) rfl
theorem wd_770 : (Cond.methodLink "UnitVoices" (239 : Nat) ({ cls := "UnitVoices$Chains", name := "leastPrice", desc := "()I" } : Jvm.MethodName)) ∈ TB := tb_in (i := 832) (by decide +kernel) rfl
theorem wd_774 : (Cond.methodLink "UnitVoicesLaw" (90 : Nat) ({ cls := "UnitVoices", name := "chain", desc := "(I)I" } : Jvm.MethodName)) ∈ TB := tb_in (i := 836) (by decide +kernel) rfl
theorem wd_778 : (Cond.methodLink "UnitVoicesLaw" (94 : Nat) ({ cls := "UnitVoices", name := "ways", desc := "()I" } : Jvm.MethodName)) ∈ TB := tb_in (i := 840) (by decide +kernel) rfl
theorem wd_782 : (Cond.methodLink "UnitVoices" (245 : Nat) ({ cls := "UnitVoices$Chains", name := "waysOfLeast", desc := "()I" } : Jvm.MethodName)) ∈ TB := tb_in (i := 844) (by decide +kernel) rfl
theorem wd_786 : (Cond.methodLink "UnitVoicesLaw" (98 : Nat) ({ cls := "UnitVoices", name := "next", desc := "()I" } : Jvm.MethodName)) ∈ TB := tb_in (i := 848) (by decide +kernel) rfl
theorem wd_790 : (Cond.methodLink "UnitVoices" (248 : Nat) ({ cls := "UnitVoices$Chains", name := "secondPrice", desc := "()I" } : Jvm.MethodName)) ∈ TB := tb_in (i := 852) (by decide +kernel) rfl
theorem wd_794 : (Cond.constant "UnitVoices$Chains" (91 : Nat) (1000000 : Int32)) ∈ TB := tb_in (i := 856) (by decide +kernel) rfl
theorem wd_795 : (Cond.methodLink "UnitVoicesLaw" (102 : Nat) ({ cls := "UnitVoices", name := "dearest", desc := "()I" } : Jvm.MethodName)) ∈ TB := tb_in (i := 857) (by decide +kernel) rfl
theorem wd_799 : (Cond.methodLink "UnitVoices" (251 : Nat) ({ cls := "UnitVoices$Chains", name := "mostPrice", desc := "()I" } : Jvm.MethodName)) ∈ TB := tb_in (i := 861) (by decide +kernel) rfl
theorem wd_803 : (Cond.methodLink "UnitVoicesLaw" (106 : Nat) ({ cls := "UnitVoices", name := "without", desc := "(I)I" } : Jvm.MethodName)) ∈ TB := tb_in (i := 865) (by decide +kernel) rfl
theorem wd_807 : (Cond.methodLink "UnitVoicesLaw" (110 : Nat) ({ cls := "UnitVoices", name := "about", desc := "(I)I" } : Jvm.MethodName)) ∈ TB := tb_in (i := 869) (by decide +kernel) rfl
theorem wd_811 : (Cond.methodLink "UnitVoices" (254 : Nat) ({ cls := "UnitVoices$Chains", name := "pathFollowers", desc := "(LUnitVoices$Units;)I" } : Jvm.MethodName)) ∈ TB := tb_in (i := 873) (by decide +kernel) rfl
theorem wd_815 : (Cond.methodLink "UnitVoices" (258 : Nat) ({ cls := "UnitVoices$Chains", name := "pathFits", desc := "(I)I" } : Jvm.MethodName)) ∈ TB := tb_in (i := 877) (by decide +kernel) rfl
theorem wd_819 : (Cond.methodLink "UnitVoices" (261 : Nat) ({ cls := "UnitVoices$Chains", name := "pathJoints", desc := "()I" } : Jvm.MethodName)) ∈ TB := tb_in (i := 881) (by decide +kernel) rfl
theorem wd_823 : (Cond.methodLink "UnitVoices" (264 : Nat) ({ cls := "UnitVoices$Chains", name := "dearestPathJoint", desc := "()I" } : Jvm.MethodName)) ∈ TB := tb_in (i := 885) (by decide +kernel) rfl
theorem wd_827 : (Cond.methodLink "UnitVoices$Chains" (103 : Nat) ({ cls := "java/lang/Math", name := "max", desc := "(II)I" } : Jvm.MethodName)) ∈ TB := tb_in (i := 889) (by decide +kernel) rfl
theorem wd_828 : (Cond.methodLink "UnitVoicesLaw" (114 : Nat) ({ cls := "UnitVoices", name := "cheapest", desc := "(I)I" } : Jvm.MethodName)) ∈ TB := tb_in (i := 890) (by decide +kernel) rfl
theorem wd_832 : (Cond.constant "UnitVoices" (270 : Nat) (1000000 : Int32)) ∈ TB := tb_in (i := 894) (by decide +kernel) rfl
theorem wd_833 : (Cond.methodLink "UnitVoicesLaw" (118 : Nat) ({ cls := "UnitVoices", name := "told", desc := "(I)I" } : Jvm.MethodName)) ∈ TB := tb_in (i := 895) (by decide +kernel) rfl
theorem wd_837 : (Cond.methodLink "UnitVoicesLaw" (122 : Nat) ({ cls := "UnitVoices", name := "digest", desc := "()J" } : Jvm.MethodName)) ∈ TB := tb_in (i := 899) (by decide +kernel) rfl
theorem wd_841 : (Cond.constantLong "UnitVoices" (280 : Nat) (1987 : Int64)) ∈ TB := tb_in (i := 903) (by decide +kernel) rfl
theorem wd_842 : (Cond.constantLong "UnitVoices" (282 : Nat) (31 : Int64)) ∈ TB := tb_in (i := 904) (by decide +kernel) rfl
theorem wd_843 : (Cond.methodLink "UnitVoices" (284 : Nat) ({ cls := "UnitVoices", name := "told", desc := "(I)I" } : Jvm.MethodName)) ∈ TB := tb_in (i := 905) (by decide +kernel) rfl
theorem wd_844 : (Cond.methodLink "UnitVoices" (287 : Nat) ({ cls := "UnitVoices", name := "of", desc := "(II)I" } : Jvm.MethodName)) ∈ TB := tb_in (i := 906) (by decide +kernel) rfl
theorem wd_845 : (Cond.methodLink "UnitVoices" (290 : Nat) ({ cls := "UnitVoices", name := "target", desc := "(II)I" } : Jvm.MethodName)) ∈ TB := tb_in (i := 907) (by decide +kernel) rfl
theorem wd_846 : (Cond.constantLong "UnitVoices" (293 : Nat) (-1 : Int64)) ∈ TB := tb_in (i := 908) (by decide +kernel) rfl
theorem wd_847 : (Cond.classLink "UnitVoicesLaw" (10 : Nat) "UnitVoicesModel") ∈ TB := tb_in (i := 909) (by decide +kernel) rfl
theorem wd_848 : (Cond.instantiable "UnitVoicesModel" (40 : Nat)) ∈ TB := tb_in (i := 910) (by decide +kernel) rfl
theorem wd_849 : (Cond.methodLink "UnitVoicesLaw" (12 : Nat) ({ cls := "UnitVoicesModel", name := "<init>", desc := "()V" } : Jvm.MethodName)) ∈ TB := tb_in (i := 911) (by decide +kernel) rfl
theorem wd_852 : (Cond.methodLink "UnitVoicesModel" (1 : Nat) ({ cls := "java/lang/Object", name := "<init>", desc := "()V" } : Jvm.MethodName)) ∈ TB := tb_in (i := 914) (by decide +kernel) rfl
theorem wd_853 : (Cond.fieldLink "UnitVoicesModel" (7 : Nat) "UnitVoicesModel" "units" "[I") ∈ TB := tb_in (i := 915) (by decide +kernel) rfl
theorem wd_854 : (Cond.fieldLink "UnitVoicesModel" (86 : Nat) "UnitVoicesModel" "many" "I") ∈ TB := tb_in (i := 916) (by decide +kernel) rfl
theorem wd_855 : (Cond.fieldLink "UnitVoicesModel" (13 : Nat) "UnitVoicesModel" "row" "[I") ∈ TB := tb_in (i := 917) (by decide +kernel) rfl
theorem wd_856 : (Cond.fieldLink "UnitVoicesModel" (187 : Nat) "UnitVoicesModel" "rowLong" "I") ∈ TB := tb_in (i := 918) (by decide +kernel) rfl
theorem wd_857 : (Cond.fieldLink "UnitVoicesModel" (16 : Nat) "UnitVoicesModel" "others" "[I") ∈ TB := tb_in (i := 919) (by decide +kernel) rfl
theorem wd_858 : (Cond.fieldLink "UnitVoicesModel" (145 : Nat) "UnitVoicesModel" "kind" "I") ∈ TB := tb_in (i := 920) (by decide +kernel) rfl
theorem wd_859 : (Cond.fieldLink "UnitVoicesModel" (19 : Nat) "UnitVoicesModel" "nodeIs" "[I") ∈ TB := tb_in (i := 921) (by decide +kernel) rfl
theorem wd_860 : (Cond.fieldLink "UnitVoicesModel" (22 : Nat) "UnitVoicesModel" "nodeFigure" "[I") ∈ TB := tb_in (i := 922) (by decide +kernel) rfl
theorem wd_861 : (Cond.fieldLink "UnitVoicesModel" (25 : Nat) "UnitVoicesModel" "nodeYes" "[I") ∈ TB := tb_in (i := 923) (by decide +kernel) rfl
theorem wd_862 : (Cond.fieldLink "UnitVoicesModel" (28 : Nat) "UnitVoicesModel" "nodeNo" "[I") ∈ TB := tb_in (i := 924) (by decide +kernel) rfl
theorem wd_863 : (Cond.fieldLink "UnitVoicesModel" (31 : Nat) "UnitVoicesModel" "leaves" "I") ∈ TB := tb_in (i := 925) (by decide +kernel) rfl
theorem wd_864 : (Cond.fieldLink "UnitVoicesModel" (190 : Nat) "UnitVoicesModel" "deepest" "I") ∈ TB := tb_in (i := 926) (by decide +kernel) rfl
theorem wd_865 : (Cond.fieldLink "UnitVoicesModel" (35 : Nat) "UnitVoicesModel" "refused" "[I") ∈ TB := tb_in (i := 927) (by decide +kernel) rfl
theorem wd_866 : (Cond.fieldLink "UnitVoicesModel" (38 : Nat) "UnitVoicesModel" "text" "[I") ∈ TB := tb_in (i := 928) (by decide +kernel) rfl
theorem wd_867 : (Cond.fieldLink "UnitVoicesModel" (150 : Nat) "UnitVoicesModel" "textLong" "I") ∈ TB := tb_in (i := 929) (by decide +kernel) rfl
theorem wd_868 : (Cond.fieldLink "UnitVoicesModel" (153 : Nat) "UnitVoicesModel" "place" "I") ∈ TB := tb_in (i := 930) (by decide +kernel) rfl
theorem wd_869 : (Cond.fieldLink "UnitVoicesModel" (41 : Nat) "UnitVoicesModel" "readRow" "[I") ∈ TB := tb_in (i := 931) (by decide +kernel) rfl
theorem wd_870 : (Cond.fieldLink "UnitVoicesModel" (44 : Nat) "UnitVoicesModel" "readIs" "[I") ∈ TB := tb_in (i := 932) (by decide +kernel) rfl
theorem wd_871 : (Cond.fieldLink "UnitVoicesModel" (47 : Nat) "UnitVoicesModel" "readFigure" "[I") ∈ TB := tb_in (i := 933) (by decide +kernel) rfl
theorem wd_872 : (Cond.fieldLink "UnitVoicesModel" (50 : Nat) "UnitVoicesModel" "readYes" "[I") ∈ TB := tb_in (i := 934) (by decide +kernel) rfl
theorem wd_873 : (Cond.fieldLink "UnitVoicesModel" (53 : Nat) "UnitVoicesModel" "readNo" "[I") ∈ TB := tb_in (i := 935) (by decide +kernel) rfl
theorem wd_874 : (Cond.fieldLink "UnitVoicesModel" (165 : Nat) "UnitVoicesModel" "readLeaves" "I") ∈ TB := tb_in (i := 936) (by decide +kernel) rfl
theorem wd_875 : (Cond.fieldLink "UnitVoicesModel" (168 : Nat) "UnitVoicesModel" "readDeep" "I") ∈ TB := tb_in (i := 937) (by decide +kernel) rfl
theorem wd_876 : (Cond.fieldLink "UnitVoicesModel" (56 : Nat) "UnitVoicesModel" "open" "[I") ∈ TB := tb_in (i := 938) (by decide +kernel) rfl
theorem wd_877 : (Cond.fieldLink "UnitVoicesModel" (59 : Nat) "UnitVoicesModel" "has" "[I") ∈ TB := tb_in (i := 939) (by decide +kernel) rfl
theorem wd_878 : (Cond.fieldLink "UnitVoicesModel" (62 : Nat) "UnitVoicesModel" "chosen" "[I") ∈ TB := tb_in (i := 940) (by decide +kernel) rfl
theorem wd_879 : (Cond.fieldLink "UnitVoicesModel" (65 : Nat) "UnitVoicesModel" "chosenLong" "[I") ∈ TB := tb_in (i := 941) (by decide +kernel) rfl
theorem wd_880 : (Cond.fieldLink "UnitVoicesModel" (68 : Nat) "UnitVoicesModel" "gone" "I") ∈ TB := tb_in (i := 942) (by decide +kernel) rfl
theorem wd_881 : (Cond.fieldLink "UnitVoicesModel" (225 : Nat) "UnitVoicesModel" "stepsNow" "I") ∈ TB := tb_in (i := 943) (by decide +kernel) rfl
theorem wd_882 : (Cond.fieldLink "UnitVoicesModel" (228 : Nat) "UnitVoicesModel" "triedNow" "I") ∈ TB := tb_in (i := 944) (by decide +kernel) rfl
theorem wd_883 : (Cond.fieldLink "UnitVoicesModel" (71 : Nat) "UnitVoicesModel" "cheap" "[I") ∈ TB := tb_in (i := 945) (by decide +kernel) rfl
theorem wd_884 : (Cond.fieldLink "UnitVoicesModel" (74 : Nat) "UnitVoicesModel" "second" "[I") ∈ TB := tb_in (i := 946) (by decide +kernel) rfl
theorem wd_885 : (Cond.fieldLink "UnitVoicesModel" (77 : Nat) "UnitVoicesModel" "dear" "[I") ∈ TB := tb_in (i := 947) (by decide +kernel) rfl
theorem wd_886 : (Cond.fieldLink "UnitVoicesModel" (80 : Nat) "UnitVoicesModel" "counts" "[I") ∈ TB := tb_in (i := 948) (by decide +kernel) rfl
theorem wd_887 : (Cond.fieldLink "UnitVoicesModel" (252 : Nat) "UnitVoicesModel" "cheapestOf" "I") ∈ TB := tb_in (i := 949) (by decide +kernel) rfl
theorem wd_888 : (Cond.fieldLink "UnitVoicesModel" (255 : Nat) "UnitVoicesModel" "nextCheapest" "I") ∈ TB := tb_in (i := 950) (by decide +kernel) rfl
theorem wd_889 : (Cond.fieldLink "UnitVoicesModel" (258 : Nat) "UnitVoicesModel" "dearestOf" "I") ∈ TB := tb_in (i := 951) (by decide +kernel) rfl
theorem wd_890 : (Cond.fieldLink "UnitVoicesModel" (261 : Nat) "UnitVoicesModel" "waysOf" "I") ∈ TB := tb_in (i := 952) (by decide +kernel) rfl
theorem wd_891 : (Cond.fieldLink "UnitVoicesModel" (83 : Nat) "UnitVoicesModel" "chainNow" "[I") ∈ TB := tb_in (i := 953) (by decide +kernel) rfl
theorem wd_892 : (Cond.fieldLink "UnitVoicesModel" (280 : Nat) "UnitVoicesModel" "byKind" "I") ∈ TB := tb_in (i := 954) (by decide +kernel) rfl
theorem wd_974 : (Cond.methodLink "UnitVoicesLaw" (17 : Nat) ({ cls := "UnitVoicesModel", name := "unit", desc := "(IIIIII)I" } : Jvm.MethodName)) ∈ TB := tb_in (i := 1036) (by decide +kernel) rfl
theorem wd_978 : (Cond.methodLink "UnitVoicesModel" (95 : Nat) ({ cls := "UnitVoicesModel", name := "isSound", desc := "(I)Z" } : Jvm.MethodName)) ∈ TB := tb_in (i := 1040) (by decide +kernel) rfl
theorem wd_981 : (Cond.constantLong "UnitVoicesModel" (93 : Nat) (5 : Int64)) ∈ TB := tb_in (i := 1043) (by decide +kernel) rfl
theorem wd_982 : (Cond.methodLink "UnitVoicesModel" (89 : Nat) ({ cls := "UnitVoicesModel", name := "in", desc := "(JJJ)Z" } : Jvm.MethodName)) ∈ TB := tb_in (i := 1044) (by decide +kernel) rfl
theorem wd_985 : (Cond.constantLong "UnitVoicesModel" (99 : Nat) (6 : Int64)) ∈ TB := tb_in (i := 1047) (by decide +kernel) rfl
theorem wd_986 : (Cond.constantLong "UnitVoicesModel" (101 : Nat) (9 : Int64)) ∈ TB := tb_in (i := 1048) (by decide +kernel) rfl
theorem wd_987 : (Cond.constantLong "UnitVoicesModel" (103 : Nat) (3 : Int64)) ∈ TB := tb_in (i := 1049) (by decide +kernel) rfl
theorem wd_988 : (Cond.methodLink "UnitVoicesModel" (105 : Nat) ({ cls := "UnitVoicesModel", name := "bad", desc := "(I)I" } : Jvm.MethodName)) ∈ TB := tb_in (i := 1050) (by decide +kernel) rfl
theorem wd_992 : (Cond.methodLink "UnitVoicesModel" (109 : Nat) ({ cls := "UnitVoicesModel", name := "full", desc := "()I" } : Jvm.MethodName)) ∈ TB := tb_in (i := 1054) (by decide +kernel) rfl
theorem wd_996 : (Cond.methodLink "UnitVoicesModel" (113 : Nat) ({ cls := "UnitVoicesModel", name := "lays", desc := "(IIIIII)V" } : Jvm.MethodName)) ∈ TB := tb_in (i := 1058) (by decide +kernel) rfl
theorem wd_1000 : (Cond.methodLink "UnitVoicesLaw" (22 : Nat) ({ cls := "UnitVoicesModel", name := "records", desc := "(III)I" } : Jvm.MethodName)) ∈ TB := tb_in (i := 1062) (by decide +kernel) rfl
theorem wd_1004 : (Cond.constantLong "UnitVoicesModel" (117 : Nat) (999999 : Int64)) ∈ TB := tb_in (i := 1066) (by decide +kernel) rfl
theorem wd_1005 : (Cond.constantLong "UnitVoicesModel" (119 : Nat) (1103515245 : Int64)) ∈ TB := tb_in (i := 1067) (by decide +kernel) rfl
theorem wd_1006 : (Cond.constantLong "UnitVoicesModel" (121 : Nat) (12345 : Int64)) ∈ TB := tb_in (i := 1068) (by decide +kernel) rfl
theorem wd_1007 : (Cond.constantLong "UnitVoicesModel" (123 : Nat) (2147483648 : Int64)) ∈ TB := tb_in (i := 1069) (by decide +kernel) rfl
theorem wd_1008 : (Cond.methodLink "UnitVoicesModel" (125 : Nat) ({ cls := "UnitVoicesModel", name := "at", desc := "(II)I" } : Jvm.MethodName)) ∈ TB := tb_in (i := 1070) (by decide +kernel) rfl
theorem wd_1012 : (Cond.constantLong "UnitVoicesModel" (129 : Nat) (65536 : Int64)) ∈ TB := tb_in (i := 1074) (by decide +kernel) rfl
theorem wd_1013 : (Cond.constantLong "UnitVoicesModel" (131 : Nat) (4096 : Int64)) ∈ TB := tb_in (i := 1075) (by decide +kernel) rfl
theorem wd_1014 : (Cond.constantLong "UnitVoicesModel" (133 : Nat) (10 : Int64)) ∈ TB := tb_in (i := 1076) (by decide +kernel) rfl
theorem wd_1015 : (Cond.constantLong "UnitVoicesModel" (135 : Nat) (1024 : Int64)) ∈ TB := tb_in (i := 1077) (by decide +kernel) rfl
theorem wd_1016 : (Cond.methodLink "UnitVoicesLaw" (27 : Nat) ({ cls := "UnitVoicesModel", name := "of", desc := "(II)I" } : Jvm.MethodName)) ∈ TB := tb_in (i := 1078) (by decide +kernel) rfl
theorem wd_1020 : (Cond.methodLink "UnitVoicesModel" (137 : Nat) ({ cls := "UnitVoicesModel", name := "isUnit", desc := "(I)Z" } : Jvm.MethodName)) ∈ TB := tb_in (i := 1082) (by decide +kernel) rfl
theorem wd_1024 : (Cond.methodLink "UnitVoicesModel" (140 : Nat) ({ cls := "UnitVoicesModel", name := "nextOf", desc := "(I)I" } : Jvm.MethodName)) ∈ TB := tb_in (i := 1086) (by decide +kernel) rfl
theorem wd_1028 : (Cond.methodLink "UnitVoicesLaw" (32 : Nat) ({ cls := "UnitVoicesModel", name := "empties", desc := "()I" } : Jvm.MethodName)) ∈ TB := tb_in (i := 1090) (by decide +kernel) rfl
theorem wd_1032 : (Cond.methodLink "UnitVoicesLaw" (36 : Nat) ({ cls := "UnitVoicesModel", name := "other", desc := "(II)I" } : Jvm.MethodName)) ∈ TB := tb_in (i := 1094) (by decide +kernel) rfl
theorem wd_1036 : (Cond.methodLink "UnitVoicesLaw" (41 : Nat) ({ cls := "UnitVoicesModel", name := "fitter", desc := "(I)I" } : Jvm.MethodName)) ∈ TB := tb_in (i := 1098) (by decide +kernel) rfl
theorem wd_1040 : (Cond.constantLong "UnitVoicesModel" (143 : Nat) (4 : Int64)) ∈ TB := tb_in (i := 1102) (by decide +kernel) rfl
theorem wd_1041 : (Cond.methodLink "UnitVoicesLaw" (45 : Nat) ({ cls := "UnitVoicesModel", name := "type", desc := "(I)I" } : Jvm.MethodName)) ∈ TB := tb_in (i := 1103) (by decide +kernel) rfl
theorem wd_1045 : (Cond.constantLong "UnitVoicesModel" (148 : Nat) (127 : Int64)) ∈ TB := tb_in (i := 1107) (by decide +kernel) rfl
theorem wd_1046 : (Cond.methodLink "UnitVoicesLaw" (49 : Nat) ({ cls := "UnitVoicesModel", name := "clear", desc := "()I" } : Jvm.MethodName)) ∈ TB := tb_in (i := 1108) (by decide +kernel) rfl
theorem wd_1050 : (Cond.methodLink "UnitVoicesLaw" (53 : Nat) ({ cls := "UnitVoicesModel", name := "reads", desc := "()I" } : Jvm.MethodName)) ∈ TB := tb_in (i := 1112) (by decide +kernel) rfl
theorem wd_1054 : (Cond.methodLink "UnitVoicesModel" (178 : Nat) ({ cls := "UnitVoicesModel", name := "takesWord", desc := "()I" } : Jvm.MethodName)) ∈ TB := tb_in (i := 1116) (by decide +kernel) rfl
theorem wd_1058 : (Cond.methodLink "UnitVoicesModel" (156 : Nat) ({ cls := "UnitVoicesModel", name := "here", desc := "()I" } : Jvm.MethodName)) ∈ TB := tb_in (i := 1120) (by decide +kernel) rfl
theorem wd_1062 : (Cond.methodLink "UnitVoicesModel" (159 : Nat) ({ cls := "UnitVoicesModel", name := "letterOf", desc := "(II)I" } : Jvm.MethodName)) ∈ TB := tb_in (i := 1124) (by decide +kernel) rfl
theorem wd_1065 : (Cond.methodLink "UnitVoicesModel" (181 : Nat) ({ cls := "UnitVoicesModel", name := "readsRow", desc := "()I" } : Jvm.MethodName)) ∈ TB := tb_in (i := 1127) (by decide +kernel) rfl
theorem wd_1069 : (Cond.methodLink "UnitVoicesModel" (162 : Nat) ({ cls := "UnitVoicesModel", name := "takes", desc := "(II)I" } : Jvm.MethodName)) ∈ TB := tb_in (i := 1131) (by decide +kernel) rfl
theorem wd_1073 : (Cond.methodLink "UnitVoicesModel" (184 : Nat) ({ cls := "UnitVoicesModel", name := "readsTree", desc := "()I" } : Jvm.MethodName)) ∈ TB := tb_in (i := 1135) (by decide +kernel) rfl
theorem wd_1077 : (Cond.methodLink "UnitVoicesModel" (171 : Nat) ({ cls := "UnitVoicesModel", name := "questionOf", desc := "(I)I" } : Jvm.MethodName)) ∈ TB := tb_in (i := 1139) (by decide +kernel) rfl
theorem wd_1080 : (Cond.methodLink "UnitVoicesModel" (174 : Nat) ({ cls := "UnitVoicesModel", name := "hangs", desc := "(II)V" } : Jvm.MethodName)) ∈ TB := tb_in (i := 1142) (by decide +kernel) rfl
theorem wd_1084 : (Cond.methodLink "UnitVoicesLaw" (57 : Nat) ({ cls := "UnitVoicesModel", name := "target", desc := "(II)I" } : Jvm.MethodName)) ∈ TB := tb_in (i := 1146) (by decide +kernel) rfl
theorem wd_1088 : (Cond.methodLink "UnitVoicesModel" (193 : Nat) ({ cls := "UnitVoicesModel", name := "isTarget", desc := "(I)Z" } : Jvm.MethodName)) ∈ TB := tb_in (i := 1150) (by decide +kernel) rfl
theorem wd_1092 : (Cond.methodLink "UnitVoicesModel" (196 : Nat) ({ cls := "UnitVoicesModel", name := "targetLeft", desc := "(I)I" } : Jvm.MethodName)) ∈ TB := tb_in (i := 1154) (by decide +kernel) rfl
theorem wd_1096 : (Cond.methodLink "UnitVoicesModel" (199 : Nat) ({ cls := "UnitVoicesModel", name := "targetRight", desc := "(I)I" } : Jvm.MethodName)) ∈ TB := tb_in (i := 1158) (by decide +kernel) rfl
theorem wd_1100 : (Cond.methodLink "UnitVoicesLaw" (61 : Nat) ({ cls := "UnitVoicesModel", name := "tree", desc := "(I)I" } : Jvm.MethodName)) ∈ TB := tb_in (i := 1162) (by decide +kernel) rfl
theorem wd_1104 : (Cond.constantLong "UnitVoicesModel" (217 : Nat) (2 : Int64)) ∈ TB := tb_in (i := 1166) (by decide +kernel) rfl
theorem wd_1105 : (Cond.methodLink "UnitVoicesModel" (219 : Nat) ({ cls := "UnitVoicesModel", name := "emptyLeaves", desc := "()I" } : Jvm.MethodName)) ∈ TB := tb_in (i := 1167) (by decide +kernel) rfl
theorem wd_1109 : (Cond.methodLink "UnitVoicesModel" (213 : Nat) ({ cls := "UnitVoicesModel", name := "leafOf", desc := "(ZI)I" } : Jvm.MethodName)) ∈ TB := tb_in (i := 1171) (by decide +kernel) rfl
theorem wd_1113 : (Cond.methodLink "UnitVoicesModel" (206 : Nat) ({ cls := "UnitVoicesModel", name := "unitAnswers", desc := "(II)Z" } : Jvm.MethodName)) ∈ TB := tb_in (i := 1175) (by decide +kernel) rfl
theorem wd_1117 : (Cond.methodLink "UnitVoicesModel" (202 : Nat) ({ cls := "UnitVoicesModel", name := "answers", desc := "(IIIII)Z" } : Jvm.MethodName)) ∈ TB := tb_in (i := 1179) (by decide +kernel) rfl
theorem wd_1121 : (Cond.methodLink "UnitVoicesModel" (210 : Nat) ({ cls := "UnitVoicesModel", name := "targetAnswers", desc := "(II)Z" } : Jvm.MethodName)) ∈ TB := tb_in (i := 1183) (by decide +kernel) rfl
theorem wd_1125 : (Cond.methodLink "UnitVoicesLaw" (65 : Nat) ({ cls := "UnitVoicesModel", name := "leaf", desc := "(II)I" } : Jvm.MethodName)) ∈ TB := tb_in (i := 1187) (by decide +kernel) rfl
theorem wd_1129 : (Cond.methodLink "UnitVoicesLaw" (69 : Nat) ({ cls := "UnitVoicesModel", name := "choice", desc := "(II)I" } : Jvm.MethodName)) ∈ TB := tb_in (i := 1191) (by decide +kernel) rfl
theorem wd_1133 : (Cond.constantLong "UnitVoicesModel" (234 : Nat) (7 : Int64)) ∈ TB := tb_in (i := 1195) (by decide +kernel) rfl
theorem wd_1134 : (Cond.methodLink "UnitVoicesModel" (236 : Nat) ({ cls := "UnitVoicesModel", name := "chooses", desc := "(I)Z" } : Jvm.MethodName)) ∈ TB := tb_in (i := 1196) (by decide +kernel) rfl
theorem wd_1138 : (Cond.methodLink "UnitVoicesModel" (222 : Nat) ({ cls := "UnitVoicesModel", name := "wayLong", desc := "(I)I" } : Jvm.MethodName)) ∈ TB := tb_in (i := 1200) (by decide +kernel) rfl
theorem wd_1142 : (Cond.methodLink "UnitVoicesModel" (231 : Nat) ({ cls := "UnitVoicesModel", name := "goesAlong", desc := "(II)I" } : Jvm.MethodName)) ∈ TB := tb_in (i := 1204) (by decide +kernel) rfl
theorem wd_1146 : (Cond.methodLink "UnitVoicesModel" (239 : Nat) ({ cls := "UnitVoicesModel", name := "no", desc := "()I" } : Jvm.MethodName)) ∈ TB := tb_in (i := 1208) (by decide +kernel) rfl
theorem wd_1150 : (Cond.methodLink "UnitVoicesLaw" (73 : Nat) ({ cls := "UnitVoicesModel", name := "steps", desc := "(I)I" } : Jvm.MethodName)) ∈ TB := tb_in (i := 1212) (by decide +kernel) rfl
theorem wd_1154 : (Cond.methodLink "UnitVoicesLaw" (77 : Nat) ({ cls := "UnitVoicesModel", name := "tried", desc := "(I)I" } : Jvm.MethodName)) ∈ TB := tb_in (i := 1216) (by decide +kernel) rfl
theorem wd_1158 : (Cond.methodLink "UnitVoicesLaw" (81 : Nat) ({ cls := "UnitVoicesModel", name := "fit", desc := "(II)I" } : Jvm.MethodName)) ∈ TB := tb_in (i := 1220) (by decide +kernel) rfl
theorem wd_1162 : (Cond.methodLink "UnitVoicesModel" (245 : Nat) ({ cls := "UnitVoicesModel", name := "fitAs", desc := "(III)I" } : Jvm.MethodName)) ∈ TB := tb_in (i := 1224) (by decide +kernel) rfl
theorem wd_1166 : (Cond.methodLink "UnitVoicesModel" (242 : Nat) ({ cls := "UnitVoicesModel", name := "far", desc := "(II)I" } : Jvm.MethodName)) ∈ TB := tb_in (i := 1228) (by decide +kernel) rfl
theorem wd_1169 : (Cond.methodLink "UnitVoicesLaw" (85 : Nat) ({ cls := "UnitVoicesModel", name := "joint", desc := "(II)I" } : Jvm.MethodName)) ∈ TB := tb_in (i := 1231) (by decide +kernel) rfl
theorem wd_1173 : (Cond.methodLink "UnitVoicesModel" (249 : Nat) ({ cls := "UnitVoicesModel", name := "jointOf", desc := "(II)I" } : Jvm.MethodName)) ∈ TB := tb_in (i := 1235) (by decide +kernel) rfl
theorem wd_1177 : (Cond.methodLink "UnitVoicesLaw" (89 : Nat) ({ cls := "UnitVoicesModel", name := "cost", desc := "()I" } : Jvm.MethodName)) ∈ TB := tb_in (i := 1239) (by decide +kernel) rfl
theorem wd_1181 : (Cond.methodLink "UnitVoicesModel" (286 : Nat) ({ cls := "UnitVoicesModel", name := "chainsNow", desc := "()Z" } : Jvm.MethodName)) ∈ TB := tb_in (i := 1243) (by decide +kernel) rfl
theorem wd_1185 : (Cond.methodLink "UnitVoicesModel" (283 : Nat) ({ cls := "UnitVoicesModel", name := "chains", desc := "(I)Z" } : Jvm.MethodName)) ∈ TB := tb_in (i := 1247) (by decide +kernel) rfl
theorem wd_1189 : (Cond.methodLink "UnitVoicesModel" (271 : Nat) ({ cls := "UnitVoicesModel", name := "begins", desc := "()V" } : Jvm.MethodName)) ∈ TB := tb_in (i := 1251) (by decide +kernel) rfl
theorem wd_1193 : (Cond.methodLink "UnitVoicesModel" (274 : Nat) ({ cls := "UnitVoicesModel", name := "takesIn", desc := "(II)V" } : Jvm.MethodName)) ∈ TB := tb_in (i := 1255) (by decide +kernel) rfl
theorem wd_1197 : (Cond.methodLink "UnitVoicesModel" (264 : Nat) ({ cls := "UnitVoicesModel", name := "offers", desc := "(I)V" } : Jvm.MethodName)) ∈ TB := tb_in (i := 1259) (by decide +kernel) rfl
theorem wd_1201 : (Cond.constantLong "UnitVoicesModel" (268 : Nat) (1000000000 : Int64)) ∈ TB := tb_in (i := 1263) (by decide +kernel) rfl
theorem wd_1202 : (Cond.constant "UnitVoicesModel" (270 : Nat) (1000000000 : Int32)) ∈ TB := tb_in (i := 1264) (by decide +kernel) rfl
theorem wd_1203 : (Cond.methodLink "UnitVoicesLaw" (93 : Nat) ({ cls := "UnitVoicesModel", name := "chain", desc := "(I)I" } : Jvm.MethodName)) ∈ TB := tb_in (i := 1265) (by decide +kernel) rfl
theorem wd_1207 : (Cond.methodLink "UnitVoicesModel" (290 : Nat) ({ cls := "UnitVoicesModel", name := "layChain", desc := "()V" } : Jvm.MethodName)) ∈ TB := tb_in (i := 1269) (by decide +kernel) rfl
theorem wd_1211 : (Cond.methodLink "UnitVoicesModel" (277 : Nat) ({ cls := "UnitVoicesModel", name := "fitNow", desc := "(II)I" } : Jvm.MethodName)) ∈ TB := tb_in (i := 1273) (by decide +kernel) rfl
theorem wd_1215 : (Cond.methodLink "UnitVoicesLaw" (97 : Nat) ({ cls := "UnitVoicesModel", name := "ways", desc := "()I" } : Jvm.MethodName)) ∈ TB := tb_in (i := 1277) (by decide +kernel) rfl
theorem wd_1219 : (Cond.methodLink "UnitVoicesLaw" (101 : Nat) ({ cls := "UnitVoicesModel", name := "next", desc := "()I" } : Jvm.MethodName)) ∈ TB := tb_in (i := 1281) (by decide +kernel) rfl
theorem wd_1223 : (Cond.methodLink "UnitVoicesLaw" (105 : Nat) ({ cls := "UnitVoicesModel", name := "dearest", desc := "()I" } : Jvm.MethodName)) ∈ TB := tb_in (i := 1285) (by decide +kernel) rfl
theorem wd_1227 : (Cond.methodLink "UnitVoicesLaw" (109 : Nat) ({ cls := "UnitVoicesModel", name := "without", desc := "(I)I" } : Jvm.MethodName)) ∈ TB := tb_in (i := 1289) (by decide +kernel) rfl
theorem wd_1231 : (Cond.methodLink "UnitVoicesLaw" (113 : Nat) ({ cls := "UnitVoicesModel", name := "about", desc := "(I)I" } : Jvm.MethodName)) ∈ TB := tb_in (i := 1293) (by decide +kernel) rfl
theorem wd_1235 : (Cond.methodLink "UnitVoicesLaw" (117 : Nat) ({ cls := "UnitVoicesModel", name := "cheapest", desc := "(I)I" } : Jvm.MethodName)) ∈ TB := tb_in (i := 1297) (by decide +kernel) rfl
theorem wd_1239 : (Cond.methodLink "UnitVoicesLaw" (121 : Nat) ({ cls := "UnitVoicesModel", name := "told", desc := "(I)I" } : Jvm.MethodName)) ∈ TB := tb_in (i := 1301) (by decide +kernel) rfl
theorem wd_1243 : (Cond.methodLink "UnitVoicesModel" (293 : Nat) ({ cls := "UnitVoicesModel", name := "toldOf", desc := "(I)I" } : Jvm.MethodName)) ∈ TB := tb_in (i := 1305) (by decide +kernel) rfl
theorem wd_1247 : (Cond.methodLink "UnitVoicesLaw" (126 : Nat) ({ cls := "UnitVoicesModel", name := "digest", desc := "()J" } : Jvm.MethodName)) ∈ TB := tb_in (i := 1309) (by decide +kernel) rfl
theorem wd_1251 : (Cond.constantLong "UnitVoicesModel" (298 : Nat) (1987 : Int64)) ∈ TB := tb_in (i := 1313) (by decide +kernel) rfl
theorem wd_1252 : (Cond.constantLong "UnitVoicesModel" (296 : Nat) (31 : Int64)) ∈ TB := tb_in (i := 1314) (by decide +kernel) rfl
theorem wd_1253 : (Cond.methodLink "UnitVoicesModel" (300 : Nat) ({ cls := "UnitVoicesModel", name := "sums", desc := "(J[II)J" } : Jvm.MethodName)) ∈ TB := tb_in (i := 1315) (by decide +kernel) rfl
theorem wd_1256 : (Cond.fieldLink "java/lang/String" (9 : Nat) "java/lang/String" "value" "[B") ∈ TB := tb_in (i := 1318) (by decide +kernel) rfl
theorem wd_1257 : (Cond.fieldLink "java/lang/String" (15 : Nat) "java/lang/String" "coder" "B") ∈ TB := tb_in (i := 1319) (by decide +kernel) rfl
theorem mv_X0_weigh : uvMV yX0_weigh RX0 cX0_weigh 4 (Option.none : Option Jvm.ClassFile.FieldType) 1 := ⟨⟨tb_in (i := 810) (by decide +kernel) rfl, tb_in (i := 811) (by decide +kernel) rfl, wd_9, tb_in (i := 812) (by decide +kernel) rfl⟩, rfl, by decide +kernel⟩
theorem mv_X0_weighEntry : uvMV yX0_weighEntry RX0 cX0_weighEntry 9 (Option.none : Option Jvm.ClassFile.FieldType) 3 := ⟨⟨tb_in (i := 815) (by decide +kernel) rfl, tb_in (i := 27) (by decide +kernel) rfl, wd_9, tb_in (i := 816) (by decide +kernel) rfl⟩, rfl, by decide +kernel⟩
theorem mv_X0_trace : uvMV yX0_trace RX0 cX0_trace 3 (Option.none : Option Jvm.ClassFile.FieldType) 0 := ⟨⟨tb_in (i := 829) (by decide +kernel) rfl, tb_in (i := 830) (by decide +kernel) rfl, wd_9, tb_in (i := 831) (by decide +kernel) rfl⟩, rfl, by decide +kernel⟩
theorem mv_X0_leastPrice : uvMV yX0_leastPrice RX0 cX0_leastPrice 1 (Option.some Jvm.ClassFile.FieldType.int) 0 := ⟨⟨tb_in (i := 833) (by decide +kernel) rfl, tb_in (i := 834) (by decide +kernel) rfl, wd_9, tb_in (i := 835) (by decide +kernel) rfl⟩, rfl, by decide +kernel⟩
theorem mv_X0_secondPrice : uvMV yX0_secondPrice RX0 cX0_secondPrice 1 (Option.some Jvm.ClassFile.FieldType.int) 0 := ⟨⟨tb_in (i := 853) (by decide +kernel) rfl, tb_in (i := 854) (by decide +kernel) rfl, wd_9, tb_in (i := 855) (by decide +kernel) rfl⟩, rfl, by decide +kernel⟩
theorem mv_X0_mostPrice : uvMV yX0_mostPrice RX0 cX0_mostPrice 1 (Option.some Jvm.ClassFile.FieldType.int) 0 := ⟨⟨tb_in (i := 862) (by decide +kernel) rfl, tb_in (i := 863) (by decide +kernel) rfl, wd_9, tb_in (i := 864) (by decide +kernel) rfl⟩, rfl, by decide +kernel⟩
theorem mv_X0_waysOfLeast : uvMV yX0_waysOfLeast RX0 cX0_waysOfLeast 1 (Option.some Jvm.ClassFile.FieldType.int) 0 := ⟨⟨tb_in (i := 845) (by decide +kernel) rfl, tb_in (i := 846) (by decide +kernel) rfl, wd_9, tb_in (i := 847) (by decide +kernel) rfl⟩, rfl, by decide +kernel⟩
theorem mv_X0_pathFollowers : uvMV yX0_pathFollowers RX0 cX0_pathFollowers 4 (Option.some Jvm.ClassFile.FieldType.int) 1 := ⟨⟨tb_in (i := 874) (by decide +kernel) rfl, tb_in (i := 875) (by decide +kernel) rfl, wd_9, tb_in (i := 876) (by decide +kernel) rfl⟩, rfl, by decide +kernel⟩
theorem mv_X0_pathFits : uvMV yX0_pathFits RX0 cX0_pathFits 4 (Option.some Jvm.ClassFile.FieldType.int) 1 := ⟨⟨tb_in (i := 878) (by decide +kernel) rfl, tb_in (i := 879) (by decide +kernel) rfl, wd_9, tb_in (i := 880) (by decide +kernel) rfl⟩, rfl, by decide +kernel⟩
theorem mv_X0_pathJoints : uvMV yX0_pathJoints RX0 cX0_pathJoints 3 (Option.some Jvm.ClassFile.FieldType.int) 0 := ⟨⟨tb_in (i := 882) (by decide +kernel) rfl, tb_in (i := 883) (by decide +kernel) rfl, wd_9, tb_in (i := 884) (by decide +kernel) rfl⟩, rfl, by decide +kernel⟩
theorem mv_X0_dearestPathJoint : uvMV yX0_dearestPathJoint RX0 cX0_dearestPathJoint 3 (Option.some Jvm.ClassFile.FieldType.int) 0 := ⟨⟨tb_in (i := 886) (by decide +kernel) rfl, tb_in (i := 887) (by decide +kernel) rfl, wd_9, tb_in (i := 888) (by decide +kernel) rfl⟩, rfl, by decide +kernel⟩
theorem mv_X1_begin : uvMV yX1_begin RX1 cX1_begin 1 (Option.none : Option Jvm.ClassFile.FieldType) 0 := ⟨⟨tb_in (i := 730) (by decide +kernel) rfl, tb_in (i := 731) (by decide +kernel) rfl, wd_7, tb_in (i := 732) (by decide +kernel) rfl⟩, rfl, by decide +kernel⟩
theorem mv_X1_add : uvMV yX1_add RX1 cX1_add 2 (Option.none : Option Jvm.ClassFile.FieldType) 1 := ⟨⟨tb_in (i := 751) (by decide +kernel) rfl, tb_in (i := 752) (by decide +kernel) rfl, wd_7, tb_in (i := 753) (by decide +kernel) rfl⟩, rfl, by decide +kernel⟩
theorem mv_X1_miss : uvMV yX1_miss RX1 cX1_miss 1 (Option.none : Option Jvm.ClassFile.FieldType) 0 := ⟨⟨tb_in (i := 756) (by decide +kernel) rfl, tb_in (i := 757) (by decide +kernel) rfl, wd_7, tb_in (i := 758) (by decide +kernel) rfl⟩, rfl, by decide +kernel⟩
theorem mv_X1_isMissing : uvMV yX1_isMissing RX1 cX1_isMissing 1 (Option.some Jvm.ClassFile.FieldType.boolean) 0 := ⟨⟨tb_in (i := 760) (by decide +kernel) rfl, tb_in (i := 761) (by decide +kernel) rfl, wd_7, tb_in (i := 762) (by decide +kernel) rfl⟩, rfl, by decide +kernel⟩
theorem mv_X2_leafOfUnit : uvMV yX2_leafOfUnit RX2 cX2_leafOfUnit 2 (Option.some Jvm.ClassFile.FieldType.int) 1 := ⟨⟨tb_in (i := 673) (by decide +kernel) rfl, tb_in (i := 674) (by decide +kernel) rfl, wd_6, tb_in (i := 675) (by decide +kernel) rfl⟩, rfl, by decide +kernel⟩
theorem mv_X2_leafOfTarget : uvMV yX2_leafOfTarget RX2 cX2_leafOfTarget 2 (Option.some Jvm.ClassFile.FieldType.int) 1 := ⟨⟨tb_in (i := 699) (by decide +kernel) rfl, tb_in (i := 700) (by decide +kernel) rfl, wd_6, tb_in (i := 701) (by decide +kernel) rfl⟩, rfl, by decide +kernel⟩
theorem mv_X2_chooseAll : uvMV yX2_chooseAll RX2 cX2_chooseAll 3 (Option.some Jvm.ClassFile.FieldType.boolean) 1 := ⟨⟨tb_in (i := 805) (by decide +kernel) rfl, tb_in (i := 806) (by decide +kernel) rfl, wd_6, tb_in (i := 807) (by decide +kernel) rfl⟩, rfl, by decide +kernel⟩
theorem mv_X2_choose : uvMV yX2_choose RX2 cX2_choose 3 (Option.some (Jvm.ClassFile.FieldType.object "UnitVoices$Choice")) 2 := ⟨⟨tb_in (i := 717) (by decide +kernel) rfl, tb_in (i := 718) (by decide +kernel) rfl, wd_6, tb_in (i := 719) (by decide +kernel) rfl⟩, rfl, by decide +kernel⟩
theorem mv_X2_findLeaves : uvMV yX2_findLeaves RX2 cX2_findLeaves 2 (Option.none : Option Jvm.ClassFile.FieldType) 0 := ⟨⟨tb_in (i := 722) (by decide +kernel) rfl, tb_in (i := 21) (by decide +kernel) rfl, wd_6, tb_in (i := 723) (by decide +kernel) rfl⟩, rfl, by decide +kernel⟩
theorem mv_X2_chooseFor : uvMV yX2_chooseFor RX2 cX2_chooseFor 8 (Option.none : Option Jvm.ClassFile.FieldType) 2 := ⟨⟨tb_in (i := 727) (by decide +kernel) rfl, tb_in (i := 22) (by decide +kernel) rfl, wd_6, tb_in (i := 728) (by decide +kernel) rfl⟩, rfl, by decide +kernel⟩
theorem mv_X2_climb : uvMV yX2_climb RX2 cX2_climb 7 (Option.none : Option Jvm.ClassFile.FieldType) 4 := ⟨⟨tb_in (i := 736) (by decide +kernel) rfl, tb_in (i := 23) (by decide +kernel) rfl, wd_6, tb_in (i := 737) (by decide +kernel) rfl⟩, rfl, by decide +kernel⟩
theorem mv_X2_gather : uvMV yX2_gather RX2 cX2_gather 6 (Option.none : Option Jvm.ClassFile.FieldType) 4 := ⟨⟨tb_in (i := 740) (by decide +kernel) rfl, tb_in (i := 24) (by decide +kernel) rfl, wd_6, tb_in (i := 741) (by decide +kernel) rfl⟩, rfl, by decide +kernel⟩
theorem mv_X3_ofFit : uvMV yX3_ofFit RX3 cX3_ofFit 6 (Option.some Jvm.ClassFile.FieldType.int) 3 := ⟨⟨tb_in (i := 776) (by decide +kernel) rfl, tb_in (i := 777) (by decide +kernel) rfl, wd_8, tb_in (i := 778) (by decide +kernel) rfl⟩, rfl, by decide +kernel⟩
theorem mv_X3_besidePart : uvMV yX3_besidePart RX3 cX3_besidePart 5 (Option.some Jvm.ClassFile.FieldType.int) 2 := ⟨⟨tb_in (i := 784) (by decide +kernel) rfl, tb_in (i := 25) (by decide +kernel) rfl, wd_8, tb_in (i := 785) (by decide +kernel) rfl⟩, rfl, by decide +kernel⟩
theorem mv_X3_ofJoint : uvMV yX3_ofJoint RX3 cX3_ofJoint 5 (Option.some Jvm.ClassFile.FieldType.int) 2 := ⟨⟨tb_in (i := 793) (by decide +kernel) rfl, tb_in (i := 794) (by decide +kernel) rfl, wd_8, tb_in (i := 795) (by decide +kernel) rfl⟩, rfl, by decide +kernel⟩
theorem mv_X4_add : uvMV yX4_add RX4 cX4_add 4 (Option.none : Option Jvm.ClassFile.FieldType) 3 := ⟨⟨tb_in (i := 597) (by decide +kernel) rfl, tb_in (i := 598) (by decide +kernel) rfl, wd_3, tb_in (i := 599) (by decide +kernel) rfl⟩, rfl, by decide +kernel⟩
theorem mv_X4_become : uvMV yX4_become RX4 cX4_become 3 (Option.none : Option Jvm.ClassFile.FieldType) 1 := ⟨⟨tb_in (i := 639) (by decide +kernel) rfl, tb_in (i := 640) (by decide +kernel) rfl, wd_3, tb_in (i := 641) (by decide +kernel) rfl⟩, rfl, by decide +kernel⟩
theorem mv_X4_leftOf : uvMV yX4_leftOf RX4 cX4_leftOf 2 (Option.some Jvm.ClassFile.FieldType.int) 1 := ⟨⟨tb_in (i := 657) (by decide +kernel) rfl, tb_in (i := 658) (by decide +kernel) rfl, wd_3, tb_in (i := 659) (by decide +kernel) rfl⟩, rfl, by decide +kernel⟩
theorem mv_X4_rightOf : uvMV yX4_rightOf RX4 cX4_rightOf 2 (Option.some Jvm.ClassFile.FieldType.int) 1 := ⟨⟨tb_in (i := 661) (by decide +kernel) rfl, tb_in (i := 662) (by decide +kernel) rfl, wd_3, tb_in (i := 663) (by decide +kernel) rfl⟩, rfl, by decide +kernel⟩
theorem mv_X5_begin : uvMV yX5_begin RX5 cX5_begin 2 (Option.none : Option Jvm.ClassFile.FieldType) 1 := ⟨⟨tb_in (i := 369) (by decide +kernel) rfl, tb_in (i := 370) (by decide +kernel) rfl, wd_10, tb_in (i := 371) (by decide +kernel) rfl⟩, rfl, by decide +kernel⟩
theorem mv_X5_end : uvMV yX5_end RX5 cX5_end 2 (Option.none : Option Jvm.ClassFile.FieldType) 1 := ⟨⟨tb_in (i := 365) (by decide +kernel) rfl, tb_in (i := 366) (by decide +kernel) rfl, wd_10, tb_in (i := 367) (by decide +kernel) rfl⟩, rfl, by decide +kernel⟩
theorem mv_X5_offer : uvMV yX5_offer RX5 cX5_offer 6 (Option.none : Option Jvm.ClassFile.FieldType) 4 := ⟨⟨tb_in (i := 820) (by decide +kernel) rfl, tb_in (i := 821) (by decide +kernel) rfl, wd_10, tb_in (i := 822) (by decide +kernel) rfl⟩, rfl, by decide +kernel⟩
theorem mv_X6_add : uvMV yX6_add RX6 cX6_add 2 (Option.none : Option Jvm.ClassFile.FieldType) 1 := ⟨⟨tb_in (i := 503) (by decide +kernel) rfl, tb_in (i := 504) (by decide +kernel) rfl, wd_5, tb_in (i := 505) (by decide +kernel) rfl⟩, rfl, by decide +kernel⟩
theorem mv_X6_read : uvMV yX6_read RX6 cX6_read 2 (Option.some Jvm.ClassFile.FieldType.int) 0 := ⟨⟨tb_in (i := 515) (by decide +kernel) rfl, tb_in (i := 516) (by decide +kernel) rfl, wd_5, tb_in (i := 517) (by decide +kernel) rfl⟩, rfl, by decide +kernel⟩
theorem mv_X6_readRow : uvMV yX6_readRow RX6 cX6_readRow 3 (Option.none : Option Jvm.ClassFile.FieldType) 0 := ⟨⟨tb_in (i := 528) (by decide +kernel) rfl, tb_in (i := 5) (by decide +kernel) rfl, wd_5, tb_in (i := 529) (by decide +kernel) rfl⟩, rfl, by decide +kernel⟩
theorem mv_X6_readTarget : uvMV yX6_readTarget RX6 cX6_readTarget 4 (Option.none : Option Jvm.ClassFile.FieldType) 1 := ⟨⟨tb_in (i := 590) (by decide +kernel) rfl, tb_in (i := 8) (by decide +kernel) rfl, wd_5, tb_in (i := 591) (by decide +kernel) rfl⟩, rfl, by decide +kernel⟩
theorem mv_X6_readTree : uvMV yX6_readTree RX6 cX6_readTree 1 (Option.none : Option Jvm.ClassFile.FieldType) 0 := ⟨⟨tb_in (i := 602) (by decide +kernel) rfl, tb_in (i := 10) (by decide +kernel) rfl, wd_5, tb_in (i := 603) (by decide +kernel) rfl⟩, rfl, by decide +kernel⟩
theorem mv_X6_readNode : uvMV yX6_readNode RX6 cX6_readNode 6 (Option.some Jvm.ClassFile.FieldType.int) 2 := ⟨⟨tb_in (i := 607) (by decide +kernel) rfl, tb_in (i := 11) (by decide +kernel) rfl, wd_5, tb_in (i := 608) (by decide +kernel) rfl⟩, rfl, by decide +kernel⟩
theorem mv_X6_readBranches : uvMV yX6_readBranches RX6 cX6_readBranches 5 (Option.some Jvm.ClassFile.FieldType.int) 2 := ⟨⟨tb_in (i := 620) (by decide +kernel) rfl, tb_in (i := 12) (by decide +kernel) rfl, wd_5, tb_in (i := 621) (by decide +kernel) rfl⟩, rfl, by decide +kernel⟩
theorem ms_X6_isQuestion : uvMS yX6_isQuestion cX6_isQuestion 1 (Option.some Jvm.ClassFile.FieldType.boolean) 1 := ⟨⟨tb_in (i := 611) (by decide +kernel) rfl, wd_5, tb_in (i := 612) (by decide +kernel) rfl⟩, by decide +kernel⟩
theorem mv_X6_readEnd : uvMV yX6_readEnd RX6 cX6_readEnd 1 (Option.none : Option Jvm.ClassFile.FieldType) 0 := ⟨⟨tb_in (i := 636) (by decide +kernel) rfl, tb_in (i := 15) (by decide +kernel) rfl, wd_5, tb_in (i := 637) (by decide +kernel) rfl⟩, rfl, by decide +kernel⟩
theorem mv_X6_readWord : uvMV yX6_readWord RX6 cX6_readWord 4 (Option.some Jvm.ClassFile.FieldType.boolean) 1 := ⟨⟨tb_in (i := 533) (by decide +kernel) rfl, tb_in (i := 6) (by decide +kernel) rfl, wd_5, tb_in (i := 534) (by decide +kernel) rfl⟩, rfl, by decide +kernel⟩
theorem mv_X6_readFigure : uvMV yX6_readFigure RX6 cX6_readFigure 4 (Option.some Jvm.ClassFile.FieldType.int) 2 := ⟨⟨tb_in (i := 594) (by decide +kernel) rfl, tb_in (i := 9) (by decide +kernel) rfl, wd_5, tb_in (i := 595) (by decide +kernel) rfl⟩, rfl, by decide +kernel⟩
theorem mv_X6_readSign : uvMV yX6_readSign RX6 cX6_readSign 2 (Option.some Jvm.ClassFile.FieldType.boolean) 1 := ⟨⟨tb_in (i := 624) (by decide +kernel) rfl, tb_in (i := 13) (by decide +kernel) rfl, wd_5, tb_in (i := 625) (by decide +kernel) rfl⟩, rfl, by decide +kernel⟩
theorem mv_X6_look : uvMV yX6_look RX6 cX6_look 1 (Option.some Jvm.ClassFile.FieldType.int) 0 := ⟨⟨tb_in (i := 524) (by decide +kernel) rfl, tb_in (i := 4) (by decide +kernel) rfl, wd_5, tb_in (i := 525) (by decide +kernel) rfl⟩, rfl, by decide +kernel⟩
theorem mv_X6_fail : uvMV yX6_fail RX6 cX6_fail 1 (Option.some Jvm.ClassFile.FieldType.int) 0 := ⟨⟨tb_in (i := 547) (by decide +kernel) rfl, tb_in (i := 7) (by decide +kernel) rfl, wd_5, tb_in (i := 548) (by decide +kernel) rfl⟩, rfl, by decide +kernel⟩
theorem mv_X7_removeAll : uvMV yX7_removeAll RX7 cX7_removeAll 1 (Option.none : Option Jvm.ClassFile.FieldType) 0 := ⟨⟨tb_in (i := 519) (by decide +kernel) rfl, tb_in (i := 520) (by decide +kernel) rfl, wd_4, tb_in (i := 521) (by decide +kernel) rfl⟩, rfl, by decide +kernel⟩
theorem mv_X7_addLeaf : uvMV yX7_addLeaf RX7 cX7_addLeaf 3 (Option.some Jvm.ClassFile.FieldType.int) 1 := ⟨⟨tb_in (i := 186) (by decide +kernel) rfl, tb_in (i := 187) (by decide +kernel) rfl, wd_4, tb_in (i := 188) (by decide +kernel) rfl⟩, rfl, by decide +kernel⟩
theorem mv_X7_addQuestion : uvMV yX7_addQuestion RX7 cX7_addQuestion 5 (Option.some Jvm.ClassFile.FieldType.int) 4 := ⟨⟨tb_in (i := 614) (by decide +kernel) rfl, tb_in (i := 615) (by decide +kernel) rfl, wd_4, tb_in (i := 616) (by decide +kernel) rfl⟩, rfl, by decide +kernel⟩
theorem mv_X7_addNode : uvMV yX7_addNode RX7 cX7_addNode 5 (Option.some Jvm.ClassFile.FieldType.int) 3 := ⟨⟨tb_in (i := 191) (by decide +kernel) rfl, tb_in (i := 0) (by decide +kernel) rfl, wd_4, tb_in (i := 192) (by decide +kernel) rfl⟩, rfl, by decide +kernel⟩
theorem mv_X7_putBranches : uvMV yX7_putBranches RX7 cX7_putBranches 4 (Option.none : Option Jvm.ClassFile.FieldType) 3 := ⟨⟨tb_in (i := 627) (by decide +kernel) rfl, tb_in (i := 628) (by decide +kernel) rfl, wd_4, tb_in (i := 629) (by decide +kernel) rfl⟩, rfl, by decide +kernel⟩
theorem mv_X7_become : uvMV yX7_become RX7 cX7_become 3 (Option.none : Option Jvm.ClassFile.FieldType) 1 := ⟨⟨tb_in (i := 644) (by decide +kernel) rfl, tb_in (i := 645) (by decide +kernel) rfl, wd_4, tb_in (i := 646) (by decide +kernel) rfl⟩, rfl, by decide +kernel⟩
theorem mv_X7_leafFor : uvMV yX7_leafFor RX7 cX7_leafFor 8 (Option.some Jvm.ClassFile.FieldType.int) 4 := ⟨⟨tb_in (i := 677) (by decide +kernel) rfl, tb_in (i := 678) (by decide +kernel) rfl, wd_4, tb_in (i := 679) (by decide +kernel) rfl⟩, rfl, by decide +kernel⟩
theorem mv_X7_saysYes : uvMV yX7_saysYes RX7 cX7_saysYes 6 (Option.some Jvm.ClassFile.FieldType.boolean) 5 := ⟨⟨tb_in (i := 682) (by decide +kernel) rfl, tb_in (i := 18) (by decide +kernel) rfl, wd_4, tb_in (i := 683) (by decide +kernel) rfl⟩, rfl, by decide +kernel⟩
theorem mv_X7_liesUnder : uvMV yX7_liesUnder RX7 cX7_liesUnder 5 (Option.some Jvm.ClassFile.FieldType.boolean) 2 := ⟨⟨tb_in (i := 743) (by decide +kernel) rfl, tb_in (i := 744) (by decide +kernel) rfl, wd_4, tb_in (i := 745) (by decide +kernel) rfl⟩, rfl, by decide +kernel⟩
theorem mv_X7_nodeAbove : uvMV yX7_nodeAbove RX7 cX7_nodeAbove 2 (Option.some Jvm.ClassFile.FieldType.int) 1 := ⟨⟨tb_in (i := 747) (by decide +kernel) rfl, tb_in (i := 748) (by decide +kernel) rfl, wd_4, tb_in (i := 749) (by decide +kernel) rfl⟩, rfl, by decide +kernel⟩
theorem mv_X7_numberOf : uvMV yX7_numberOf RX7 cX7_numberOf 2 (Option.some Jvm.ClassFile.FieldType.int) 1 := ⟨⟨tb_in (i := 685) (by decide +kernel) rfl, tb_in (i := 686) (by decide +kernel) rfl, wd_4, tb_in (i := 687) (by decide +kernel) rfl⟩, rfl, by decide +kernel⟩
theorem mv_X7_isNode : uvMV yX7_isNode RX7 cX7_isNode 2 (Option.some Jvm.ClassFile.FieldType.boolean) 1 := ⟨⟨tb_in (i := 632) (by decide +kernel) rfl, tb_in (i := 14) (by decide +kernel) rfl, wd_4, tb_in (i := 633) (by decide +kernel) rfl⟩, rfl, by decide +kernel⟩
theorem mv_X8_removeAll : uvMV yX8_removeAll RX8 cX8_removeAll 2 (Option.none : Option Jvm.ClassFile.FieldType) 0 := ⟨⟨tb_in (i := 95) (by decide +kernel) rfl, tb_in (i := 96) (by decide +kernel) rfl, wd_2, tb_in (i := 97) (by decide +kernel) rfl⟩, rfl, by decide +kernel⟩
theorem mv_X8_add : uvMV yX8_add RX8 cX8_add 9 (Option.some Jvm.ClassFile.FieldType.int) 6 := ⟨⟨tb_in (i := 455) (by decide +kernel) rfl, tb_in (i := 456) (by decide +kernel) rfl, wd_2, tb_in (i := 457) (by decide +kernel) rfl⟩, rfl, by decide +kernel⟩
theorem mv_X8_putRight : uvMV yX8_putRight RX8 cX8_putRight 3 (Option.none : Option Jvm.ClassFile.FieldType) 2 := ⟨⟨tb_in (i := 474) (by decide +kernel) rfl, tb_in (i := 475) (by decide +kernel) rfl, wd_2, tb_in (i := 476) (by decide +kernel) rfl⟩, rfl, by decide +kernel⟩
theorem mv_X9_unit : uvMV yX9_unit RX9 cX9_unit 7 (Option.some Jvm.ClassFile.FieldType.int) 6 := ⟨⟨tb_in (i := 434) (by decide +kernel) rfl, tb_in (i := 435) (by decide +kernel) rfl, wd_1, tb_in (i := 436) (by decide +kernel) rfl⟩, rfl, by decide +kernel⟩
theorem mv_X9_records : uvMV yX9_records RX9 cX9_records 12 (Option.some Jvm.ClassFile.FieldType.int) 3 := ⟨⟨tb_in (i := 460) (by decide +kernel) rfl, tb_in (i := 461) (by decide +kernel) rfl, wd_1, tb_in (i := 462) (by decide +kernel) rfl⟩, rfl, by decide +kernel⟩
theorem mv_X9_of : uvMV yX9_of RX9 cX9_of 3 (Option.some Jvm.ClassFile.FieldType.int) 2 := ⟨⟨tb_in (i := 478) (by decide +kernel) rfl, tb_in (i := 479) (by decide +kernel) rfl, wd_1, tb_in (i := 480) (by decide +kernel) rfl⟩, rfl, by decide +kernel⟩
theorem mv_X9_empties : uvMV yX9_empties RX9 cX9_empties 2 (Option.some Jvm.ClassFile.FieldType.int) 0 := ⟨⟨tb_in (i := 486) (by decide +kernel) rfl, tb_in (i := 487) (by decide +kernel) rfl, wd_1, tb_in (i := 488) (by decide +kernel) rfl⟩, rfl, by decide +kernel⟩
theorem mv_X9_other : uvMV yX9_other RX9 cX9_other 4 (Option.some Jvm.ClassFile.FieldType.int) 2 := ⟨⟨tb_in (i := 491) (by decide +kernel) rfl, tb_in (i := 492) (by decide +kernel) rfl, wd_1, tb_in (i := 493) (by decide +kernel) rfl⟩, rfl, by decide +kernel⟩
theorem mv_X9_fitter : uvMV yX9_fitter RX9 cX9_fitter 3 (Option.some Jvm.ClassFile.FieldType.int) 1 := ⟨⟨tb_in (i := 495) (by decide +kernel) rfl, tb_in (i := 496) (by decide +kernel) rfl, wd_1, tb_in (i := 497) (by decide +kernel) rfl⟩, rfl, by decide +kernel⟩
theorem mv_X9_type : uvMV yX9_type RX9 cX9_type 2 (Option.some Jvm.ClassFile.FieldType.int) 1 := ⟨⟨tb_in (i := 499) (by decide +kernel) rfl, tb_in (i := 500) (by decide +kernel) rfl, wd_1, tb_in (i := 501) (by decide +kernel) rfl⟩, rfl, by decide +kernel⟩
theorem mv_X9_clear : uvMV yX9_clear RX9 cX9_clear 2 (Option.some Jvm.ClassFile.FieldType.int) 0 := ⟨⟨tb_in (i := 507) (by decide +kernel) rfl, tb_in (i := 508) (by decide +kernel) rfl, wd_1, tb_in (i := 509) (by decide +kernel) rfl⟩, rfl, by decide +kernel⟩
theorem mv_X9_reads : uvMV yX9_reads RX9 cX9_reads 2 (Option.some Jvm.ClassFile.FieldType.int) 0 := ⟨⟨tb_in (i := 511) (by decide +kernel) rfl, tb_in (i := 512) (by decide +kernel) rfl, wd_1, tb_in (i := 513) (by decide +kernel) rfl⟩, rfl, by decide +kernel⟩
theorem mv_X9_target : uvMV yX9_target RX9 cX9_target 3 (Option.some Jvm.ClassFile.FieldType.int) 2 := ⟨⟨tb_in (i := 649) (by decide +kernel) rfl, tb_in (i := 650) (by decide +kernel) rfl, wd_1, tb_in (i := 651) (by decide +kernel) rfl⟩, rfl, by decide +kernel⟩
theorem mv_X9_tree : uvMV yX9_tree RX9 cX9_tree 2 (Option.some Jvm.ClassFile.FieldType.int) 1 := ⟨⟨tb_in (i := 665) (by decide +kernel) rfl, tb_in (i := 666) (by decide +kernel) rfl, wd_1, tb_in (i := 667) (by decide +kernel) rfl⟩, rfl, by decide +kernel⟩
theorem mv_X9_leaf : uvMV yX9_leaf RX9 cX9_leaf 3 (Option.some Jvm.ClassFile.FieldType.int) 2 := ⟨⟨tb_in (i := 695) (by decide +kernel) rfl, tb_in (i := 696) (by decide +kernel) rfl, wd_1, tb_in (i := 697) (by decide +kernel) rfl⟩, rfl, by decide +kernel⟩
theorem mv_X9_choice : uvMV yX9_choice RX9 cX9_choice 4 (Option.some Jvm.ClassFile.FieldType.int) 2 := ⟨⟨tb_in (i := 705) (by decide +kernel) rfl, tb_in (i := 706) (by decide +kernel) rfl, wd_1, tb_in (i := 707) (by decide +kernel) rfl⟩, rfl, by decide +kernel⟩
theorem mv_X9_steps : uvMV yX9_steps RX9 cX9_steps 2 (Option.some Jvm.ClassFile.FieldType.int) 1 := ⟨⟨tb_in (i := 764) (by decide +kernel) rfl, tb_in (i := 765) (by decide +kernel) rfl, wd_1, tb_in (i := 766) (by decide +kernel) rfl⟩, rfl, by decide +kernel⟩
theorem mv_X9_tried : uvMV yX9_tried RX9 cX9_tried 2 (Option.some Jvm.ClassFile.FieldType.int) 1 := ⟨⟨tb_in (i := 768) (by decide +kernel) rfl, tb_in (i := 769) (by decide +kernel) rfl, wd_1, tb_in (i := 770) (by decide +kernel) rfl⟩, rfl, by decide +kernel⟩
theorem mv_X9_fit : uvMV yX9_fit RX9 cX9_fit 3 (Option.some Jvm.ClassFile.FieldType.int) 2 := ⟨⟨tb_in (i := 772) (by decide +kernel) rfl, tb_in (i := 773) (by decide +kernel) rfl, wd_1, tb_in (i := 774) (by decide +kernel) rfl⟩, rfl, by decide +kernel⟩
theorem mv_X9_joint : uvMV yX9_joint RX9 cX9_joint 3 (Option.some Jvm.ClassFile.FieldType.int) 2 := ⟨⟨tb_in (i := 789) (by decide +kernel) rfl, tb_in (i := 790) (by decide +kernel) rfl, wd_1, tb_in (i := 791) (by decide +kernel) rfl⟩, rfl, by decide +kernel⟩
theorem mv_X9_cost : uvMV yX9_cost RX9 cX9_cost 1 (Option.some Jvm.ClassFile.FieldType.int) 0 := ⟨⟨tb_in (i := 797) (by decide +kernel) rfl, tb_in (i := 798) (by decide +kernel) rfl, wd_1, tb_in (i := 799) (by decide +kernel) rfl⟩, rfl, by decide +kernel⟩
theorem mv_X9_chain : uvMV yX9_chain RX9 cX9_chain 2 (Option.some Jvm.ClassFile.FieldType.int) 1 := ⟨⟨tb_in (i := 837) (by decide +kernel) rfl, tb_in (i := 838) (by decide +kernel) rfl, wd_1, tb_in (i := 839) (by decide +kernel) rfl⟩, rfl, by decide +kernel⟩
theorem mv_X9_ways : uvMV yX9_ways RX9 cX9_ways 1 (Option.some Jvm.ClassFile.FieldType.int) 0 := ⟨⟨tb_in (i := 841) (by decide +kernel) rfl, tb_in (i := 842) (by decide +kernel) rfl, wd_1, tb_in (i := 843) (by decide +kernel) rfl⟩, rfl, by decide +kernel⟩
theorem mv_X9_next : uvMV yX9_next RX9 cX9_next 1 (Option.some Jvm.ClassFile.FieldType.int) 0 := ⟨⟨tb_in (i := 849) (by decide +kernel) rfl, tb_in (i := 850) (by decide +kernel) rfl, wd_1, tb_in (i := 851) (by decide +kernel) rfl⟩, rfl, by decide +kernel⟩
theorem mv_X9_dearest : uvMV yX9_dearest RX9 cX9_dearest 1 (Option.some Jvm.ClassFile.FieldType.int) 0 := ⟨⟨tb_in (i := 858) (by decide +kernel) rfl, tb_in (i := 859) (by decide +kernel) rfl, wd_1, tb_in (i := 860) (by decide +kernel) rfl⟩, rfl, by decide +kernel⟩
theorem mv_X9_without : uvMV yX9_without RX9 cX9_without 2 (Option.some Jvm.ClassFile.FieldType.int) 1 := ⟨⟨tb_in (i := 866) (by decide +kernel) rfl, tb_in (i := 867) (by decide +kernel) rfl, wd_1, tb_in (i := 868) (by decide +kernel) rfl⟩, rfl, by decide +kernel⟩
theorem mv_X9_about : uvMV yX9_about RX9 cX9_about 2 (Option.some Jvm.ClassFile.FieldType.int) 1 := ⟨⟨tb_in (i := 870) (by decide +kernel) rfl, tb_in (i := 871) (by decide +kernel) rfl, wd_1, tb_in (i := 872) (by decide +kernel) rfl⟩, rfl, by decide +kernel⟩
theorem mv_X9_cheapest : uvMV yX9_cheapest RX9 cX9_cheapest 5 (Option.some Jvm.ClassFile.FieldType.int) 1 := ⟨⟨tb_in (i := 891) (by decide +kernel) rfl, tb_in (i := 892) (by decide +kernel) rfl, wd_1, tb_in (i := 893) (by decide +kernel) rfl⟩, rfl, by decide +kernel⟩
theorem mv_X9_told : uvMV yX9_told RX9 cX9_told 2 (Option.some Jvm.ClassFile.FieldType.int) 1 := ⟨⟨tb_in (i := 896) (by decide +kernel) rfl, tb_in (i := 897) (by decide +kernel) rfl, wd_1, tb_in (i := 898) (by decide +kernel) rfl⟩, rfl, by decide +kernel⟩
theorem mv_X9_digest : uvMV yX9_digest RX9 cX9_digest 5 (Option.some Jvm.ClassFile.FieldType.long) 0 := ⟨⟨tb_in (i := 900) (by decide +kernel) rfl, tb_in (i := 901) (by decide +kernel) rfl, wd_1, tb_in (i := 902) (by decide +kernel) rfl⟩, rfl, by decide +kernel⟩
theorem mv_X9_findChain : uvMV yX9_findChain RX9 cX9_findChain 2 (Option.some Jvm.ClassFile.FieldType.boolean) 1 := ⟨⟨tb_in (i := 802) (by decide +kernel) rfl, tb_in (i := 26) (by decide +kernel) rfl, wd_1, tb_in (i := 803) (by decide +kernel) rfl⟩, rfl, by decide +kernel⟩
theorem mv_X9_emptyLeaves : uvMV yX9_emptyLeaves RX9 cX9_emptyLeaves 4 (Option.some Jvm.ClassFile.FieldType.int) 0 := ⟨⟨tb_in (i := 670) (by decide +kernel) rfl, tb_in (i := 17) (by decide +kernel) rfl, wd_1, tb_in (i := 671) (by decide +kernel) rfl⟩, rfl, by decide +kernel⟩
theorem mv_X9_isUnit : uvMV yX9_isUnit RX9 cX9_isUnit 2 (Option.some Jvm.ClassFile.FieldType.boolean) 1 := ⟨⟨tb_in (i := 483) (by decide +kernel) rfl, tb_in (i := 3) (by decide +kernel) rfl, wd_1, tb_in (i := 484) (by decide +kernel) rfl⟩, rfl, by decide +kernel⟩
theorem mv_X9_isTarget : uvMV yX9_isTarget RX9 cX9_isTarget 2 (Option.some Jvm.ClassFile.FieldType.boolean) 1 := ⟨⟨tb_in (i := 654) (by decide +kernel) rfl, tb_in (i := 16) (by decide +kernel) rfl, wd_1, tb_in (i := 655) (by decide +kernel) rfl⟩, rfl, by decide +kernel⟩
theorem mv_X9_isPlace : uvMV yX9_isPlace RX9 cX9_isPlace 2 (Option.some Jvm.ClassFile.FieldType.boolean) 1 := ⟨⟨tb_in (i := 710) (by decide +kernel) rfl, tb_in (i := 19) (by decide +kernel) rfl, wd_1, tb_in (i := 711) (by decide +kernel) rfl⟩, rfl, by decide +kernel⟩
theorem ms_X9_isSound : uvMS yX9_isSound cX9_isSound 1 (Option.some Jvm.ClassFile.FieldType.boolean) 1 := ⟨⟨tb_in (i := 438) (by decide +kernel) rfl, wd_1, tb_in (i := 439) (by decide +kernel) rfl⟩, by decide +kernel⟩
theorem ms_X9_isTake : uvMS yX9_isTake cX9_isTake 1 (Option.some Jvm.ClassFile.FieldType.boolean) 1 := ⟨⟨tb_in (i := 444) (by decide +kernel) rfl, wd_1, tb_in (i := 445) (by decide +kernel) rfl⟩, by decide +kernel⟩
theorem ms_X9_within : uvMS yX9_within cX9_within 3 (Option.some Jvm.ClassFile.FieldType.boolean) 3 := ⟨⟨tb_in (i := 441) (by decide +kernel) rfl, wd_1, tb_in (i := 442) (by decide +kernel) rfl⟩, by decide +kernel⟩
theorem mv_X9_bad : uvMV yX9_bad RX9 cX9_bad 1 (Option.some Jvm.ClassFile.FieldType.int) 0 := ⟨⟨tb_in (i := 448) (by decide +kernel) rfl, tb_in (i := 1) (by decide +kernel) rfl, wd_1, tb_in (i := 449) (by decide +kernel) rfl⟩, rfl, by decide +kernel⟩
theorem mv_X9_no : uvMV yX9_no RX9 cX9_no 1 (Option.some Jvm.ClassFile.FieldType.int) 0 := ⟨⟨tb_in (i := 714) (by decide +kernel) rfl, tb_in (i := 20) (by decide +kernel) rfl, wd_1, tb_in (i := 715) (by decide +kernel) rfl⟩, rfl, by decide +kernel⟩
theorem mv_X9_full : uvMV yX9_full RX9 cX9_full 1 (Option.some Jvm.ClassFile.FieldType.int) 0 := ⟨⟨tb_in (i := 452) (by decide +kernel) rfl, tb_in (i := 2) (by decide +kernel) rfl, wd_1, tb_in (i := 453) (by decide +kernel) rfl⟩, rfl, by decide +kernel⟩
theorem ms_X10_in : uvMS yX10_in cX10_in 6 (Option.some Jvm.ClassFile.FieldType.boolean) 3 := ⟨⟨tb_in (i := 1045) (by decide +kernel) rfl, wd_12, tb_in (i := 1046) (by decide +kernel) rfl⟩, by decide +kernel⟩
theorem mv_X10_bad : uvMV yX10_bad RX10 cX10_bad 2 (Option.some Jvm.ClassFile.FieldType.int) 1 := ⟨⟨tb_in (i := 1052) (by decide +kernel) rfl, tb_in (i := 28) (by decide +kernel) rfl, wd_12, tb_in (i := 1053) (by decide +kernel) rfl⟩, rfl, by decide +kernel⟩
theorem mv_X10_no : uvMV yX10_no RX10 cX10_no 1 (Option.some Jvm.ClassFile.FieldType.int) 0 := ⟨⟨tb_in (i := 1210) (by decide +kernel) rfl, tb_in (i := 51) (by decide +kernel) rfl, wd_12, tb_in (i := 1211) (by decide +kernel) rfl⟩, rfl, by decide +kernel⟩
theorem mv_X10_full : uvMV yX10_full RX10 cX10_full 1 (Option.some Jvm.ClassFile.FieldType.int) 0 := ⟨⟨tb_in (i := 1056) (by decide +kernel) rfl, tb_in (i := 29) (by decide +kernel) rfl, wd_12, tb_in (i := 1057) (by decide +kernel) rfl⟩, rfl, by decide +kernel⟩
theorem ms_X10_far : uvMS yX10_far cX10_far 2 (Option.some Jvm.ClassFile.FieldType.int) 2 := ⟨⟨tb_in (i := 1229) (by decide +kernel) rfl, wd_12, tb_in (i := 1230) (by decide +kernel) rfl⟩, by decide +kernel⟩
theorem mv_X10_at : uvMV yX10_at RX10 cX10_at 3 (Option.some Jvm.ClassFile.FieldType.int) 2 := ⟨⟨tb_in (i := 1072) (by decide +kernel) rfl, tb_in (i := 31) (by decide +kernel) rfl, wd_12, tb_in (i := 1073) (by decide +kernel) rfl⟩, rfl, by decide +kernel⟩
theorem mv_X10_isUnit : uvMV yX10_isUnit RX10 cX10_isUnit 2 (Option.some Jvm.ClassFile.FieldType.boolean) 1 := ⟨⟨tb_in (i := 1084) (by decide +kernel) rfl, tb_in (i := 32) (by decide +kernel) rfl, wd_12, tb_in (i := 1085) (by decide +kernel) rfl⟩, rfl, by decide +kernel⟩
theorem ms_X10_isSound : uvMS yX10_isSound cX10_isSound 1 (Option.some Jvm.ClassFile.FieldType.boolean) 1 := ⟨⟨tb_in (i := 1041) (by decide +kernel) rfl, wd_12, tb_in (i := 1042) (by decide +kernel) rfl⟩, by decide +kernel⟩
theorem mv_X10_lays : uvMV yX10_lays RX10 cX10_lays 8 (Option.none : Option Jvm.ClassFile.FieldType) 6 := ⟨⟨tb_in (i := 1060) (by decide +kernel) rfl, tb_in (i := 30) (by decide +kernel) rfl, wd_12, tb_in (i := 1061) (by decide +kernel) rfl⟩, rfl, by decide +kernel⟩
theorem mv_X10_unit : uvMV yX10_unit RX10 cX10_unit 7 (Option.some Jvm.ClassFile.FieldType.int) 6 := ⟨⟨tb_in (i := 1037) (by decide +kernel) rfl, tb_in (i := 1038) (by decide +kernel) rfl, wd_12, tb_in (i := 1039) (by decide +kernel) rfl⟩, rfl, by decide +kernel⟩
theorem mv_X10_records : uvMV yX10_records RX10 cX10_records 9 (Option.some Jvm.ClassFile.FieldType.int) 3 := ⟨⟨tb_in (i := 1063) (by decide +kernel) rfl, tb_in (i := 1064) (by decide +kernel) rfl, wd_12, tb_in (i := 1065) (by decide +kernel) rfl⟩, rfl, by decide +kernel⟩
theorem mv_X10_nextOf : uvMV yX10_nextOf RX10 cX10_nextOf 3 (Option.some Jvm.ClassFile.FieldType.int) 1 := ⟨⟨tb_in (i := 1088) (by decide +kernel) rfl, tb_in (i := 33) (by decide +kernel) rfl, wd_12, tb_in (i := 1089) (by decide +kernel) rfl⟩, rfl, by decide +kernel⟩
theorem mv_X10_of : uvMV yX10_of RX10 cX10_of 3 (Option.some Jvm.ClassFile.FieldType.int) 2 := ⟨⟨tb_in (i := 1079) (by decide +kernel) rfl, tb_in (i := 1080) (by decide +kernel) rfl, wd_12, tb_in (i := 1081) (by decide +kernel) rfl⟩, rfl, by decide +kernel⟩
theorem mv_X10_empties : uvMV yX10_empties RX10 cX10_empties 2 (Option.some Jvm.ClassFile.FieldType.int) 0 := ⟨⟨tb_in (i := 1091) (by decide +kernel) rfl, tb_in (i := 1092) (by decide +kernel) rfl, wd_12, tb_in (i := 1093) (by decide +kernel) rfl⟩, rfl, by decide +kernel⟩
theorem mv_X10_other : uvMV yX10_other RX10 cX10_other 4 (Option.some Jvm.ClassFile.FieldType.int) 2 := ⟨⟨tb_in (i := 1095) (by decide +kernel) rfl, tb_in (i := 1096) (by decide +kernel) rfl, wd_12, tb_in (i := 1097) (by decide +kernel) rfl⟩, rfl, by decide +kernel⟩
theorem mv_X10_fitter : uvMV yX10_fitter RX10 cX10_fitter 3 (Option.some Jvm.ClassFile.FieldType.int) 1 := ⟨⟨tb_in (i := 1099) (by decide +kernel) rfl, tb_in (i := 1100) (by decide +kernel) rfl, wd_12, tb_in (i := 1101) (by decide +kernel) rfl⟩, rfl, by decide +kernel⟩
theorem mv_X10_type : uvMV yX10_type RX10 cX10_type 2 (Option.some Jvm.ClassFile.FieldType.int) 1 := ⟨⟨tb_in (i := 1104) (by decide +kernel) rfl, tb_in (i := 1105) (by decide +kernel) rfl, wd_12, tb_in (i := 1106) (by decide +kernel) rfl⟩, rfl, by decide +kernel⟩
theorem mv_X10_clear : uvMV yX10_clear RX10 cX10_clear 2 (Option.some Jvm.ClassFile.FieldType.int) 0 := ⟨⟨tb_in (i := 1109) (by decide +kernel) rfl, tb_in (i := 1110) (by decide +kernel) rfl, wd_12, tb_in (i := 1111) (by decide +kernel) rfl⟩, rfl, by decide +kernel⟩
theorem mv_X10_here : uvMV yX10_here RX10 cX10_here 1 (Option.some Jvm.ClassFile.FieldType.int) 0 := ⟨⟨tb_in (i := 1122) (by decide +kernel) rfl, tb_in (i := 35) (by decide +kernel) rfl, wd_12, tb_in (i := 1123) (by decide +kernel) rfl⟩, rfl, by decide +kernel⟩
theorem mv_X10_takes : uvMV yX10_takes RX10 cX10_takes 4 (Option.some Jvm.ClassFile.FieldType.int) 2 := ⟨⟨tb_in (i := 1133) (by decide +kernel) rfl, tb_in (i := 37) (by decide +kernel) rfl, wd_12, tb_in (i := 1134) (by decide +kernel) rfl⟩, rfl, by decide +kernel⟩
theorem ms_X10_letterOf : uvMS yX10_letterOf cX10_letterOf 2 (Option.some Jvm.ClassFile.FieldType.int) 2 := ⟨⟨tb_in (i := 1125) (by decide +kernel) rfl, wd_12, tb_in (i := 1126) (by decide +kernel) rfl⟩, by decide +kernel⟩
theorem mv_X10_takesWord : uvMV yX10_takesWord RX10 cX10_takesWord 5 (Option.some Jvm.ClassFile.FieldType.int) 0 := ⟨⟨tb_in (i := 1118) (by decide +kernel) rfl, tb_in (i := 34) (by decide +kernel) rfl, wd_12, tb_in (i := 1119) (by decide +kernel) rfl⟩, rfl, by decide +kernel⟩
theorem mv_X10_readsRow : uvMV yX10_readsRow RX10 cX10_readsRow 5 (Option.some Jvm.ClassFile.FieldType.int) 0 := ⟨⟨tb_in (i := 1129) (by decide +kernel) rfl, tb_in (i := 36) (by decide +kernel) rfl, wd_12, tb_in (i := 1130) (by decide +kernel) rfl⟩, rfl, by decide +kernel⟩
theorem ms_X10_questionOf : uvMS yX10_questionOf cX10_questionOf 1 (Option.some Jvm.ClassFile.FieldType.int) 1 := ⟨⟨tb_in (i := 1140) (by decide +kernel) rfl, wd_12, tb_in (i := 1141) (by decide +kernel) rfl⟩, by decide +kernel⟩
theorem mv_X10_hangs : uvMV yX10_hangs RX10 cX10_hangs 3 (Option.none : Option Jvm.ClassFile.FieldType) 2 := ⟨⟨tb_in (i := 1144) (by decide +kernel) rfl, tb_in (i := 39) (by decide +kernel) rfl, wd_12, tb_in (i := 1145) (by decide +kernel) rfl⟩, rfl, by decide +kernel⟩
theorem mv_X10_readsTree : uvMV yX10_readsTree RX10 cX10_readsTree 7 (Option.some Jvm.ClassFile.FieldType.int) 0 := ⟨⟨tb_in (i := 1137) (by decide +kernel) rfl, tb_in (i := 38) (by decide +kernel) rfl, wd_12, tb_in (i := 1138) (by decide +kernel) rfl⟩, rfl, by decide +kernel⟩
theorem mv_X10_reads : uvMV yX10_reads RX10 cX10_reads 5 (Option.some Jvm.ClassFile.FieldType.int) 0 := ⟨⟨tb_in (i := 1113) (by decide +kernel) rfl, tb_in (i := 1114) (by decide +kernel) rfl, wd_12, tb_in (i := 1115) (by decide +kernel) rfl⟩, rfl, by decide +kernel⟩
theorem mv_X10_isTarget : uvMV yX10_isTarget RX10 cX10_isTarget 2 (Option.some Jvm.ClassFile.FieldType.boolean) 1 := ⟨⟨tb_in (i := 1152) (by decide +kernel) rfl, tb_in (i := 40) (by decide +kernel) rfl, wd_12, tb_in (i := 1153) (by decide +kernel) rfl⟩, rfl, by decide +kernel⟩
theorem mv_X10_targetLeft : uvMV yX10_targetLeft RX10 cX10_targetLeft 2 (Option.some Jvm.ClassFile.FieldType.int) 1 := ⟨⟨tb_in (i := 1156) (by decide +kernel) rfl, tb_in (i := 41) (by decide +kernel) rfl, wd_12, tb_in (i := 1157) (by decide +kernel) rfl⟩, rfl, by decide +kernel⟩
theorem mv_X10_targetRight : uvMV yX10_targetRight RX10 cX10_targetRight 2 (Option.some Jvm.ClassFile.FieldType.int) 1 := ⟨⟨tb_in (i := 1160) (by decide +kernel) rfl, tb_in (i := 42) (by decide +kernel) rfl, wd_12, tb_in (i := 1161) (by decide +kernel) rfl⟩, rfl, by decide +kernel⟩
theorem mv_X10_target : uvMV yX10_target RX10 cX10_target 3 (Option.some Jvm.ClassFile.FieldType.int) 2 := ⟨⟨tb_in (i := 1147) (by decide +kernel) rfl, tb_in (i := 1148) (by decide +kernel) rfl, wd_12, tb_in (i := 1149) (by decide +kernel) rfl⟩, rfl, by decide +kernel⟩
theorem mv_X10_answers : uvMV yX10_answers RX10 cX10_answers 7 (Option.some Jvm.ClassFile.FieldType.boolean) 5 := ⟨⟨tb_in (i := 1181) (by decide +kernel) rfl, tb_in (i := 46) (by decide +kernel) rfl, wd_12, tb_in (i := 1182) (by decide +kernel) rfl⟩, rfl, by decide +kernel⟩
theorem mv_X10_unitAnswers : uvMV yX10_unitAnswers RX10 cX10_unitAnswers 3 (Option.some Jvm.ClassFile.FieldType.boolean) 2 := ⟨⟨tb_in (i := 1177) (by decide +kernel) rfl, tb_in (i := 45) (by decide +kernel) rfl, wd_12, tb_in (i := 1178) (by decide +kernel) rfl⟩, rfl, by decide +kernel⟩
theorem mv_X10_targetAnswers : uvMV yX10_targetAnswers RX10 cX10_targetAnswers 3 (Option.some Jvm.ClassFile.FieldType.boolean) 2 := ⟨⟨tb_in (i := 1185) (by decide +kernel) rfl, tb_in (i := 47) (by decide +kernel) rfl, wd_12, tb_in (i := 1186) (by decide +kernel) rfl⟩, rfl, by decide +kernel⟩
theorem mv_X10_leafOf : uvMV yX10_leafOf RX10 cX10_leafOf 5 (Option.some Jvm.ClassFile.FieldType.int) 2 := ⟨⟨tb_in (i := 1173) (by decide +kernel) rfl, tb_in (i := 44) (by decide +kernel) rfl, wd_12, tb_in (i := 1174) (by decide +kernel) rfl⟩, rfl, by decide +kernel⟩
theorem mv_X10_emptyLeaves : uvMV yX10_emptyLeaves RX10 cX10_emptyLeaves 5 (Option.some Jvm.ClassFile.FieldType.int) 0 := ⟨⟨tb_in (i := 1169) (by decide +kernel) rfl, tb_in (i := 43) (by decide +kernel) rfl, wd_12, tb_in (i := 1170) (by decide +kernel) rfl⟩, rfl, by decide +kernel⟩
theorem mv_X10_tree : uvMV yX10_tree RX10 cX10_tree 2 (Option.some Jvm.ClassFile.FieldType.int) 1 := ⟨⟨tb_in (i := 1163) (by decide +kernel) rfl, tb_in (i := 1164) (by decide +kernel) rfl, wd_12, tb_in (i := 1165) (by decide +kernel) rfl⟩, rfl, by decide +kernel⟩
theorem mv_X10_leaf : uvMV yX10_leaf RX10 cX10_leaf 3 (Option.some Jvm.ClassFile.FieldType.int) 2 := ⟨⟨tb_in (i := 1188) (by decide +kernel) rfl, tb_in (i := 1189) (by decide +kernel) rfl, wd_12, tb_in (i := 1190) (by decide +kernel) rfl⟩, rfl, by decide +kernel⟩
theorem mv_X10_wayLong : uvMV yX10_wayLong RX10 cX10_wayLong 4 (Option.some Jvm.ClassFile.FieldType.int) 1 := ⟨⟨tb_in (i := 1202) (by decide +kernel) rfl, tb_in (i := 49) (by decide +kernel) rfl, wd_12, tb_in (i := 1203) (by decide +kernel) rfl⟩, rfl, by decide +kernel⟩
theorem mv_X10_goesAlong : uvMV yX10_goesAlong RX10 cX10_goesAlong 5 (Option.some Jvm.ClassFile.FieldType.int) 2 := ⟨⟨tb_in (i := 1206) (by decide +kernel) rfl, tb_in (i := 50) (by decide +kernel) rfl, wd_12, tb_in (i := 1207) (by decide +kernel) rfl⟩, rfl, by decide +kernel⟩
theorem mv_X10_chooses : uvMV yX10_chooses RX10 cX10_chooses 9 (Option.some Jvm.ClassFile.FieldType.boolean) 1 := ⟨⟨tb_in (i := 1198) (by decide +kernel) rfl, tb_in (i := 48) (by decide +kernel) rfl, wd_12, tb_in (i := 1199) (by decide +kernel) rfl⟩, rfl, by decide +kernel⟩
theorem mv_X10_choice : uvMV yX10_choice RX10 cX10_choice 3 (Option.some Jvm.ClassFile.FieldType.int) 2 := ⟨⟨tb_in (i := 1192) (by decide +kernel) rfl, tb_in (i := 1193) (by decide +kernel) rfl, wd_12, tb_in (i := 1194) (by decide +kernel) rfl⟩, rfl, by decide +kernel⟩
theorem mv_X10_steps : uvMV yX10_steps RX10 cX10_steps 2 (Option.some Jvm.ClassFile.FieldType.int) 1 := ⟨⟨tb_in (i := 1213) (by decide +kernel) rfl, tb_in (i := 1214) (by decide +kernel) rfl, wd_12, tb_in (i := 1215) (by decide +kernel) rfl⟩, rfl, by decide +kernel⟩
theorem mv_X10_tried : uvMV yX10_tried RX10 cX10_tried 3 (Option.some Jvm.ClassFile.FieldType.int) 1 := ⟨⟨tb_in (i := 1217) (by decide +kernel) rfl, tb_in (i := 1218) (by decide +kernel) rfl, wd_12, tb_in (i := 1219) (by decide +kernel) rfl⟩, rfl, by decide +kernel⟩
theorem mv_X10_fitAs : uvMV yX10_fitAs RX10 cX10_fitAs 7 (Option.some Jvm.ClassFile.FieldType.int) 3 := ⟨⟨tb_in (i := 1226) (by decide +kernel) rfl, tb_in (i := 52) (by decide +kernel) rfl, wd_12, tb_in (i := 1227) (by decide +kernel) rfl⟩, rfl, by decide +kernel⟩
theorem mv_X10_fit : uvMV yX10_fit RX10 cX10_fit 3 (Option.some Jvm.ClassFile.FieldType.int) 2 := ⟨⟨tb_in (i := 1221) (by decide +kernel) rfl, tb_in (i := 1222) (by decide +kernel) rfl, wd_12, tb_in (i := 1223) (by decide +kernel) rfl⟩, rfl, by decide +kernel⟩
theorem mv_X10_jointOf : uvMV yX10_jointOf RX10 cX10_jointOf 3 (Option.some Jvm.ClassFile.FieldType.int) 2 := ⟨⟨tb_in (i := 1237) (by decide +kernel) rfl, tb_in (i := 53) (by decide +kernel) rfl, wd_12, tb_in (i := 1238) (by decide +kernel) rfl⟩, rfl, by decide +kernel⟩
theorem mv_X10_joint : uvMV yX10_joint RX10 cX10_joint 3 (Option.some Jvm.ClassFile.FieldType.int) 2 := ⟨⟨tb_in (i := 1232) (by decide +kernel) rfl, tb_in (i := 1233) (by decide +kernel) rfl, wd_12, tb_in (i := 1234) (by decide +kernel) rfl⟩, rfl, by decide +kernel⟩
theorem mv_X10_begins : uvMV yX10_begins RX10 cX10_begins 1 (Option.none : Option Jvm.ClassFile.FieldType) 0 := ⟨⟨tb_in (i := 1253) (by decide +kernel) rfl, tb_in (i := 56) (by decide +kernel) rfl, wd_12, tb_in (i := 1254) (by decide +kernel) rfl⟩, rfl, by decide +kernel⟩
theorem mv_X10_offers : uvMV yX10_offers RX10 cX10_offers 2 (Option.none : Option Jvm.ClassFile.FieldType) 1 := ⟨⟨tb_in (i := 1261) (by decide +kernel) rfl, tb_in (i := 58) (by decide +kernel) rfl, wd_12, tb_in (i := 1262) (by decide +kernel) rfl⟩, rfl, by decide +kernel⟩
theorem mv_X10_takesIn : uvMV yX10_takesIn RX10 cX10_takesIn 7 (Option.none : Option Jvm.ClassFile.FieldType) 2 := ⟨⟨tb_in (i := 1257) (by decide +kernel) rfl, tb_in (i := 57) (by decide +kernel) rfl, wd_12, tb_in (i := 1258) (by decide +kernel) rfl⟩, rfl, by decide +kernel⟩
theorem mv_X10_chains : uvMV yX10_chains RX10 cX10_chains 10 (Option.some Jvm.ClassFile.FieldType.boolean) 1 := ⟨⟨tb_in (i := 1249) (by decide +kernel) rfl, tb_in (i := 55) (by decide +kernel) rfl, wd_12, tb_in (i := 1250) (by decide +kernel) rfl⟩, rfl, by decide +kernel⟩
theorem mv_X10_layChain : uvMV yX10_layChain RX10 cX10_layChain 7 (Option.none : Option Jvm.ClassFile.FieldType) 0 := ⟨⟨tb_in (i := 1271) (by decide +kernel) rfl, tb_in (i := 59) (by decide +kernel) rfl, wd_12, tb_in (i := 1272) (by decide +kernel) rfl⟩, rfl, by decide +kernel⟩
theorem mv_X10_fitNow : uvMV yX10_fitNow RX10 cX10_fitNow 3 (Option.some Jvm.ClassFile.FieldType.int) 2 := ⟨⟨tb_in (i := 1275) (by decide +kernel) rfl, tb_in (i := 60) (by decide +kernel) rfl, wd_12, tb_in (i := 1276) (by decide +kernel) rfl⟩, rfl, by decide +kernel⟩
theorem mv_X10_chainsNow : uvMV yX10_chainsNow RX10 cX10_chainsNow 1 (Option.some Jvm.ClassFile.FieldType.boolean) 0 := ⟨⟨tb_in (i := 1245) (by decide +kernel) rfl, tb_in (i := 54) (by decide +kernel) rfl, wd_12, tb_in (i := 1246) (by decide +kernel) rfl⟩, rfl, by decide +kernel⟩
theorem mv_X10_cost : uvMV yX10_cost RX10 cX10_cost 1 (Option.some Jvm.ClassFile.FieldType.int) 0 := ⟨⟨tb_in (i := 1240) (by decide +kernel) rfl, tb_in (i := 1241) (by decide +kernel) rfl, wd_12, tb_in (i := 1242) (by decide +kernel) rfl⟩, rfl, by decide +kernel⟩
theorem mv_X10_chain : uvMV yX10_chain RX10 cX10_chain 2 (Option.some Jvm.ClassFile.FieldType.int) 1 := ⟨⟨tb_in (i := 1266) (by decide +kernel) rfl, tb_in (i := 1267) (by decide +kernel) rfl, wd_12, tb_in (i := 1268) (by decide +kernel) rfl⟩, rfl, by decide +kernel⟩
theorem mv_X10_ways : uvMV yX10_ways RX10 cX10_ways 1 (Option.some Jvm.ClassFile.FieldType.int) 0 := ⟨⟨tb_in (i := 1278) (by decide +kernel) rfl, tb_in (i := 1279) (by decide +kernel) rfl, wd_12, tb_in (i := 1280) (by decide +kernel) rfl⟩, rfl, by decide +kernel⟩
theorem mv_X10_next : uvMV yX10_next RX10 cX10_next 1 (Option.some Jvm.ClassFile.FieldType.int) 0 := ⟨⟨tb_in (i := 1282) (by decide +kernel) rfl, tb_in (i := 1283) (by decide +kernel) rfl, wd_12, tb_in (i := 1284) (by decide +kernel) rfl⟩, rfl, by decide +kernel⟩
theorem mv_X10_dearest : uvMV yX10_dearest RX10 cX10_dearest 1 (Option.some Jvm.ClassFile.FieldType.int) 0 := ⟨⟨tb_in (i := 1286) (by decide +kernel) rfl, tb_in (i := 1287) (by decide +kernel) rfl, wd_12, tb_in (i := 1288) (by decide +kernel) rfl⟩, rfl, by decide +kernel⟩
theorem mv_X10_without : uvMV yX10_without RX10 cX10_without 3 (Option.some Jvm.ClassFile.FieldType.int) 1 := ⟨⟨tb_in (i := 1290) (by decide +kernel) rfl, tb_in (i := 1291) (by decide +kernel) rfl, wd_12, tb_in (i := 1292) (by decide +kernel) rfl⟩, rfl, by decide +kernel⟩
theorem mv_X10_about : uvMV yX10_about RX10 cX10_about 8 (Option.some Jvm.ClassFile.FieldType.int) 1 := ⟨⟨tb_in (i := 1294) (by decide +kernel) rfl, tb_in (i := 1295) (by decide +kernel) rfl, wd_12, tb_in (i := 1296) (by decide +kernel) rfl⟩, rfl, by decide +kernel⟩
theorem mv_X10_cheapest : uvMV yX10_cheapest RX10 cX10_cheapest 7 (Option.some Jvm.ClassFile.FieldType.int) 1 := ⟨⟨tb_in (i := 1298) (by decide +kernel) rfl, tb_in (i := 1299) (by decide +kernel) rfl, wd_12, tb_in (i := 1300) (by decide +kernel) rfl⟩, rfl, by decide +kernel⟩
theorem mv_X10_toldOf : uvMV yX10_toldOf RX10 cX10_toldOf 2 (Option.some Jvm.ClassFile.FieldType.int) 1 := ⟨⟨tb_in (i := 1307) (by decide +kernel) rfl, tb_in (i := 61) (by decide +kernel) rfl, wd_12, tb_in (i := 1308) (by decide +kernel) rfl⟩, rfl, by decide +kernel⟩
theorem mv_X10_told : uvMV yX10_told RX10 cX10_told 2 (Option.some Jvm.ClassFile.FieldType.int) 1 := ⟨⟨tb_in (i := 1302) (by decide +kernel) rfl, tb_in (i := 1303) (by decide +kernel) rfl, wd_12, tb_in (i := 1304) (by decide +kernel) rfl⟩, rfl, by decide +kernel⟩
theorem ms_X10_sums : uvMS yX10_sums cX10_sums 7 (Option.some Jvm.ClassFile.FieldType.long) 3 := ⟨⟨tb_in (i := 1316) (by decide +kernel) rfl, wd_12, tb_in (i := 1317) (by decide +kernel) rfl⟩, by decide +kernel⟩
theorem mv_X10_digest : uvMV yX10_digest RX10 cX10_digest 4 (Option.some Jvm.ClassFile.FieldType.long) 0 := ⟨⟨tb_in (i := 1310) (by decide +kernel) rfl, tb_in (i := 1311) (by decide +kernel) rfl, wd_12, tb_in (i := 1312) (by decide +kernel) rfl⟩, rfl, by decide +kernel⟩
theorem ms_J13_bitCount_95d88 : uvMS yJ13_bitCount_95d88 cJ13_bitCount_95d88 2 (Option.some Jvm.ClassFile.FieldType.int) 1 := ⟨⟨tb_in (i := 689) (by decide +kernel) rfl, wd_17, tb_in (i := 690) (by decide +kernel) rfl⟩, by decide +kernel⟩
theorem ms_J9_abs_0f7a4 : uvMS yJ9_abs_0f7a4 cJ9_abs_0f7a4 1 (Option.some Jvm.ClassFile.FieldType.int) 1 := ⟨⟨tb_in (i := 780) (by decide +kernel) rfl, wd_11, tb_in (i := 781) (by decide +kernel) rfl⟩, by decide +kernel⟩
theorem ms_J9_max_7cf53 : uvMS yJ9_max_7cf53 cJ9_max_7cf53 2 (Option.some Jvm.ClassFile.FieldType.int) 2 := ⟨⟨tb_in (i := 341) (by decide +kernel) rfl, wd_11, tb_in (i := 342) (by decide +kernel) rfl⟩, by decide +kernel⟩
theorem ms_J9_min_7cf53 : uvMS yJ9_min_7cf53 cJ9_min_7cf53 2 (Option.some Jvm.ClassFile.FieldType.int) 2 := ⟨⟨tb_in (i := 824) (by decide +kernel) rfl, wd_11, tb_in (i := 825) (by decide +kernel) rfl⟩, by decide +kernel⟩
theorem mv_J0_length_8abf5 : uvMV yJ0_length_8abf5 RJ0 cJ0_length_8abf5 1 (Option.some Jvm.ClassFile.FieldType.int) 0 := ⟨⟨tb_in (i := 536) (by decide +kernel) rfl, tb_in (i := 537) (by decide +kernel) rfl, wd_13, tb_in (i := 538) (by decide +kernel) rfl⟩, rfl, by decide +kernel⟩
theorem mv_J0_charAt_5068e : uvMV yJ0_charAt_5068e RJ0 cJ0_charAt_5068e 2 (Option.some Jvm.ClassFile.FieldType.char) 1 := ⟨⟨tb_in (i := 550) (by decide +kernel) rfl, tb_in (i := 551) (by decide +kernel) rfl, wd_13, tb_in (i := 552) (by decide +kernel) rfl⟩, rfl, by decide +kernel⟩
theorem mv_J0_coder_7d493 : uvMV yJ0_coder_7d493 RJ0 cJ0_coder_7d493 1 (Option.some Jvm.ClassFile.FieldType.byte) 0 := ⟨⟨tb_in (i := 540) (by decide +kernel) rfl, tb_in (i := 541) (by decide +kernel) rfl, wd_13, tb_in (i := 542) (by decide +kernel) rfl⟩, rfl, by decide +kernel⟩
theorem mv_J0_isLatin1_aae02 : uvMV yJ0_isLatin1_aae02 RJ0 cJ0_isLatin1_aae02 1 (Option.some Jvm.ClassFile.FieldType.boolean) 0 := ⟨⟨tb_in (i := 554) (by decide +kernel) rfl, tb_in (i := 555) (by decide +kernel) rfl, wd_13, tb_in (i := 556) (by decide +kernel) rfl⟩, rfl, by decide +kernel⟩
theorem ms_J0_checkIndex_df160 : uvMS yJ0_checkIndex_df160 cJ0_checkIndex_df160 2 (Option.none : Option Jvm.ClassFile.FieldType) 2 := ⟨⟨tb_in (i := 561) (by decide +kernel) rfl, wd_13, tb_in (i := 562) (by decide +kernel) rfl⟩, by decide +kernel⟩
theorem ms_J1_charAt_3b067 : uvMS yJ1_charAt_3b067 cJ1_charAt_3b067 2 (Option.some Jvm.ClassFile.FieldType.char) 2 := ⟨⟨tb_in (i := 558) (by decide +kernel) rfl, wd_14, tb_in (i := 559) (by decide +kernel) rfl⟩, by decide +kernel⟩
theorem ms_J2_getChar_3b067 : uvMS yJ2_getChar_3b067 cJ2_getChar_3b067 2 (Option.some Jvm.ClassFile.FieldType.char) 2 := ⟨⟨tb_in (i := 579) (by decide +kernel) rfl, wd_16, tb_in (i := 580) (by decide +kernel) rfl⟩, by decide +kernel⟩
theorem ms_J2_length_9d52b : uvMS yJ2_length_9d52b cJ2_length_9d52b 1 (Option.some Jvm.ClassFile.FieldType.int) 1 := ⟨⟨tb_in (i := 575) (by decide +kernel) rfl, wd_16, tb_in (i := 576) (by decide +kernel) rfl⟩, by decide +kernel⟩
theorem ms_J2_charAt_3b067 : uvMS yJ2_charAt_3b067 cJ2_charAt_3b067 2 (Option.some Jvm.ClassFile.FieldType.char) 2 := ⟨⟨tb_in (i := 569) (by decide +kernel) rfl, wd_16, tb_in (i := 570) (by decide +kernel) rfl⟩, by decide +kernel⟩
theorem ms_J2_checkIndex_2214a : uvMS yJ2_checkIndex_2214a cJ2_checkIndex_2214a 2 (Option.none : Option Jvm.ClassFile.FieldType) 2 := ⟨⟨tb_in (i := 572) (by decide +kernel) rfl, wd_16, tb_in (i := 573) (by decide +kernel) rfl⟩, by decide +kernel⟩
theorem ms_J3_checkIndex_8e157 : uvMS yJ3_checkIndex_8e157 cJ3_checkIndex_8e157 3 (Option.some Jvm.ClassFile.FieldType.int) 3 := ⟨⟨tb_in (i := 566) (by decide +kernel) rfl, wd_15, tb_in (i := 567) (by decide +kernel) rfl⟩, by decide +kernel⟩
