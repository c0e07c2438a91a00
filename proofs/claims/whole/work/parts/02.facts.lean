theorem wd_1 : (Jvm.Cond.initialized "LanguageServer") ∈ Tg := tg_1 (i := 1) rfl rfl
theorem wd_3 : (Jvm.Cond.initialized "LanguageServer$Text") ∈ Tg := tg_1 (i := 3) rfl rfl
theorem wd_4 : (Jvm.Cond.initialized "LanguageServer$Tokens") ∈ Tg := tg_1 (i := 4) rfl rfl
theorem wd_5 : (Jvm.Cond.initialized "LanguageServer$Outline") ∈ Tg := tg_1 (i := 5) rfl rfl
theorem wd_6 : (Jvm.Cond.initialized "LanguageServer$Complaints") ∈ Tg := tg_1 (i := 6) rfl rfl
theorem wd_7 : (Jvm.Cond.initialized "LanguageServer$Parser") ∈ Tg := tg_1 (i := 7) rfl rfl
theorem wd_8 : (Jvm.Cond.initialized "LanguageServer$Declarer") ∈ Tg := tg_1 (i := 8) rfl rfl
theorem wd_9 : (Jvm.Cond.initialized "LanguageServer$Judge") ∈ Tg := tg_1 (i := 9) rfl rfl
theorem wd_16 : (Jvm.Cond.initialized "java/lang/System") ∈ Tg := tg_1 (i := 16) rfl rfl
theorem wd_18 : (Jvm.Cond.initialized "java/util/Arrays") ∈ Tg := tg_1 (i := 18) rfl rfl
theorem wd_19 : (Jvm.Cond.initialized "java/lang/Math") ∈ Tg := tg_1 (i := 19) rfl rfl
theorem wd_20 : (Jvm.Cond.initialized "java/lang/Integer") ∈ Tg := tg_1 (i := 20) rfl rfl
theorem wd_41 : (Jvm.Cond.fieldLink "LanguageServer$Text" (9 : Nat) "LanguageServer$Text" "codes" "[I") ∈ Tg := tg_1 (i := 41) rfl rfl
theorem wd_42 : (Jvm.Cond.fieldLink "LanguageServer$Tokens" (45 : Nat) "LanguageServer$Text" "codes" "[I") ∈ Tg := tg_1 (i := 42) rfl rfl
theorem wd_44 : (Jvm.Cond.fieldLink "LanguageServer$Text" (15 : Nat) "LanguageServer$Text" "length" "I") ∈ Tg := tg_1 (i := 44) rfl rfl
theorem wd_46 : (Jvm.Cond.fieldLink "LanguageServer$Tokens" (33 : Nat) "LanguageServer$Text" "length" "I") ∈ Tg := tg_1 (i := 46) rfl rfl
theorem wd_48 : (Jvm.Cond.laysFinal "LanguageServer$Text" "LanguageServer$Text" "codes" "[I") ∈ Tg := tg_1 (i := 48) rfl rfl
theorem wd_50 : (Jvm.Cond.lays "LanguageServer$Text" "LanguageServer$Text" "length" "I") ∈ Tg := tg_1 (i := 50) rfl rfl
theorem wd_60 : (Jvm.Cond.fieldLink "LanguageServer$Tokens" (11 : Nat) "LanguageServer$Tokens" "start" "[I") ∈ Tg := tg_1 (i := 60) rfl rfl
theorem wd_61 : (Jvm.Cond.fieldLink "LanguageServer$Parser" (67 : Nat) "LanguageServer$Tokens" "start" "[I") ∈ Tg := tg_1 (i := 61) rfl rfl
theorem wd_62 : (Jvm.Cond.fieldLink "LanguageServer$Reading" (88 : Nat) "LanguageServer$Tokens" "start" "[I") ∈ Tg := tg_1 (i := 62) rfl rfl
theorem wd_64 : (Jvm.Cond.fieldLink "LanguageServer$Complaints" (40 : Nat) "LanguageServer$Tokens" "start" "[I") ∈ Tg := tg_1 (i := 64) rfl rfl
theorem wd_65 : (Jvm.Cond.fieldLink "LanguageServer$Tokens" (15 : Nat) "LanguageServer$Tokens" "end" "[I") ∈ Tg := tg_1 (i := 65) rfl rfl
theorem wd_66 : (Jvm.Cond.fieldLink "LanguageServer$Parser" (73 : Nat) "LanguageServer$Tokens" "end" "[I") ∈ Tg := tg_1 (i := 66) rfl rfl
theorem wd_67 : (Jvm.Cond.fieldLink "LanguageServer$Reading" (92 : Nat) "LanguageServer$Tokens" "end" "[I") ∈ Tg := tg_1 (i := 67) rfl rfl
theorem wd_69 : (Jvm.Cond.fieldLink "LanguageServer$Tokens" (18 : Nat) "LanguageServer$Tokens" "sort" "[I") ∈ Tg := tg_1 (i := 69) rfl rfl
theorem wd_70 : (Jvm.Cond.fieldLink "LanguageServer$Parser" (47 : Nat) "LanguageServer$Tokens" "sort" "[I") ∈ Tg := tg_1 (i := 70) rfl rfl
theorem wd_71 : (Jvm.Cond.fieldLink "LanguageServer$Declarer" (81 : Nat) "LanguageServer$Tokens" "sort" "[I") ∈ Tg := tg_1 (i := 71) rfl rfl
theorem wd_72 : (Jvm.Cond.fieldLink "LanguageServer$Tokens" (21 : Nat) "LanguageServer$Tokens" "spelling" "[J") ∈ Tg := tg_1 (i := 72) rfl rfl
theorem wd_73 : (Jvm.Cond.fieldLink "LanguageServer$Declarer" (64 : Nat) "LanguageServer$Tokens" "spelling" "[J") ∈ Tg := tg_1 (i := 73) rfl rfl
theorem wd_74 : (Jvm.Cond.fieldLink "LanguageServer$Judge" (102 : Nat) "LanguageServer$Tokens" "spelling" "[J") ∈ Tg := tg_1 (i := 74) rfl rfl
theorem wd_75 : (Jvm.Cond.fieldLink "LanguageServer$Outline" (60 : Nat) "LanguageServer$Tokens" "spelling" "[J") ∈ Tg := tg_1 (i := 75) rfl rfl
theorem wd_76 : (Jvm.Cond.fieldLink "LanguageServer$Tokens" (25 : Nat) "LanguageServer$Tokens" "size" "I") ∈ Tg := tg_1 (i := 76) rfl rfl
theorem wd_77 : (Jvm.Cond.fieldLink "LanguageServer$Parser" (42 : Nat) "LanguageServer$Tokens" "size" "I") ∈ Tg := tg_1 (i := 77) rfl rfl
theorem wd_78 : (Jvm.Cond.laysFinal "LanguageServer$Tokens" "LanguageServer$Tokens" "start" "[I") ∈ Tg := tg_1 (i := 78) rfl rfl
theorem wd_80 : (Jvm.Cond.laysFinal "LanguageServer$Tokens" "LanguageServer$Tokens" "end" "[I") ∈ Tg := tg_1 (i := 80) rfl rfl
theorem wd_82 : (Jvm.Cond.laysFinal "LanguageServer$Tokens" "LanguageServer$Tokens" "sort" "[I") ∈ Tg := tg_1 (i := 82) rfl rfl
theorem wd_84 : (Jvm.Cond.laysFinal "LanguageServer$Tokens" "LanguageServer$Tokens" "spelling" "[J") ∈ Tg := tg_1 (i := 84) rfl rfl
theorem wd_86 : (Jvm.Cond.lays "LanguageServer$Tokens" "LanguageServer$Tokens" "size" "I") ∈ Tg := tg_1 (i := 86) rfl rfl
theorem wd_96 : (Jvm.Cond.fieldLink "LanguageServer$Outline" (35 : Nat) "LanguageServer$Outline" "tokens" "LLanguageServer$Tokens;") ∈ Tg := tg_1 (i := 96) rfl rfl
theorem wd_97 : (Jvm.Cond.fieldLink "LanguageServer$Outline" (11 : Nat) "LanguageServer$Outline" "role" "[I") ∈ Tg := tg_1 (i := 97) rfl rfl
theorem wd_98 : (Jvm.Cond.fieldLink "LanguageServer$Declarer" (33 : Nat) "LanguageServer$Outline" "role" "[I") ∈ Tg := tg_1 (i := 98) rfl rfl
theorem wd_99 : (Jvm.Cond.fieldLink "LanguageServer$Judge" (52 : Nat) "LanguageServer$Outline" "role" "[I") ∈ Tg := tg_1 (i := 99) rfl rfl
theorem wd_100 : (Jvm.Cond.fieldLink "LanguageServer$Parser" (107 : Nat) "LanguageServer$Outline" "role" "[I") ∈ Tg := tg_1 (i := 100) rfl rfl
theorem wd_101 : (Jvm.Cond.fieldLink "LanguageServer$Outline" (17 : Nat) "LanguageServer$Outline" "arity" "[I") ∈ Tg := tg_1 (i := 101) rfl rfl
theorem wd_102 : (Jvm.Cond.fieldLink "LanguageServer$Parser" (110 : Nat) "LanguageServer$Outline" "arity" "[I") ∈ Tg := tg_1 (i := 102) rfl rfl
theorem wd_103 : (Jvm.Cond.fieldLink "LanguageServer$Judge" (119 : Nat) "LanguageServer$Outline" "arity" "[I") ∈ Tg := tg_1 (i := 103) rfl rfl
theorem wd_104 : (Jvm.Cond.fieldLink "LanguageServer$Outline" (20 : Nat) "LanguageServer$Outline" "meaning" "[I") ∈ Tg := tg_1 (i := 104) rfl rfl
theorem wd_105 : (Jvm.Cond.fieldLink "LanguageServer$Declarer" (74 : Nat) "LanguageServer$Outline" "meaning" "[I") ∈ Tg := tg_1 (i := 105) rfl rfl
theorem wd_106 : (Jvm.Cond.fieldLink "LanguageServer$Reading" (95 : Nat) "LanguageServer$Outline" "meaning" "[I") ∈ Tg := tg_1 (i := 106) rfl rfl
theorem wd_107 : (Jvm.Cond.fieldLink "LanguageServer$Judge" (96 : Nat) "LanguageServer$Outline" "meaning" "[I") ∈ Tg := tg_1 (i := 107) rfl rfl
theorem wd_108 : (Jvm.Cond.fieldLink "LanguageServer$Outline" (23 : Nat) "LanguageServer$Outline" "typeOf" "[I") ∈ Tg := tg_1 (i := 108) rfl rfl
theorem wd_109 : (Jvm.Cond.fieldLink "LanguageServer$Declarer" (54 : Nat) "LanguageServer$Outline" "typeOf" "[I") ∈ Tg := tg_1 (i := 109) rfl rfl
theorem wd_110 : (Jvm.Cond.fieldLink "LanguageServer$Judge" (70 : Nat) "LanguageServer$Outline" "typeOf" "[I") ∈ Tg := tg_1 (i := 110) rfl rfl
theorem wd_112 : (Jvm.Cond.fieldLink "LanguageServer$Outline" (26 : Nat) "LanguageServer$Outline" "classAt" "[I") ∈ Tg := tg_1 (i := 112) rfl rfl
theorem wd_113 : (Jvm.Cond.fieldLink "LanguageServer$Declarer" (102 : Nat) "LanguageServer$Outline" "classAt" "[I") ∈ Tg := tg_1 (i := 113) rfl rfl
theorem wd_114 : (Jvm.Cond.fieldLink "LanguageServer$Outline" (29 : Nat) "LanguageServer$Outline" "superOf" "[I") ∈ Tg := tg_1 (i := 114) rfl rfl
theorem wd_115 : (Jvm.Cond.fieldLink "LanguageServer$Declarer" (99 : Nat) "LanguageServer$Outline" "superOf" "[I") ∈ Tg := tg_1 (i := 115) rfl rfl
theorem wd_116 : (Jvm.Cond.fieldLink "LanguageServer$Outline" (32 : Nat) "LanguageServer$Outline" "listed" "[I") ∈ Tg := tg_1 (i := 116) rfl rfl
theorem wd_118 : (Jvm.Cond.fieldLink "LanguageServer$Declarer" (29 : Nat) "LanguageServer$Outline" "size" "I") ∈ Tg := tg_1 (i := 118) rfl rfl
theorem wd_119 : (Jvm.Cond.fieldLink "LanguageServer$Judge" (47 : Nat) "LanguageServer$Outline" "size" "I") ∈ Tg := tg_1 (i := 119) rfl rfl
theorem wd_120 : (Jvm.Cond.fieldLink "LanguageServer$Outline" (47 : Nat) "LanguageServer$Outline" "size" "I") ∈ Tg := tg_1 (i := 120) rfl rfl
theorem wd_121 : (Jvm.Cond.fieldLink "LanguageServer$Reading" (84 : Nat) "LanguageServer$Outline" "size" "I") ∈ Tg := tg_1 (i := 121) rfl rfl
theorem wd_123 : (Jvm.Cond.fieldLink "LanguageServer$Outline" (51 : Nat) "LanguageServer$Outline" "classes" "I") ∈ Tg := tg_1 (i := 123) rfl rfl
theorem wd_124 : (Jvm.Cond.fieldLink "LanguageServer$Declarer" (89 : Nat) "LanguageServer$Outline" "classes" "I") ∈ Tg := tg_1 (i := 124) rfl rfl
theorem wd_126 : (Jvm.Cond.laysFinal "LanguageServer$Outline" "LanguageServer$Outline" "tokens" "LLanguageServer$Tokens;") ∈ Tg := tg_1 (i := 126) rfl rfl
theorem wd_128 : (Jvm.Cond.laysFinal "LanguageServer$Outline" "LanguageServer$Outline" "role" "[I") ∈ Tg := tg_1 (i := 128) rfl rfl
theorem wd_130 : (Jvm.Cond.laysFinal "LanguageServer$Outline" "LanguageServer$Outline" "arity" "[I") ∈ Tg := tg_1 (i := 130) rfl rfl
theorem wd_132 : (Jvm.Cond.laysFinal "LanguageServer$Outline" "LanguageServer$Outline" "meaning" "[I") ∈ Tg := tg_1 (i := 132) rfl rfl
theorem wd_134 : (Jvm.Cond.laysFinal "LanguageServer$Outline" "LanguageServer$Outline" "typeOf" "[I") ∈ Tg := tg_1 (i := 134) rfl rfl
theorem wd_136 : (Jvm.Cond.laysFinal "LanguageServer$Outline" "LanguageServer$Outline" "classAt" "[I") ∈ Tg := tg_1 (i := 136) rfl rfl
theorem wd_138 : (Jvm.Cond.laysFinal "LanguageServer$Outline" "LanguageServer$Outline" "superOf" "[I") ∈ Tg := tg_1 (i := 138) rfl rfl
theorem wd_140 : (Jvm.Cond.laysFinal "LanguageServer$Outline" "LanguageServer$Outline" "listed" "[I") ∈ Tg := tg_1 (i := 140) rfl rfl
theorem wd_142 : (Jvm.Cond.lays "LanguageServer$Outline" "LanguageServer$Outline" "size" "I") ∈ Tg := tg_1 (i := 142) rfl rfl
theorem wd_144 : (Jvm.Cond.lays "LanguageServer$Outline" "LanguageServer$Outline" "classes" "I") ∈ Tg := tg_1 (i := 144) rfl rfl
theorem wd_153 : (Jvm.Cond.fieldLink "LanguageServer$Complaints" (11 : Nat) "LanguageServer$Complaints" "marks" "[I") ∈ Tg := tg_1 (i := 153) rfl rfl
theorem wd_154 : (Jvm.Cond.fieldLink "LanguageServer$Complaints" (17 : Nat) "LanguageServer$Complaints" "fault" "I") ∈ Tg := tg_1 (i := 154) rfl rfl
theorem wd_155 : (Jvm.Cond.laysFinal "LanguageServer$Complaints" "LanguageServer$Complaints" "marks" "[I") ∈ Tg := tg_1 (i := 155) rfl rfl
theorem wd_157 : (Jvm.Cond.lays "LanguageServer$Complaints" "LanguageServer$Complaints" "fault" "I") ∈ Tg := tg_1 (i := 157) rfl rfl
theorem wd_166 : (Jvm.Cond.fieldLink "LanguageServer$Parser" (15 : Nat) "LanguageServer$Parser" "tokens" "LLanguageServer$Tokens;") ∈ Tg := tg_1 (i := 166) rfl rfl
theorem wd_167 : (Jvm.Cond.fieldLink "LanguageServer$Parser" (19 : Nat) "LanguageServer$Parser" "outline" "LLanguageServer$Outline;") ∈ Tg := tg_1 (i := 167) rfl rfl
theorem wd_168 : (Jvm.Cond.fieldLink "LanguageServer$Parser" (23 : Nat) "LanguageServer$Parser" "complaints" "LLanguageServer$Complaints;") ∈ Tg := tg_1 (i := 168) rfl rfl
theorem wd_169 : (Jvm.Cond.fieldLink "LanguageServer$Parser" (9 : Nat) "LanguageServer$Parser" "opener" "[I") ∈ Tg := tg_1 (i := 169) rfl rfl
theorem wd_170 : (Jvm.Cond.fieldLink "LanguageServer$Parser" (35 : Nat) "LanguageServer$Parser" "depth" "I") ∈ Tg := tg_1 (i := 170) rfl rfl
theorem wd_171 : (Jvm.Cond.fieldLink "LanguageServer$Parser" (39 : Nat) "LanguageServer$Parser" "state" "I") ∈ Tg := tg_1 (i := 171) rfl rfl
theorem wd_172 : (Jvm.Cond.fieldLink "LanguageServer$Parser" (97 : Nat) "LanguageServer$Parser" "method" "I") ∈ Tg := tg_1 (i := 172) rfl rfl
theorem wd_173 : (Jvm.Cond.fieldLink "LanguageServer$Parser" (119 : Nat) "LanguageServer$Parser" "equalsMayCome" "Z") ∈ Tg := tg_1 (i := 173) rfl rfl
theorem wd_174 : (Jvm.Cond.laysFinal "LanguageServer$Parser" "LanguageServer$Parser" "tokens" "LLanguageServer$Tokens;") ∈ Tg := tg_1 (i := 174) rfl rfl
theorem wd_176 : (Jvm.Cond.laysFinal "LanguageServer$Parser" "LanguageServer$Parser" "outline" "LLanguageServer$Outline;") ∈ Tg := tg_1 (i := 176) rfl rfl
theorem wd_178 : (Jvm.Cond.laysFinal "LanguageServer$Parser" "LanguageServer$Parser" "complaints" "LLanguageServer$Complaints;") ∈ Tg := tg_1 (i := 178) rfl rfl
theorem wd_180 : (Jvm.Cond.laysFinal "LanguageServer$Parser" "LanguageServer$Parser" "opener" "[I") ∈ Tg := tg_1 (i := 180) rfl rfl
theorem wd_182 : (Jvm.Cond.lays "LanguageServer$Parser" "LanguageServer$Parser" "depth" "I") ∈ Tg := tg_1 (i := 182) rfl rfl
theorem wd_184 : (Jvm.Cond.lays "LanguageServer$Parser" "LanguageServer$Parser" "state" "I") ∈ Tg := tg_1 (i := 184) rfl rfl
theorem wd_186 : (Jvm.Cond.lays "LanguageServer$Parser" "LanguageServer$Parser" "method" "I") ∈ Tg := tg_1 (i := 186) rfl rfl
theorem wd_188 : (Jvm.Cond.lays "LanguageServer$Parser" "LanguageServer$Parser" "equalsMayCome" "Z") ∈ Tg := tg_1 (i := 188) rfl rfl
theorem wd_197 : (Jvm.Cond.fieldLink "LanguageServer$Declarer" (17 : Nat) "LanguageServer$Declarer" "tokens" "LLanguageServer$Tokens;") ∈ Tg := tg_1 (i := 197) rfl rfl
theorem wd_198 : (Jvm.Cond.fieldLink "LanguageServer$Declarer" (21 : Nat) "LanguageServer$Declarer" "outline" "LLanguageServer$Outline;") ∈ Tg := tg_1 (i := 198) rfl rfl
theorem wd_199 : (Jvm.Cond.fieldLink "LanguageServer$Declarer" (25 : Nat) "LanguageServer$Declarer" "complaints" "LLanguageServer$Complaints;") ∈ Tg := tg_1 (i := 199) rfl rfl
theorem wd_200 : (Jvm.Cond.fieldLink "LanguageServer$Declarer" (11 : Nat) "LanguageServer$Declarer" "extended" "[I") ∈ Tg := tg_1 (i := 200) rfl rfl
theorem wd_201 : (Jvm.Cond.fieldLink "LanguageServer$Declarer" (36 : Nat) "LanguageServer$Declarer" "owner" "I") ∈ Tg := tg_1 (i := 201) rfl rfl
theorem wd_202 : (Jvm.Cond.fieldLink "LanguageServer$Declarer" (51 : Nat) "LanguageServer$Declarer" "method" "I") ∈ Tg := tg_1 (i := 202) rfl rfl
theorem wd_203 : (Jvm.Cond.laysFinal "LanguageServer$Declarer" "LanguageServer$Declarer" "tokens" "LLanguageServer$Tokens;") ∈ Tg := tg_1 (i := 203) rfl rfl
theorem wd_205 : (Jvm.Cond.laysFinal "LanguageServer$Declarer" "LanguageServer$Declarer" "outline" "LLanguageServer$Outline;") ∈ Tg := tg_1 (i := 205) rfl rfl
theorem wd_207 : (Jvm.Cond.laysFinal "LanguageServer$Declarer" "LanguageServer$Declarer" "complaints" "LLanguageServer$Complaints;") ∈ Tg := tg_1 (i := 207) rfl rfl
theorem wd_209 : (Jvm.Cond.laysFinal "LanguageServer$Declarer" "LanguageServer$Declarer" "extended" "[I") ∈ Tg := tg_1 (i := 209) rfl rfl
theorem wd_211 : (Jvm.Cond.lays "LanguageServer$Declarer" "LanguageServer$Declarer" "owner" "I") ∈ Tg := tg_1 (i := 211) rfl rfl
theorem wd_213 : (Jvm.Cond.lays "LanguageServer$Declarer" "LanguageServer$Declarer" "method" "I") ∈ Tg := tg_1 (i := 213) rfl rfl
theorem wd_222 : (Jvm.Cond.fieldLink "LanguageServer$Judge" (31 : Nat) "LanguageServer$Judge" "tokens" "LLanguageServer$Tokens;") ∈ Tg := tg_1 (i := 222) rfl rfl
theorem wd_223 : (Jvm.Cond.fieldLink "LanguageServer$Judge" (35 : Nat) "LanguageServer$Judge" "outline" "LLanguageServer$Outline;") ∈ Tg := tg_1 (i := 223) rfl rfl
theorem wd_224 : (Jvm.Cond.fieldLink "LanguageServer$Judge" (39 : Nat) "LanguageServer$Judge" "complaints" "LLanguageServer$Complaints;") ∈ Tg := tg_1 (i := 224) rfl rfl
theorem wd_225 : (Jvm.Cond.fieldLink "LanguageServer$Judge" (11 : Nat) "LanguageServer$Judge" "called" "[I") ∈ Tg := tg_1 (i := 225) rfl rfl
theorem wd_226 : (Jvm.Cond.fieldLink "LanguageServer$Judge" (15 : Nat) "LanguageServer$Judge" "argument" "[I") ∈ Tg := tg_1 (i := 226) rfl rfl
theorem wd_227 : (Jvm.Cond.fieldLink "LanguageServer$Judge" (18 : Nat) "LanguageServer$Judge" "firstToken" "[I") ∈ Tg := tg_1 (i := 227) rfl rfl
theorem wd_228 : (Jvm.Cond.fieldLink "LanguageServer$Judge" (21 : Nat) "LanguageServer$Judge" "termToken" "[I") ∈ Tg := tg_1 (i := 228) rfl rfl
theorem wd_229 : (Jvm.Cond.fieldLink "LanguageServer$Judge" (24 : Nat) "LanguageServer$Judge" "termType" "[I") ∈ Tg := tg_1 (i := 229) rfl rfl
theorem wd_230 : (Jvm.Cond.fieldLink "LanguageServer$Judge" (27 : Nat) "LanguageServer$Judge" "summed" "[Z") ∈ Tg := tg_1 (i := 230) rfl rfl
theorem wd_231 : (Jvm.Cond.fieldLink "LanguageServer$Judge" (43 : Nat) "LanguageServer$Judge" "level" "I") ∈ Tg := tg_1 (i := 231) rfl rfl
theorem wd_232 : (Jvm.Cond.fieldLink "LanguageServer$Judge" (73 : Nat) "LanguageServer$Judge" "owner" "I") ∈ Tg := tg_1 (i := 232) rfl rfl
theorem wd_233 : (Jvm.Cond.fieldLink "LanguageServer$Judge" (76 : Nat) "LanguageServer$Judge" "method" "I") ∈ Tg := tg_1 (i := 233) rfl rfl
theorem wd_234 : (Jvm.Cond.fieldLink "LanguageServer$Judge" (79 : Nat) "LanguageServer$Judge" "local" "I") ∈ Tg := tg_1 (i := 234) rfl rfl
theorem wd_235 : (Jvm.Cond.fieldLink "LanguageServer$Judge" (99 : Nat) "LanguageServer$Judge" "statement" "I") ∈ Tg := tg_1 (i := 235) rfl rfl
theorem wd_236 : (Jvm.Cond.fieldLink "LanguageServer$Judge" (126 : Nat) "LanguageServer$Judge" "should" "I") ∈ Tg := tg_1 (i := 236) rfl rfl
theorem wd_237 : (Jvm.Cond.laysFinal "LanguageServer$Judge" "LanguageServer$Judge" "tokens" "LLanguageServer$Tokens;") ∈ Tg := tg_1 (i := 237) rfl rfl
theorem wd_239 : (Jvm.Cond.laysFinal "LanguageServer$Judge" "LanguageServer$Judge" "outline" "LLanguageServer$Outline;") ∈ Tg := tg_1 (i := 239) rfl rfl
theorem wd_241 : (Jvm.Cond.laysFinal "LanguageServer$Judge" "LanguageServer$Judge" "complaints" "LLanguageServer$Complaints;") ∈ Tg := tg_2 (i := 1) rfl rfl
theorem wd_243 : (Jvm.Cond.laysFinal "LanguageServer$Judge" "LanguageServer$Judge" "called" "[I") ∈ Tg := tg_2 (i := 3) rfl rfl
theorem wd_245 : (Jvm.Cond.laysFinal "LanguageServer$Judge" "LanguageServer$Judge" "argument" "[I") ∈ Tg := tg_2 (i := 5) rfl rfl
theorem wd_247 : (Jvm.Cond.laysFinal "LanguageServer$Judge" "LanguageServer$Judge" "firstToken" "[I") ∈ Tg := tg_2 (i := 7) rfl rfl
theorem wd_249 : (Jvm.Cond.laysFinal "LanguageServer$Judge" "LanguageServer$Judge" "termToken" "[I") ∈ Tg := tg_2 (i := 9) rfl rfl
theorem wd_251 : (Jvm.Cond.laysFinal "LanguageServer$Judge" "LanguageServer$Judge" "termType" "[I") ∈ Tg := tg_2 (i := 11) rfl rfl
theorem wd_253 : (Jvm.Cond.laysFinal "LanguageServer$Judge" "LanguageServer$Judge" "summed" "[Z") ∈ Tg := tg_2 (i := 13) rfl rfl
theorem wd_255 : (Jvm.Cond.lays "LanguageServer$Judge" "LanguageServer$Judge" "level" "I") ∈ Tg := tg_2 (i := 15) rfl rfl
theorem wd_257 : (Jvm.Cond.lays "LanguageServer$Judge" "LanguageServer$Judge" "owner" "I") ∈ Tg := tg_2 (i := 17) rfl rfl
theorem wd_259 : (Jvm.Cond.lays "LanguageServer$Judge" "LanguageServer$Judge" "method" "I") ∈ Tg := tg_2 (i := 19) rfl rfl
theorem wd_261 : (Jvm.Cond.lays "LanguageServer$Judge" "LanguageServer$Judge" "local" "I") ∈ Tg := tg_2 (i := 21) rfl rfl
theorem wd_263 : (Jvm.Cond.lays "LanguageServer$Judge" "LanguageServer$Judge" "statement" "I") ∈ Tg := tg_2 (i := 23) rfl rfl
theorem wd_265 : (Jvm.Cond.lays "LanguageServer$Judge" "LanguageServer$Judge" "should" "I") ∈ Tg := tg_2 (i := 25) rfl rfl
theorem wd_269 : (Jvm.Cond.fieldLink "LanguageServer$Reading" (12 : Nat) "LanguageServer$Reading" "source" "LLanguageServer$Text;") ∈ Tg := tg_2 (i := 29) rfl rfl
theorem wd_271 : (Jvm.Cond.fieldLink "LanguageServer$Reading" (21 : Nat) "LanguageServer$Reading" "tokens" "LLanguageServer$Tokens;") ∈ Tg := tg_2 (i := 31) rfl rfl
theorem wd_273 : (Jvm.Cond.fieldLink "LanguageServer$Reading" (30 : Nat) "LanguageServer$Reading" "outline" "LLanguageServer$Outline;") ∈ Tg := tg_2 (i := 33) rfl rfl
theorem wd_275 : (Jvm.Cond.fieldLink "LanguageServer$Reading" (37 : Nat) "LanguageServer$Reading" "complaints" "LLanguageServer$Complaints;") ∈ Tg := tg_2 (i := 35) rfl rfl
theorem wd_277 : (Jvm.Cond.fieldLink "LanguageServer$Reading" (46 : Nat) "LanguageServer$Reading" "parser" "LLanguageServer$Parser;") ∈ Tg := tg_2 (i := 37) rfl rfl
theorem wd_278 : (Jvm.Cond.fieldLink "LanguageServer$Reading" (53 : Nat) "LanguageServer$Reading" "declarer" "LLanguageServer$Declarer;") ∈ Tg := tg_2 (i := 38) rfl rfl
theorem wd_279 : (Jvm.Cond.fieldLink "LanguageServer$Reading" (60 : Nat) "LanguageServer$Reading" "judge" "LLanguageServer$Judge;") ∈ Tg := tg_2 (i := 39) rfl rfl
theorem wd_280 : (Jvm.Cond.fieldLink "LanguageServer$Reading" (64 : Nat) "LanguageServer$Reading" "stale" "Z") ∈ Tg := tg_2 (i := 40) rfl rfl
theorem wd_281 : (Jvm.Cond.laysFinal "LanguageServer$Reading" "LanguageServer$Reading" "source" "LLanguageServer$Text;") ∈ Tg := tg_2 (i := 41) rfl rfl
theorem wd_283 : (Jvm.Cond.laysFinal "LanguageServer$Reading" "LanguageServer$Reading" "tokens" "LLanguageServer$Tokens;") ∈ Tg := tg_2 (i := 43) rfl rfl
theorem wd_285 : (Jvm.Cond.laysFinal "LanguageServer$Reading" "LanguageServer$Reading" "outline" "LLanguageServer$Outline;") ∈ Tg := tg_2 (i := 45) rfl rfl
theorem wd_287 : (Jvm.Cond.laysFinal "LanguageServer$Reading" "LanguageServer$Reading" "complaints" "LLanguageServer$Complaints;") ∈ Tg := tg_2 (i := 47) rfl rfl
theorem wd_289 : (Jvm.Cond.laysFinal "LanguageServer$Reading" "LanguageServer$Reading" "parser" "LLanguageServer$Parser;") ∈ Tg := tg_2 (i := 49) rfl rfl
theorem wd_291 : (Jvm.Cond.laysFinal "LanguageServer$Reading" "LanguageServer$Reading" "declarer" "LLanguageServer$Declarer;") ∈ Tg := tg_2 (i := 51) rfl rfl
theorem wd_293 : (Jvm.Cond.laysFinal "LanguageServer$Reading" "LanguageServer$Reading" "judge" "LLanguageServer$Judge;") ∈ Tg := tg_2 (i := 53) rfl rfl
theorem wd_295 : (Jvm.Cond.lays "LanguageServer$Reading" "LanguageServer$Reading" "stale" "Z") ∈ Tg := tg_2 (i := 55) rfl rfl
theorem wd_300 : (Jvm.Cond.lays "LanguageServer" "LanguageServer" "shown" "LLanguageServer$Reading;") ∈ Tg := tg_2 (i := 60) rfl rfl
theorem wd_302 : (Jvm.Cond.lays "LanguageServer" "LanguageServer" "trial" "LLanguageServer$Reading;") ∈ Tg := tg_2 (i := 62) rfl rfl
theorem wd_313 : (Jvm.Cond.methodLink "LanguageServer$Reading" (68 : Nat) ({ cls := "LanguageServer$Tokens", name := "cut", desc := "(LLanguageServer$Text;)V" } : Jvm.MethodName)) ∈ Tg := tg_2 (i := 73) rfl rfl
theorem wd_314 : (Jvm.Cond.instanceMethod ({ cls := "LanguageServer$Tokens", name := "cut", desc := "(LLanguageServer$Text;)V" } : Jvm.MethodName)) ∈ Tg := tg_2 (i := 74) rfl rfl
theorem wd_315 : (Jvm.Cond.selects "LanguageServer$Tokens" ({ cls := "LanguageServer$Tokens", name := "cut", desc := "(LLanguageServer$Text;)V" } : Jvm.MethodName) ({ cls := "LanguageServer$Tokens", name := "cut", desc := "(LLanguageServer$Text;)V" } : Jvm.MethodName)) ∈ Tg := tg_2 (i := 75) rfl rfl
theorem wd_316 : (Jvm.Cond.code ({ cls := "LanguageServer$Tokens", name := "cut", desc := "(LLanguageServer$Text;)V" } : Jvm.MethodName) prog_11_method_2_code (4 : Nat) (Option.none : Option Jvm.ClassFile.FieldType)) ∈ Tg := tg_2 (i := 76) rfl rfl
theorem wd_317 : (Jvm.Cond.methodLink "LanguageServer$Tokens" (29 : Nat) ({ cls := "LanguageServer$Tokens", name := "skipBlanks", desc := "(LLanguageServer$Text;I)I" } : Jvm.MethodName)) ∈ Tg := tg_2 (i := 77) rfl rfl
theorem wd_318 : (Jvm.Cond.static ({ cls := "LanguageServer$Tokens", name := "skipBlanks", desc := "(LLanguageServer$Text;I)I" } : Jvm.MethodName)) ∈ Tg := tg_2 (i := 78) rfl rfl
theorem wd_319 : (Jvm.Cond.code ({ cls := "LanguageServer$Tokens", name := "skipBlanks", desc := "(LLanguageServer$Text;I)I" } : Jvm.MethodName) prog_11_method_3_code (3 : Nat) (Option.some Jvm.ClassFile.FieldType.int)) ∈ Tg := tg_2 (i := 79) rfl rfl
theorem wd_320 : (Jvm.Cond.methodLink "LanguageServer$Tokens" (38 : Nat) ({ cls := "LanguageServer$Tokens", name := "endOfToken", desc := "(LLanguageServer$Text;I)I" } : Jvm.MethodName)) ∈ Tg := tg_2 (i := 80) rfl rfl
theorem wd_321 : (Jvm.Cond.static ({ cls := "LanguageServer$Tokens", name := "endOfToken", desc := "(LLanguageServer$Text;I)I" } : Jvm.MethodName)) ∈ Tg := tg_2 (i := 81) rfl rfl
theorem wd_322 : (Jvm.Cond.code ({ cls := "LanguageServer$Tokens", name := "endOfToken", desc := "(LLanguageServer$Text;I)I" } : Jvm.MethodName) prog_11_method_4_code (5 : Nat) (Option.some Jvm.ClassFile.FieldType.int)) ∈ Tg := tg_2 (i := 82) rfl rfl
theorem wd_323 : (Jvm.Cond.methodLink "LanguageServer$Tokens" (54 : Nat) ({ cls := "LanguageServer$Tokens", name := "isLetter", desc := "(I)Z" } : Jvm.MethodName)) ∈ Tg := tg_2 (i := 83) rfl rfl
theorem wd_324 : (Jvm.Cond.static ({ cls := "LanguageServer$Tokens", name := "isLetter", desc := "(I)Z" } : Jvm.MethodName)) ∈ Tg := tg_2 (i := 84) rfl rfl
theorem wd_325 : (Jvm.Cond.code ({ cls := "LanguageServer$Tokens", name := "isLetter", desc := "(I)Z" } : Jvm.MethodName) prog_11_method_9_code (1 : Nat) (Option.some Jvm.ClassFile.FieldType.boolean)) ∈ Tg := tg_2 (i := 85) rfl rfl
theorem wd_326 : (Jvm.Cond.methodLink "LanguageServer$Tokens" (58 : Nat) ({ cls := "LanguageServer$Tokens", name := "isDigit", desc := "(I)Z" } : Jvm.MethodName)) ∈ Tg := tg_2 (i := 86) rfl rfl
theorem wd_327 : (Jvm.Cond.static ({ cls := "LanguageServer$Tokens", name := "isDigit", desc := "(I)Z" } : Jvm.MethodName)) ∈ Tg := tg_2 (i := 87) rfl rfl
theorem wd_328 : (Jvm.Cond.code ({ cls := "LanguageServer$Tokens", name := "isDigit", desc := "(I)Z" } : Jvm.MethodName) prog_11_method_10_code (1 : Nat) (Option.some Jvm.ClassFile.FieldType.boolean)) ∈ Tg := tg_2 (i := 88) rfl rfl
theorem wd_329 : (Jvm.Cond.methodLink "LanguageServer$Tokens" (41 : Nat) ({ cls := "LanguageServer$Tokens", name := "spell", desc := "(LLanguageServer$Text;II)J" } : Jvm.MethodName)) ∈ Tg := tg_2 (i := 89) rfl rfl
theorem wd_330 : (Jvm.Cond.static ({ cls := "LanguageServer$Tokens", name := "spell", desc := "(LLanguageServer$Text;II)J" } : Jvm.MethodName)) ∈ Tg := tg_2 (i := 90) rfl rfl
theorem wd_331 : (Jvm.Cond.code ({ cls := "LanguageServer$Tokens", name := "spell", desc := "(LLanguageServer$Text;II)J" } : Jvm.MethodName) prog_11_method_5_code (7 : Nat) (Option.some Jvm.ClassFile.FieldType.long)) ∈ Tg := tg_2 (i := 91) rfl rfl
theorem wd_332 : (Jvm.Cond.methodLink "LanguageServer$Tokens" (48 : Nat) ({ cls := "LanguageServer$Tokens", name := "sortOf", desc := "(II)I" } : Jvm.MethodName)) ∈ Tg := tg_2 (i := 92) rfl rfl
theorem wd_334 : (Jvm.Cond.instanceMethod ({ cls := "LanguageServer$Tokens", name := "sortOf", desc := "(II)I" } : Jvm.MethodName)) ∈ Tg := tg_2 (i := 94) rfl rfl
theorem wd_335 : (Jvm.Cond.code ({ cls := "LanguageServer$Tokens", name := "sortOf", desc := "(II)I" } : Jvm.MethodName) prog_11_method_6_code (4 : Nat) (Option.some Jvm.ClassFile.FieldType.int)) ∈ Tg := tg_2 (i := 95) rfl rfl
theorem wd_336 : (Jvm.Cond.methodLink "LanguageServer$Tokens" (61 : Nat) ({ cls := "LanguageServer$Tokens", name := "sortOfWord", desc := "(J)I" } : Jvm.MethodName)) ∈ Tg := tg_2 (i := 96) rfl rfl
theorem wd_337 : (Jvm.Cond.static ({ cls := "LanguageServer$Tokens", name := "sortOfWord", desc := "(J)I" } : Jvm.MethodName)) ∈ Tg := tg_2 (i := 97) rfl rfl
theorem wd_338 : (Jvm.Cond.code ({ cls := "LanguageServer$Tokens", name := "sortOfWord", desc := "(J)I" } : Jvm.MethodName) prog_11_method_7_code (2 : Nat) (Option.some Jvm.ClassFile.FieldType.int)) ∈ Tg := tg_2 (i := 98) rfl rfl
theorem wd_339 : (Jvm.Cond.constantLong "LanguageServer$Tokens" (68 : Nat) (7164208255718129664 : Int64)) ∈ Tg := tg_2 (i := 99) rfl rfl
theorem wd_340 : (Jvm.Cond.constantLong "LanguageServer$Tokens" (70 : Nat) (7311721974028595968 : Int64)) ∈ Tg := tg_2 (i := 100) rfl rfl
theorem wd_341 : (Jvm.Cond.constantLong "LanguageServer$Tokens" (72 : Nat) (7597137164769427456 : Int64)) ∈ Tg := tg_2 (i := 101) rfl rfl
theorem wd_342 : (Jvm.Cond.constantLong "LanguageServer$Tokens" (74 : Nat) (8243122740751368192 : Int64)) ∈ Tg := tg_2 (i := 102) rfl rfl
theorem wd_343 : (Jvm.Cond.constantLong "LanguageServer$Tokens" (76 : Nat) (7954895158703554560 : Int64)) ∈ Tg := tg_2 (i := 103) rfl rfl
theorem wd_344 : (Jvm.Cond.constantLong "LanguageServer$Tokens" (78 : Nat) (8388070248619704320 : Int64)) ∈ Tg := tg_2 (i := 104) rfl rfl
theorem wd_345 : (Jvm.Cond.methodLink "LanguageServer$Tokens" (65 : Nat) ({ cls := "LanguageServer$Tokens", name := "isSign", desc := "(I)Z" } : Jvm.MethodName)) ∈ Tg := tg_2 (i := 105) rfl rfl
theorem wd_346 : (Jvm.Cond.static ({ cls := "LanguageServer$Tokens", name := "isSign", desc := "(I)Z" } : Jvm.MethodName)) ∈ Tg := tg_2 (i := 106) rfl rfl
theorem wd_347 : (Jvm.Cond.code ({ cls := "LanguageServer$Tokens", name := "isSign", desc := "(I)Z" } : Jvm.MethodName) prog_11_method_11_code (1 : Nat) (Option.some Jvm.ClassFile.FieldType.boolean)) ∈ Tg := tg_2 (i := 107) rfl rfl
theorem wd_348 : (Jvm.Cond.methodLink "LanguageServer$Reading" (72 : Nat) ({ cls := "LanguageServer$Parser", name := "parse", desc := "()V" } : Jvm.MethodName)) ∈ Tg := tg_2 (i := 108) rfl rfl
theorem wd_349 : (Jvm.Cond.instanceMethod ({ cls := "LanguageServer$Parser", name := "parse", desc := "()V" } : Jvm.MethodName)) ∈ Tg := tg_2 (i := 109) rfl rfl
theorem wd_350 : (Jvm.Cond.selects "LanguageServer$Parser" ({ cls := "LanguageServer$Parser", name := "parse", desc := "()V" } : Jvm.MethodName) ({ cls := "LanguageServer$Parser", name := "parse", desc := "()V" } : Jvm.MethodName)) ∈ Tg := tg_2 (i := 110) rfl rfl
theorem wd_351 : (Jvm.Cond.code ({ cls := "LanguageServer$Parser", name := "parse", desc := "()V" } : Jvm.MethodName) prog_6_method_2_code (3 : Nat) (Option.none : Option Jvm.ClassFile.FieldType)) ∈ Tg := tg_2 (i := 111) rfl rfl
theorem wd_352 : (Jvm.Cond.methodLink "LanguageServer$Parser" (27 : Nat) ({ cls := "LanguageServer$Outline", name := "clear", desc := "()V" } : Jvm.MethodName)) ∈ Tg := tg_2 (i := 112) rfl rfl
theorem wd_353 : (Jvm.Cond.instanceMethod ({ cls := "LanguageServer$Outline", name := "clear", desc := "()V" } : Jvm.MethodName)) ∈ Tg := tg_2 (i := 113) rfl rfl
theorem wd_354 : (Jvm.Cond.selects "LanguageServer$Outline" ({ cls := "LanguageServer$Outline", name := "clear", desc := "()V" } : Jvm.MethodName) ({ cls := "LanguageServer$Outline", name := "clear", desc := "()V" } : Jvm.MethodName)) ∈ Tg := tg_2 (i := 114) rfl rfl
theorem wd_355 : (Jvm.Cond.code ({ cls := "LanguageServer$Outline", name := "clear", desc := "()V" } : Jvm.MethodName) prog_5_method_2_code (1 : Nat) (Option.none : Option Jvm.ClassFile.FieldType)) ∈ Tg := tg_2 (i := 115) rfl rfl
theorem wd_356 : (Jvm.Cond.methodLink "LanguageServer$Outline" (41 : Nat) ({ cls := "java/util/Arrays", name := "fill", desc := "([II)V" } : Jvm.MethodName)) ∈ Tg := tg_2 (i := 116) rfl rfl
theorem wd_357 : (Jvm.Cond.static ({ cls := "java/util/Arrays", name := "fill", desc := "([II)V" } : Jvm.MethodName)) ∈ Tg := tg_2 (i := 117) rfl rfl
theorem wd_358 : (Jvm.Cond.code ({ cls := "java/util/Arrays", name := "fill", desc := "([II)V" } : Jvm.MethodName) prog_23_method_103_code (4 : Nat) (Option.none : Option Jvm.ClassFile.FieldType)) ∈ Tg := tg_2 (i := 118) rfl rfl
theorem wd_359 : (Jvm.Cond.methodLink "LanguageServer$Parser" (32 : Nat) ({ cls := "LanguageServer$Complaints", name := "clear", desc := "()V" } : Jvm.MethodName)) ∈ Tg := tg_2 (i := 119) rfl rfl
theorem wd_360 : (Jvm.Cond.instanceMethod ({ cls := "LanguageServer$Complaints", name := "clear", desc := "()V" } : Jvm.MethodName)) ∈ Tg := tg_2 (i := 120) rfl rfl
theorem wd_361 : (Jvm.Cond.selects "LanguageServer$Complaints" ({ cls := "LanguageServer$Complaints", name := "clear", desc := "()V" } : Jvm.MethodName) ({ cls := "LanguageServer$Complaints", name := "clear", desc := "()V" } : Jvm.MethodName)) ∈ Tg := tg_2 (i := 121) rfl rfl
theorem wd_362 : (Jvm.Cond.code ({ cls := "LanguageServer$Complaints", name := "clear", desc := "()V" } : Jvm.MethodName) prog_2_method_2_code (1 : Nat) (Option.none : Option Jvm.ClassFile.FieldType)) ∈ Tg := tg_2 (i := 122) rfl rfl
theorem wd_363 : (Jvm.Cond.methodLink "LanguageServer$Complaints" (21 : Nat) ({ cls := "java/util/Arrays", name := "fill", desc := "([II)V" } : Jvm.MethodName)) ∈ Tg := tg_2 (i := 123) rfl rfl
theorem wd_364 : (Jvm.Cond.methodLink "LanguageServer$Parser" (50 : Nat) ({ cls := "LanguageServer$Parser", name := "nextInClass", desc := "(II)I" } : Jvm.MethodName)) ∈ Tg := tg_2 (i := 124) rfl rfl
theorem wd_366 : (Jvm.Cond.instanceMethod ({ cls := "LanguageServer$Parser", name := "nextInClass", desc := "(II)I" } : Jvm.MethodName)) ∈ Tg := tg_2 (i := 126) rfl rfl
theorem wd_367 : (Jvm.Cond.code ({ cls := "LanguageServer$Parser", name := "nextInClass", desc := "(II)I" } : Jvm.MethodName) prog_6_method_3_code (3 : Nat) (Option.some Jvm.ClassFile.FieldType.int)) ∈ Tg := tg_2 (i := 127) rfl rfl
theorem wd_368 : (Jvm.Cond.methodLink "LanguageServer$Parser" (81 : Nat) ({ cls := "LanguageServer$Parser", name := "className", desc := "(II)I" } : Jvm.MethodName)) ∈ Tg := tg_2 (i := 128) rfl rfl
theorem wd_370 : (Jvm.Cond.instanceMethod ({ cls := "LanguageServer$Parser", name := "className", desc := "(II)I" } : Jvm.MethodName)) ∈ Tg := tg_2 (i := 130) rfl rfl
theorem wd_371 : (Jvm.Cond.code ({ cls := "LanguageServer$Parser", name := "className", desc := "(II)I" } : Jvm.MethodName) prog_6_method_4_code (3 : Nat) (Option.some Jvm.ClassFile.FieldType.int)) ∈ Tg := tg_2 (i := 131) rfl rfl
theorem wd_372 : (Jvm.Cond.methodLink "LanguageServer$Parser" (104 : Nat) ({ cls := "LanguageServer$Outline", name := "addClass", desc := "(I)V" } : Jvm.MethodName)) ∈ Tg := tg_2 (i := 132) rfl rfl
theorem wd_373 : (Jvm.Cond.instanceMethod ({ cls := "LanguageServer$Outline", name := "addClass", desc := "(I)V" } : Jvm.MethodName)) ∈ Tg := tg_2 (i := 133) rfl rfl
theorem wd_374 : (Jvm.Cond.selects "LanguageServer$Outline" ({ cls := "LanguageServer$Outline", name := "addClass", desc := "(I)V" } : Jvm.MethodName) ({ cls := "LanguageServer$Outline", name := "addClass", desc := "(I)V" } : Jvm.MethodName)) ∈ Tg := tg_2 (i := 134) rfl rfl
theorem wd_375 : (Jvm.Cond.code ({ cls := "LanguageServer$Outline", name := "addClass", desc := "(I)V" } : Jvm.MethodName) prog_5_method_3_code (2 : Nat) (Option.none : Option Jvm.ClassFile.FieldType)) ∈ Tg := tg_2 (i := 135) rfl rfl
theorem wd_376 : (Jvm.Cond.methodLink "LanguageServer$Parser" (90 : Nat) ({ cls := "LanguageServer$Parser", name := "name", desc := "(IIII)I" } : Jvm.MethodName)) ∈ Tg := tg_2 (i := 136) rfl rfl
theorem wd_378 : (Jvm.Cond.instanceMethod ({ cls := "LanguageServer$Parser", name := "name", desc := "(IIII)I" } : Jvm.MethodName)) ∈ Tg := tg_2 (i := 138) rfl rfl
theorem wd_379 : (Jvm.Cond.code ({ cls := "LanguageServer$Parser", name := "name", desc := "(IIII)I" } : Jvm.MethodName) prog_6_method_18_code (5 : Nat) (Option.some Jvm.ClassFile.FieldType.int)) ∈ Tg := tg_2 (i := 139) rfl rfl
theorem wd_380 : (Jvm.Cond.methodLink "LanguageServer$Parser" (113 : Nat) ({ cls := "LanguageServer$Parser", name := "assign", desc := "(III)I" } : Jvm.MethodName)) ∈ Tg := tg_2 (i := 140) rfl rfl
theorem wd_382 : (Jvm.Cond.instanceMethod ({ cls := "LanguageServer$Parser", name := "assign", desc := "(III)I" } : Jvm.MethodName)) ∈ Tg := tg_2 (i := 142) rfl rfl
theorem wd_383 : (Jvm.Cond.code ({ cls := "LanguageServer$Parser", name := "assign", desc := "(III)I" } : Jvm.MethodName) prog_6_method_20_code (4 : Nat) (Option.some Jvm.ClassFile.FieldType.int)) ∈ Tg := tg_2 (i := 143) rfl rfl
theorem wd_384 : (Jvm.Cond.methodLink "LanguageServer$Parser" (84 : Nat) ({ cls := "LanguageServer$Parser", name := "only", desc := "(III)I" } : Jvm.MethodName)) ∈ Tg := tg_2 (i := 144) rfl rfl
theorem wd_385 : (Jvm.Cond.static ({ cls := "LanguageServer$Parser", name := "only", desc := "(III)I" } : Jvm.MethodName)) ∈ Tg := tg_2 (i := 145) rfl rfl
theorem wd_386 : (Jvm.Cond.code ({ cls := "LanguageServer$Parser", name := "only", desc := "(III)I" } : Jvm.MethodName) prog_6_method_21_code (3 : Nat) (Option.some Jvm.ClassFile.FieldType.int)) ∈ Tg := tg_2 (i := 146) rfl rfl
theorem wd_387 : (Jvm.Cond.methodLink "LanguageServer$Parser" (94 : Nat) ({ cls := "LanguageServer$Parser", name := "typeName", desc := "(III)I" } : Jvm.MethodName)) ∈ Tg := tg_2 (i := 147) rfl rfl
theorem wd_389 : (Jvm.Cond.instanceMethod ({ cls := "LanguageServer$Parser", name := "typeName", desc := "(III)I" } : Jvm.MethodName)) ∈ Tg := tg_2 (i := 149) rfl rfl
theorem wd_390 : (Jvm.Cond.code ({ cls := "LanguageServer$Parser", name := "typeName", desc := "(III)I" } : Jvm.MethodName) prog_6_method_19_code (4 : Nat) (Option.some Jvm.ClassFile.FieldType.int)) ∈ Tg := tg_2 (i := 150) rfl rfl
theorem wd_391 : (Jvm.Cond.methodLink "LanguageServer$Parser" (100 : Nat) ({ cls := "LanguageServer$Parser", name := "memberTail", desc := "(I)I" } : Jvm.MethodName)) ∈ Tg := tg_2 (i := 151) rfl rfl
theorem wd_393 : (Jvm.Cond.instanceMethod ({ cls := "LanguageServer$Parser", name := "memberTail", desc := "(I)I" } : Jvm.MethodName)) ∈ Tg := tg_2 (i := 153) rfl rfl
theorem wd_394 : (Jvm.Cond.code ({ cls := "LanguageServer$Parser", name := "memberTail", desc := "(I)I" } : Jvm.MethodName) prog_6_method_5_code (2 : Nat) (Option.some Jvm.ClassFile.FieldType.int)) ∈ Tg := tg_2 (i := 154) rfl rfl
theorem wd_395 : (Jvm.Cond.methodLink "LanguageServer$Parser" (54 : Nat) ({ cls := "LanguageServer$Parser", name := "nextInHead", desc := "(II)I" } : Jvm.MethodName)) ∈ Tg := tg_2 (i := 155) rfl rfl
theorem wd_397 : (Jvm.Cond.instanceMethod ({ cls := "LanguageServer$Parser", name := "nextInHead", desc := "(II)I" } : Jvm.MethodName)) ∈ Tg := tg_2 (i := 157) rfl rfl
theorem wd_398 : (Jvm.Cond.code ({ cls := "LanguageServer$Parser", name := "nextInHead", desc := "(II)I" } : Jvm.MethodName) prog_6_method_6_code (3 : Nat) (Option.some Jvm.ClassFile.FieldType.int)) ∈ Tg := tg_2 (i := 158) rfl rfl
theorem wd_399 : (Jvm.Cond.methodLink "LanguageServer$Parser" (57 : Nat) ({ cls := "LanguageServer$Parser", name := "nextInBody", desc := "(II)I" } : Jvm.MethodName)) ∈ Tg := tg_2 (i := 159) rfl rfl
theorem wd_401 : (Jvm.Cond.instanceMethod ({ cls := "LanguageServer$Parser", name := "nextInBody", desc := "(II)I" } : Jvm.MethodName)) ∈ Tg := tg_2 (i := 161) rfl rfl
theorem wd_402 : (Jvm.Cond.code ({ cls := "LanguageServer$Parser", name := "nextInBody", desc := "(II)I" } : Jvm.MethodName) prog_6_method_7_code (3 : Nat) (Option.some Jvm.ClassFile.FieldType.int)) ∈ Tg := tg_2 (i := 162) rfl rfl
theorem wd_403 : (Jvm.Cond.methodLink "LanguageServer$Parser" (116 : Nat) ({ cls := "LanguageServer$Parser", name := "statement", desc := "(II)I" } : Jvm.MethodName)) ∈ Tg := tg_2 (i := 163) rfl rfl
theorem wd_405 : (Jvm.Cond.instanceMethod ({ cls := "LanguageServer$Parser", name := "statement", desc := "(II)I" } : Jvm.MethodName)) ∈ Tg := tg_2 (i := 165) rfl rfl
theorem wd_406 : (Jvm.Cond.code ({ cls := "LanguageServer$Parser", name := "statement", desc := "(II)I" } : Jvm.MethodName) prog_6_method_8_code (4 : Nat) (Option.some Jvm.ClassFile.FieldType.int)) ∈ Tg := tg_2 (i := 166) rfl rfl
theorem wd_407 : (Jvm.Cond.methodLink "LanguageServer$Parser" (123 : Nat) ({ cls := "LanguageServer$Parser", name := "operand", desc := "(II)I" } : Jvm.MethodName)) ∈ Tg := tg_2 (i := 167) rfl rfl
theorem wd_409 : (Jvm.Cond.instanceMethod ({ cls := "LanguageServer$Parser", name := "operand", desc := "(II)I" } : Jvm.MethodName)) ∈ Tg := tg_2 (i := 169) rfl rfl
theorem wd_410 : (Jvm.Cond.code ({ cls := "LanguageServer$Parser", name := "operand", desc := "(II)I" } : Jvm.MethodName) prog_6_method_10_code (3 : Nat) (Option.some Jvm.ClassFile.FieldType.int)) ∈ Tg := tg_2 (i := 170) rfl rfl
theorem wd_411 : (Jvm.Cond.methodLink "LanguageServer$Parser" (135 : Nat) ({ cls := "LanguageServer$Parser", name := "open", desc := "(II)I" } : Jvm.MethodName)) ∈ Tg := tg_2 (i := 171) rfl rfl
theorem wd_413 : (Jvm.Cond.instanceMethod ({ cls := "LanguageServer$Parser", name := "open", desc := "(II)I" } : Jvm.MethodName)) ∈ Tg := tg_2 (i := 173) rfl rfl
theorem wd_414 : (Jvm.Cond.code ({ cls := "LanguageServer$Parser", name := "open", desc := "(II)I" } : Jvm.MethodName) prog_6_method_15_code (3 : Nat) (Option.some Jvm.ClassFile.FieldType.int)) ∈ Tg := tg_2 (i := 174) rfl rfl
theorem wd_415 : (Jvm.Cond.methodLink "LanguageServer$Parser" (60 : Nat) ({ cls := "LanguageServer$Parser", name := "nextInExpression", desc := "(II)I" } : Jvm.MethodName)) ∈ Tg := tg_2 (i := 175) rfl rfl
theorem wd_417 : (Jvm.Cond.instanceMethod ({ cls := "LanguageServer$Parser", name := "nextInExpression", desc := "(II)I" } : Jvm.MethodName)) ∈ Tg := tg_2 (i := 177) rfl rfl
theorem wd_418 : (Jvm.Cond.code ({ cls := "LanguageServer$Parser", name := "nextInExpression", desc := "(II)I" } : Jvm.MethodName) prog_6_method_9_code (3 : Nat) (Option.some Jvm.ClassFile.FieldType.int)) ∈ Tg := tg_2 (i := 178) rfl rfl
theorem wd_419 : (Jvm.Cond.methodLink "LanguageServer$Parser" (126 : Nat) ({ cls := "LanguageServer$Parser", name := "openArguments", desc := "(I)I" } : Jvm.MethodName)) ∈ Tg := tg_2 (i := 179) rfl rfl
theorem wd_421 : (Jvm.Cond.instanceMethod ({ cls := "LanguageServer$Parser", name := "openArguments", desc := "(I)I" } : Jvm.MethodName)) ∈ Tg := tg_2 (i := 181) rfl rfl
theorem wd_422 : (Jvm.Cond.code ({ cls := "LanguageServer$Parser", name := "openArguments", desc := "(I)I" } : Jvm.MethodName) prog_6_method_11_code (3 : Nat) (Option.some Jvm.ClassFile.FieldType.int)) ∈ Tg := tg_2 (i := 182) rfl rfl
theorem wd_423 : (Jvm.Cond.methodLink "LanguageServer$Parser" (129 : Nat) ({ cls := "LanguageServer$Parser", name := "tail", desc := "(II)I" } : Jvm.MethodName)) ∈ Tg := tg_2 (i := 183) rfl rfl
theorem wd_425 : (Jvm.Cond.instanceMethod ({ cls := "LanguageServer$Parser", name := "tail", desc := "(II)I" } : Jvm.MethodName)) ∈ Tg := tg_2 (i := 185) rfl rfl
theorem wd_426 : (Jvm.Cond.code ({ cls := "LanguageServer$Parser", name := "tail", desc := "(II)I" } : Jvm.MethodName) prog_6_method_13_code (3 : Nat) (Option.some Jvm.ClassFile.FieldType.int)) ∈ Tg := tg_2 (i := 186) rfl rfl
theorem wd_427 : (Jvm.Cond.methodLink "LanguageServer$Parser" (141 : Nat) ({ cls := "LanguageServer$Parser", name := "countArgument", desc := "()Z" } : Jvm.MethodName)) ∈ Tg := tg_2 (i := 187) rfl rfl
theorem wd_429 : (Jvm.Cond.instanceMethod ({ cls := "LanguageServer$Parser", name := "countArgument", desc := "()Z" } : Jvm.MethodName)) ∈ Tg := tg_2 (i := 189) rfl rfl
theorem wd_430 : (Jvm.Cond.code ({ cls := "LanguageServer$Parser", name := "countArgument", desc := "()Z" } : Jvm.MethodName) prog_6_method_17_code (2 : Nat) (Option.some Jvm.ClassFile.FieldType.boolean)) ∈ Tg := tg_2 (i := 190) rfl rfl
theorem wd_431 : (Jvm.Cond.methodLink "LanguageServer$Parser" (138 : Nat) ({ cls := "LanguageServer$Parser", name := "close", desc := "(I)I" } : Jvm.MethodName)) ∈ Tg := tg_2 (i := 191) rfl rfl
theorem wd_433 : (Jvm.Cond.instanceMethod ({ cls := "LanguageServer$Parser", name := "close", desc := "(I)I" } : Jvm.MethodName)) ∈ Tg := tg_2 (i := 193) rfl rfl
theorem wd_434 : (Jvm.Cond.code ({ cls := "LanguageServer$Parser", name := "close", desc := "(I)I" } : Jvm.MethodName) prog_6_method_16_code (2 : Nat) (Option.some Jvm.ClassFile.FieldType.int)) ∈ Tg := tg_2 (i := 194) rfl rfl
theorem wd_435 : (Jvm.Cond.methodLink "LanguageServer$Parser" (145 : Nat) ({ cls := "LanguageServer$Parser", name := "equalsSign", desc := "(I)I" } : Jvm.MethodName)) ∈ Tg := tg_2 (i := 195) rfl rfl
theorem wd_437 : (Jvm.Cond.instanceMethod ({ cls := "LanguageServer$Parser", name := "equalsSign", desc := "(I)I" } : Jvm.MethodName)) ∈ Tg := tg_2 (i := 197) rfl rfl
theorem wd_438 : (Jvm.Cond.code ({ cls := "LanguageServer$Parser", name := "equalsSign", desc := "(I)I" } : Jvm.MethodName) prog_6_method_14_code (2 : Nat) (Option.some Jvm.ClassFile.FieldType.int)) ∈ Tg := tg_2 (i := 198) rfl rfl
theorem wd_439 : (Jvm.Cond.methodLink "LanguageServer$Parser" (132 : Nat) ({ cls := "LanguageServer$Parser", name := "firstArgument", desc := "(II)I" } : Jvm.MethodName)) ∈ Tg := tg_2 (i := 199) rfl rfl
theorem wd_441 : (Jvm.Cond.instanceMethod ({ cls := "LanguageServer$Parser", name := "firstArgument", desc := "(II)I" } : Jvm.MethodName)) ∈ Tg := tg_2 (i := 201) rfl rfl
theorem wd_442 : (Jvm.Cond.code ({ cls := "LanguageServer$Parser", name := "firstArgument", desc := "(II)I" } : Jvm.MethodName) prog_6_method_12_code (3 : Nat) (Option.some Jvm.ClassFile.FieldType.int)) ∈ Tg := tg_2 (i := 202) rfl rfl
theorem wd_443 : (Jvm.Cond.methodLink "LanguageServer$Parser" (63 : Nat) ({ cls := "LanguageServer$Outline", name := "giveUp", desc := "(I)V" } : Jvm.MethodName)) ∈ Tg := tg_2 (i := 203) rfl rfl
theorem wd_444 : (Jvm.Cond.instanceMethod ({ cls := "LanguageServer$Outline", name := "giveUp", desc := "(I)V" } : Jvm.MethodName)) ∈ Tg := tg_2 (i := 204) rfl rfl
theorem wd_445 : (Jvm.Cond.selects "LanguageServer$Outline" ({ cls := "LanguageServer$Outline", name := "giveUp", desc := "(I)V" } : Jvm.MethodName) ({ cls := "LanguageServer$Outline", name := "giveUp", desc := "(I)V" } : Jvm.MethodName)) ∈ Tg := tg_2 (i := 205) rfl rfl
theorem wd_446 : (Jvm.Cond.code ({ cls := "LanguageServer$Outline", name := "giveUp", desc := "(I)V" } : Jvm.MethodName) prog_5_method_5_code (2 : Nat) (Option.none : Option Jvm.ClassFile.FieldType)) ∈ Tg := tg_2 (i := 206) rfl rfl
theorem wd_447 : (Jvm.Cond.methodLink "LanguageServer$Parser" (70 : Nat) ({ cls := "LanguageServer$Complaints", name := "setFault", desc := "(I)V" } : Jvm.MethodName)) ∈ Tg := tg_2 (i := 207) rfl rfl
theorem wd_448 : (Jvm.Cond.instanceMethod ({ cls := "LanguageServer$Complaints", name := "setFault", desc := "(I)V" } : Jvm.MethodName)) ∈ Tg := tg_2 (i := 208) rfl rfl
theorem wd_449 : (Jvm.Cond.selects "LanguageServer$Complaints" ({ cls := "LanguageServer$Complaints", name := "setFault", desc := "(I)V" } : Jvm.MethodName) ({ cls := "LanguageServer$Complaints", name := "setFault", desc := "(I)V" } : Jvm.MethodName)) ∈ Tg := tg_2 (i := 209) rfl rfl
theorem wd_450 : (Jvm.Cond.code ({ cls := "LanguageServer$Complaints", name := "setFault", desc := "(I)V" } : Jvm.MethodName) prog_2_method_3_code (2 : Nat) (Option.none : Option Jvm.ClassFile.FieldType)) ∈ Tg := tg_2 (i := 210) rfl rfl
theorem wd_451 : (Jvm.Cond.methodLink "LanguageServer$Parser" (76 : Nat) ({ cls := "LanguageServer$Outline", name := "finish", desc := "(I)V" } : Jvm.MethodName)) ∈ Tg := tg_2 (i := 211) rfl rfl
theorem wd_452 : (Jvm.Cond.instanceMethod ({ cls := "LanguageServer$Outline", name := "finish", desc := "(I)V" } : Jvm.MethodName)) ∈ Tg := tg_2 (i := 212) rfl rfl
theorem wd_453 : (Jvm.Cond.selects "LanguageServer$Outline" ({ cls := "LanguageServer$Outline", name := "finish", desc := "(I)V" } : Jvm.MethodName) ({ cls := "LanguageServer$Outline", name := "finish", desc := "(I)V" } : Jvm.MethodName)) ∈ Tg := tg_2 (i := 213) rfl rfl
theorem wd_454 : (Jvm.Cond.code ({ cls := "LanguageServer$Outline", name := "finish", desc := "(I)V" } : Jvm.MethodName) prog_5_method_4_code (2 : Nat) (Option.none : Option Jvm.ClassFile.FieldType)) ∈ Tg := tg_2 (i := 214) rfl rfl
theorem wd_455 : (Jvm.Cond.methodLink "LanguageServer$Reading" (75 : Nat) ({ cls := "LanguageServer$Complaints", name := "hasFault", desc := "()Z" } : Jvm.MethodName)) ∈ Tg := tg_2 (i := 215) rfl rfl
theorem wd_456 : (Jvm.Cond.instanceMethod ({ cls := "LanguageServer$Complaints", name := "hasFault", desc := "()Z" } : Jvm.MethodName)) ∈ Tg := tg_2 (i := 216) rfl rfl
theorem wd_457 : (Jvm.Cond.selects "LanguageServer$Complaints" ({ cls := "LanguageServer$Complaints", name := "hasFault", desc := "()Z" } : Jvm.MethodName) ({ cls := "LanguageServer$Complaints", name := "hasFault", desc := "()Z" } : Jvm.MethodName)) ∈ Tg := tg_2 (i := 217) rfl rfl
theorem wd_458 : (Jvm.Cond.code ({ cls := "LanguageServer$Complaints", name := "hasFault", desc := "()Z" } : Jvm.MethodName) prog_2_method_4_code (1 : Nat) (Option.some Jvm.ClassFile.FieldType.boolean)) ∈ Tg := tg_2 (i := 218) rfl rfl
theorem wd_459 : (Jvm.Cond.methodLink "LanguageServer$Reading" (79 : Nat) ({ cls := "LanguageServer$Declarer", name := "declare", desc := "()V" } : Jvm.MethodName)) ∈ Tg := tg_2 (i := 219) rfl rfl
theorem wd_460 : (Jvm.Cond.instanceMethod ({ cls := "LanguageServer$Declarer", name := "declare", desc := "()V" } : Jvm.MethodName)) ∈ Tg := tg_2 (i := 220) rfl rfl
theorem wd_461 : (Jvm.Cond.selects "LanguageServer$Declarer" ({ cls := "LanguageServer$Declarer", name := "declare", desc := "()V" } : Jvm.MethodName) ({ cls := "LanguageServer$Declarer", name := "declare", desc := "()V" } : Jvm.MethodName)) ∈ Tg := tg_2 (i := 221) rfl rfl
theorem wd_462 : (Jvm.Cond.code ({ cls := "LanguageServer$Declarer", name := "declare", desc := "()V" } : Jvm.MethodName) prog_3_method_2_code (2 : Nat) (Option.none : Option Jvm.ClassFile.FieldType)) ∈ Tg := tg_2 (i := 222) rfl rfl
theorem wd_463 : (Jvm.Cond.methodLink "LanguageServer$Declarer" (43 : Nat) ({ cls := "LanguageServer$Declarer", name := "tell", desc := "(IIII)V" } : Jvm.MethodName)) ∈ Tg := tg_2 (i := 223) rfl rfl
theorem wd_465 : (Jvm.Cond.instanceMethod ({ cls := "LanguageServer$Declarer", name := "tell", desc := "(IIII)V" } : Jvm.MethodName)) ∈ Tg := tg_2 (i := 225) rfl rfl
theorem wd_466 : (Jvm.Cond.code ({ cls := "LanguageServer$Declarer", name := "tell", desc := "(IIII)V" } : Jvm.MethodName) prog_3_method_3_code (5 : Nat) (Option.none : Option Jvm.ClassFile.FieldType)) ∈ Tg := tg_2 (i := 226) rfl rfl
theorem wd_467 : (Jvm.Cond.methodLink "LanguageServer$Declarer" (70 : Nat) ({ cls := "LanguageServer$Outline", name := "find", desc := "(IIJI)I" } : Jvm.MethodName)) ∈ Tg := tg_2 (i := 227) rfl rfl
theorem wd_468 : (Jvm.Cond.instanceMethod ({ cls := "LanguageServer$Outline", name := "find", desc := "(IIJI)I" } : Jvm.MethodName)) ∈ Tg := tg_2 (i := 228) rfl rfl
theorem wd_469 : (Jvm.Cond.selects "LanguageServer$Outline" ({ cls := "LanguageServer$Outline", name := "find", desc := "(IIJI)I" } : Jvm.MethodName) ({ cls := "LanguageServer$Outline", name := "find", desc := "(IIJI)I" } : Jvm.MethodName)) ∈ Tg := tg_2 (i := 229) rfl rfl
theorem wd_470 : (Jvm.Cond.code ({ cls := "LanguageServer$Outline", name := "find", desc := "(IIJI)I" } : Jvm.MethodName) prog_5_method_7_code (7 : Nat) (Option.some Jvm.ClassFile.FieldType.int)) ∈ Tg := tg_2 (i := 230) rfl rfl
theorem wd_471 : (Jvm.Cond.methodLink "LanguageServer$Outline" (54 : Nat) ({ cls := "java/lang/Math", name := "max", desc := "(II)I" } : Jvm.MethodName)) ∈ Tg := tg_2 (i := 231) rfl rfl
theorem wd_472 : (Jvm.Cond.static ({ cls := "java/lang/Math", name := "max", desc := "(II)I" } : Jvm.MethodName)) ∈ Tg := tg_2 (i := 232) rfl rfl
theorem wd_473 : (Jvm.Cond.code ({ cls := "java/lang/Math", name := "max", desc := "(II)I" } : Jvm.MethodName) prog_18_method_65_code (2 : Nat) (Option.some Jvm.ClassFile.FieldType.int)) ∈ Tg := tg_2 (i := 233) rfl rfl
theorem wd_474 : (Jvm.Cond.methodLink "LanguageServer$Declarer" (77 : Nat) ({ cls := "LanguageServer$Complaints", name := "mark", desc := "(II)V" } : Jvm.MethodName)) ∈ Tg := tg_2 (i := 234) rfl rfl
theorem wd_475 : (Jvm.Cond.instanceMethod ({ cls := "LanguageServer$Complaints", name := "mark", desc := "(II)V" } : Jvm.MethodName)) ∈ Tg := tg_2 (i := 235) rfl rfl
theorem wd_476 : (Jvm.Cond.selects "LanguageServer$Complaints" ({ cls := "LanguageServer$Complaints", name := "mark", desc := "(II)V" } : Jvm.MethodName) ({ cls := "LanguageServer$Complaints", name := "mark", desc := "(II)V" } : Jvm.MethodName)) ∈ Tg := tg_2 (i := 236) rfl rfl
theorem wd_477 : (Jvm.Cond.code ({ cls := "LanguageServer$Complaints", name := "mark", desc := "(II)V" } : Jvm.MethodName) prog_2_method_5_code (3 : Nat) (Option.none : Option Jvm.ClassFile.FieldType)) ∈ Tg := tg_2 (i := 237) rfl rfl
theorem wd_478 : (Jvm.Cond.methodLink "LanguageServer$Declarer" (47 : Nat) ({ cls := "LanguageServer$Declarer", name := "nameClass", desc := "(I)V" } : Jvm.MethodName)) ∈ Tg := tg_2 (i := 238) rfl rfl
theorem wd_480 : (Jvm.Cond.instanceMethod ({ cls := "LanguageServer$Declarer", name := "nameClass", desc := "(I)V" } : Jvm.MethodName)) ∈ Tg := tg_3 (i := 0) rfl rfl
theorem wd_481 : (Jvm.Cond.code ({ cls := "LanguageServer$Declarer", name := "nameClass", desc := "(I)V" } : Jvm.MethodName) prog_3_method_4_code (2 : Nat) (Option.none : Option Jvm.ClassFile.FieldType)) ∈ Tg := tg_3 (i := 1) rfl rfl
theorem wd_482 : (Jvm.Cond.methodLink "LanguageServer$Declarer" (57 : Nat) ({ cls := "LanguageServer$Declarer", name := "typeBefore", desc := "(I)I" } : Jvm.MethodName)) ∈ Tg := tg_3 (i := 2) rfl rfl
theorem wd_484 : (Jvm.Cond.instanceMethod ({ cls := "LanguageServer$Declarer", name := "typeBefore", desc := "(I)I" } : Jvm.MethodName)) ∈ Tg := tg_3 (i := 4) rfl rfl
theorem wd_485 : (Jvm.Cond.code ({ cls := "LanguageServer$Declarer", name := "typeBefore", desc := "(I)I" } : Jvm.MethodName) prog_3_method_5_code (2 : Nat) (Option.some Jvm.ClassFile.FieldType.int)) ∈ Tg := tg_3 (i := 5) rfl rfl
theorem wd_486 : (Jvm.Cond.methodLink "LanguageServer$Declarer" (86 : Nat) ({ cls := "LanguageServer$Outline", name := "typeNamed", desc := "(I)I" } : Jvm.MethodName)) ∈ Tg := tg_3 (i := 6) rfl rfl
theorem wd_487 : (Jvm.Cond.instanceMethod ({ cls := "LanguageServer$Outline", name := "typeNamed", desc := "(I)I" } : Jvm.MethodName)) ∈ Tg := tg_3 (i := 7) rfl rfl
theorem wd_488 : (Jvm.Cond.selects "LanguageServer$Outline" ({ cls := "LanguageServer$Outline", name := "typeNamed", desc := "(I)I" } : Jvm.MethodName) ({ cls := "LanguageServer$Outline", name := "typeNamed", desc := "(I)I" } : Jvm.MethodName)) ∈ Tg := tg_3 (i := 8) rfl rfl
theorem wd_489 : (Jvm.Cond.code ({ cls := "LanguageServer$Outline", name := "typeNamed", desc := "(I)I" } : Jvm.MethodName) prog_5_method_11_code (2 : Nat) (Option.some Jvm.ClassFile.FieldType.int)) ∈ Tg := tg_3 (i := 9) rfl rfl
theorem wd_490 : (Jvm.Cond.methodLink "LanguageServer$Declarer" (61 : Nat) ({ cls := "LanguageServer$Declarer", name := "tieSuperclasses", desc := "()V" } : Jvm.MethodName)) ∈ Tg := tg_3 (i := 10) rfl rfl
theorem wd_492 : (Jvm.Cond.instanceMethod ({ cls := "LanguageServer$Declarer", name := "tieSuperclasses", desc := "()V" } : Jvm.MethodName)) ∈ Tg := tg_3 (i := 12) rfl rfl
theorem wd_493 : (Jvm.Cond.code ({ cls := "LanguageServer$Declarer", name := "tieSuperclasses", desc := "()V" } : Jvm.MethodName) prog_3_method_6_code (3 : Nat) (Option.none : Option Jvm.ClassFile.FieldType)) ∈ Tg := tg_3 (i := 13) rfl rfl
theorem wd_494 : (Jvm.Cond.methodLink "LanguageServer$Declarer" (92 : Nat) ({ cls := "LanguageServer$Declarer", name := "superName", desc := "(I)I" } : Jvm.MethodName)) ∈ Tg := tg_3 (i := 14) rfl rfl
theorem wd_496 : (Jvm.Cond.instanceMethod ({ cls := "LanguageServer$Declarer", name := "superName", desc := "(I)I" } : Jvm.MethodName)) ∈ Tg := tg_3 (i := 16) rfl rfl
theorem wd_497 : (Jvm.Cond.code ({ cls := "LanguageServer$Declarer", name := "superName", desc := "(I)I" } : Jvm.MethodName) prog_3_method_7_code (3 : Nat) (Option.some Jvm.ClassFile.FieldType.int)) ∈ Tg := tg_3 (i := 17) rfl rfl
theorem wd_498 : (Jvm.Cond.methodLink "LanguageServer$Declarer" (95 : Nat) ({ cls := "LanguageServer$Declarer", name := "leadsBack", desc := "(I)Z" } : Jvm.MethodName)) ∈ Tg := tg_3 (i := 18) rfl rfl
theorem wd_500 : (Jvm.Cond.instanceMethod ({ cls := "LanguageServer$Declarer", name := "leadsBack", desc := "(I)Z" } : Jvm.MethodName)) ∈ Tg := tg_3 (i := 20) rfl rfl
theorem wd_501 : (Jvm.Cond.code ({ cls := "LanguageServer$Declarer", name := "leadsBack", desc := "(I)Z" } : Jvm.MethodName) prog_3_method_8_code (4 : Nat) (Option.some Jvm.ClassFile.FieldType.boolean)) ∈ Tg := tg_3 (i := 21) rfl rfl
theorem wd_502 : (Jvm.Cond.methodLink "LanguageServer$Declarer" (105 : Nat) ({ cls := "LanguageServer$Outline", name := "isClass", desc := "(I)Z" } : Jvm.MethodName)) ∈ Tg := tg_3 (i := 22) rfl rfl
theorem wd_503 : (Jvm.Cond.instanceMethod ({ cls := "LanguageServer$Outline", name := "isClass", desc := "(I)Z" } : Jvm.MethodName)) ∈ Tg := tg_3 (i := 23) rfl rfl
theorem wd_504 : (Jvm.Cond.selects "LanguageServer$Outline" ({ cls := "LanguageServer$Outline", name := "isClass", desc := "(I)Z" } : Jvm.MethodName) ({ cls := "LanguageServer$Outline", name := "isClass", desc := "(I)Z" } : Jvm.MethodName)) ∈ Tg := tg_3 (i := 24) rfl rfl
theorem wd_505 : (Jvm.Cond.code ({ cls := "LanguageServer$Outline", name := "isClass", desc := "(I)Z" } : Jvm.MethodName) prog_5_method_6_code (2 : Nat) (Option.some Jvm.ClassFile.FieldType.boolean)) ∈ Tg := tg_3 (i := 25) rfl rfl
theorem wd_506 : (Jvm.Cond.methodLink "LanguageServer$Reading" (82 : Nat) ({ cls := "LanguageServer$Judge", name := "judge", desc := "()V" } : Jvm.MethodName)) ∈ Tg := tg_3 (i := 26) rfl rfl
theorem wd_507 : (Jvm.Cond.instanceMethod ({ cls := "LanguageServer$Judge", name := "judge", desc := "()V" } : Jvm.MethodName)) ∈ Tg := tg_3 (i := 27) rfl rfl
theorem wd_508 : (Jvm.Cond.selects "LanguageServer$Judge" ({ cls := "LanguageServer$Judge", name := "judge", desc := "()V" } : Jvm.MethodName) ({ cls := "LanguageServer$Judge", name := "judge", desc := "()V" } : Jvm.MethodName)) ∈ Tg := tg_3 (i := 28) rfl rfl
theorem wd_509 : (Jvm.Cond.code ({ cls := "LanguageServer$Judge", name := "judge", desc := "()V" } : Jvm.MethodName) prog_4_method_2_code (3 : Nat) (Option.none : Option Jvm.ClassFile.FieldType)) ∈ Tg := tg_3 (i := 29) rfl rfl
theorem wd_510 : (Jvm.Cond.methodLink "LanguageServer$Judge" (57 : Nat) ({ cls := "LanguageServer$Judge", name := "enter", desc := "(II)V" } : Jvm.MethodName)) ∈ Tg := tg_3 (i := 30) rfl rfl
theorem wd_512 : (Jvm.Cond.instanceMethod ({ cls := "LanguageServer$Judge", name := "enter", desc := "(II)V" } : Jvm.MethodName)) ∈ Tg := tg_3 (i := 32) rfl rfl
theorem wd_513 : (Jvm.Cond.code ({ cls := "LanguageServer$Judge", name := "enter", desc := "(II)V" } : Jvm.MethodName) prog_4_method_3_code (3 : Nat) (Option.none : Option Jvm.ClassFile.FieldType)) ∈ Tg := tg_3 (i := 33) rfl rfl
theorem wd_514 : (Jvm.Cond.methodLink "LanguageServer$Judge" (82 : Nat) ({ cls := "LanguageServer$Outline", name := "typeNamed", desc := "(I)I" } : Jvm.MethodName)) ∈ Tg := tg_3 (i := 34) rfl rfl
theorem wd_515 : (Jvm.Cond.methodLink "LanguageServer$Judge" (61 : Nat) ({ cls := "LanguageServer$Judge", name := "takeOperand", desc := "(II)V" } : Jvm.MethodName)) ∈ Tg := tg_3 (i := 35) rfl rfl
theorem wd_517 : (Jvm.Cond.instanceMethod ({ cls := "LanguageServer$Judge", name := "takeOperand", desc := "(II)V" } : Jvm.MethodName)) ∈ Tg := tg_3 (i := 37) rfl rfl
theorem wd_518 : (Jvm.Cond.code ({ cls := "LanguageServer$Judge", name := "takeOperand", desc := "(II)V" } : Jvm.MethodName) prog_4_method_4_code (3 : Nat) (Option.none : Option Jvm.ClassFile.FieldType)) ∈ Tg := tg_3 (i := 38) rfl rfl
theorem wd_519 : (Jvm.Cond.methodLink "LanguageServer$Judge" (86 : Nat) ({ cls := "LanguageServer$Judge", name := "useVariable", desc := "(I)Z" } : Jvm.MethodName)) ∈ Tg := tg_3 (i := 39) rfl rfl
theorem wd_521 : (Jvm.Cond.instanceMethod ({ cls := "LanguageServer$Judge", name := "useVariable", desc := "(I)Z" } : Jvm.MethodName)) ∈ Tg := tg_3 (i := 41) rfl rfl
theorem wd_522 : (Jvm.Cond.code ({ cls := "LanguageServer$Judge", name := "useVariable", desc := "(I)Z" } : Jvm.MethodName) prog_4_method_5_code (2 : Nat) (Option.some Jvm.ClassFile.FieldType.boolean)) ∈ Tg := tg_3 (i := 42) rfl rfl
theorem wd_523 : (Jvm.Cond.methodLink "LanguageServer$Judge" (108 : Nat) ({ cls := "LanguageServer$Outline", name := "find", desc := "(IIJI)I" } : Jvm.MethodName)) ∈ Tg := tg_3 (i := 43) rfl rfl
theorem wd_524 : (Jvm.Cond.methodLink "LanguageServer$Judge" (92 : Nat) ({ cls := "LanguageServer$Judge", name := "useMember", desc := "(IIII)V" } : Jvm.MethodName)) ∈ Tg := tg_3 (i := 44) rfl rfl
theorem wd_526 : (Jvm.Cond.instanceMethod ({ cls := "LanguageServer$Judge", name := "useMember", desc := "(IIII)V" } : Jvm.MethodName)) ∈ Tg := tg_3 (i := 46) rfl rfl
theorem wd_527 : (Jvm.Cond.code ({ cls := "LanguageServer$Judge", name := "useMember", desc := "(IIII)V" } : Jvm.MethodName) prog_4_method_6_code (6 : Nat) (Option.none : Option Jvm.ClassFile.FieldType)) ∈ Tg := tg_3 (i := 47) rfl rfl
theorem wd_528 : (Jvm.Cond.methodLink "LanguageServer$Judge" (112 : Nat) ({ cls := "LanguageServer$Outline", name := "findMember", desc := "(IJ)I" } : Jvm.MethodName)) ∈ Tg := tg_3 (i := 48) rfl rfl
theorem wd_529 : (Jvm.Cond.instanceMethod ({ cls := "LanguageServer$Outline", name := "findMember", desc := "(IJ)I" } : Jvm.MethodName)) ∈ Tg := tg_3 (i := 49) rfl rfl
theorem wd_530 : (Jvm.Cond.selects "LanguageServer$Outline" ({ cls := "LanguageServer$Outline", name := "findMember", desc := "(IJ)I" } : Jvm.MethodName) ({ cls := "LanguageServer$Outline", name := "findMember", desc := "(IJ)I" } : Jvm.MethodName)) ∈ Tg := tg_3 (i := 50) rfl rfl
theorem wd_531 : (Jvm.Cond.code ({ cls := "LanguageServer$Outline", name := "findMember", desc := "(IJ)I" } : Jvm.MethodName) prog_5_method_8_code (7 : Nat) (Option.some Jvm.ClassFile.FieldType.int)) ∈ Tg := tg_3 (i := 51) rfl rfl
theorem wd_532 : (Jvm.Cond.methodLink "LanguageServer$Outline" (64 : Nat) ({ cls := "LanguageServer$Outline", name := "isClass", desc := "(I)Z" } : Jvm.MethodName)) ∈ Tg := tg_3 (i := 52) rfl rfl
theorem wd_533 : (Jvm.Cond.methodLink "LanguageServer$Outline" (68 : Nat) ({ cls := "LanguageServer$Outline", name := "find", desc := "(IIJI)I" } : Jvm.MethodName)) ∈ Tg := tg_3 (i := 53) rfl rfl
theorem wd_534 : (Jvm.Cond.methodLink "LanguageServer$Judge" (116 : Nat) ({ cls := "LanguageServer$Complaints", name := "mark", desc := "(II)V" } : Jvm.MethodName)) ∈ Tg := tg_3 (i := 54) rfl rfl
theorem wd_535 : (Jvm.Cond.methodLink "LanguageServer$Judge" (64 : Nat) ({ cls := "LanguageServer$Judge", name := "takeStatementSign", desc := "(II)V" } : Jvm.MethodName)) ∈ Tg := tg_3 (i := 55) rfl rfl
theorem wd_537 : (Jvm.Cond.instanceMethod ({ cls := "LanguageServer$Judge", name := "takeStatementSign", desc := "(II)V" } : Jvm.MethodName)) ∈ Tg := tg_3 (i := 57) rfl rfl
theorem wd_538 : (Jvm.Cond.code ({ cls := "LanguageServer$Judge", name := "takeStatementSign", desc := "(II)V" } : Jvm.MethodName) prog_4_method_7_code (3 : Nat) (Option.none : Option Jvm.ClassFile.FieldType)) ∈ Tg := tg_3 (i := 58) rfl rfl
theorem wd_539 : (Jvm.Cond.methodLink "LanguageServer$Judge" (122 : Nat) ({ cls := "LanguageServer$Judge", name := "beginStatement", desc := "(I)V" } : Jvm.MethodName)) ∈ Tg := tg_3 (i := 59) rfl rfl
theorem wd_541 : (Jvm.Cond.instanceMethod ({ cls := "LanguageServer$Judge", name := "beginStatement", desc := "(I)V" } : Jvm.MethodName)) ∈ Tg := tg_3 (i := 61) rfl rfl
theorem wd_542 : (Jvm.Cond.code ({ cls := "LanguageServer$Judge", name := "beginStatement", desc := "(I)V" } : Jvm.MethodName) prog_4_method_8_code (2 : Nat) (Option.none : Option Jvm.ClassFile.FieldType)) ∈ Tg := tg_3 (i := 62) rfl rfl
theorem wd_543 : (Jvm.Cond.methodLink "LanguageServer$Judge" (129 : Nat) ({ cls := "LanguageServer$Judge", name := "begin", desc := "(I)V" } : Jvm.MethodName)) ∈ Tg := tg_3 (i := 63) rfl rfl
theorem wd_545 : (Jvm.Cond.instanceMethod ({ cls := "LanguageServer$Judge", name := "begin", desc := "(I)V" } : Jvm.MethodName)) ∈ Tg := tg_3 (i := 65) rfl rfl
theorem wd_546 : (Jvm.Cond.code ({ cls := "LanguageServer$Judge", name := "begin", desc := "(I)V" } : Jvm.MethodName) prog_4_method_13_code (2 : Nat) (Option.none : Option Jvm.ClassFile.FieldType)) ∈ Tg := tg_3 (i := 66) rfl rfl
theorem wd_547 : (Jvm.Cond.methodLink "LanguageServer$Judge" (132 : Nat) ({ cls := "LanguageServer$Judge", name := "checkTarget", desc := "(I)V" } : Jvm.MethodName)) ∈ Tg := tg_3 (i := 67) rfl rfl
theorem wd_549 : (Jvm.Cond.instanceMethod ({ cls := "LanguageServer$Judge", name := "checkTarget", desc := "(I)V" } : Jvm.MethodName)) ∈ Tg := tg_3 (i := 69) rfl rfl
theorem wd_550 : (Jvm.Cond.code ({ cls := "LanguageServer$Judge", name := "checkTarget", desc := "(I)V" } : Jvm.MethodName) prog_4_method_9_code (3 : Nat) (Option.none : Option Jvm.ClassFile.FieldType)) ∈ Tg := tg_3 (i := 70) rfl rfl
theorem wd_551 : (Jvm.Cond.methodLink "LanguageServer$Judge" (135 : Nat) ({ cls := "LanguageServer$Judge", name := "endExpression", desc := "()I" } : Jvm.MethodName)) ∈ Tg := tg_3 (i := 71) rfl rfl
theorem wd_553 : (Jvm.Cond.instanceMethod ({ cls := "LanguageServer$Judge", name := "endExpression", desc := "()I" } : Jvm.MethodName)) ∈ Tg := tg_3 (i := 73) rfl rfl
theorem wd_554 : (Jvm.Cond.code ({ cls := "LanguageServer$Judge", name := "endExpression", desc := "()I" } : Jvm.MethodName) prog_4_method_14_code (1 : Nat) (Option.some Jvm.ClassFile.FieldType.int)) ∈ Tg := tg_3 (i := 74) rfl rfl
theorem wd_555 : (Jvm.Cond.methodLink "LanguageServer$Judge" (139 : Nat) ({ cls := "LanguageServer$Judge", name := "want", desc := "(III)V" } : Jvm.MethodName)) ∈ Tg := tg_3 (i := 75) rfl rfl
theorem wd_557 : (Jvm.Cond.instanceMethod ({ cls := "LanguageServer$Judge", name := "want", desc := "(III)V" } : Jvm.MethodName)) ∈ Tg := tg_3 (i := 77) rfl rfl
theorem wd_558 : (Jvm.Cond.code ({ cls := "LanguageServer$Judge", name := "want", desc := "(III)V" } : Jvm.MethodName) prog_4_method_16_code (4 : Nat) (Option.none : Option Jvm.ClassFile.FieldType)) ∈ Tg := tg_3 (i := 78) rfl rfl
theorem wd_559 : (Jvm.Cond.methodLink "LanguageServer$Judge" (156 : Nat) ({ cls := "LanguageServer$Outline", name := "isRight", desc := "(II)Z" } : Jvm.MethodName)) ∈ Tg := tg_3 (i := 79) rfl rfl
theorem wd_560 : (Jvm.Cond.instanceMethod ({ cls := "LanguageServer$Outline", name := "isRight", desc := "(II)Z" } : Jvm.MethodName)) ∈ Tg := tg_3 (i := 80) rfl rfl
theorem wd_561 : (Jvm.Cond.selects "LanguageServer$Outline" ({ cls := "LanguageServer$Outline", name := "isRight", desc := "(II)Z" } : Jvm.MethodName) ({ cls := "LanguageServer$Outline", name := "isRight", desc := "(II)Z" } : Jvm.MethodName)) ∈ Tg := tg_3 (i := 81) rfl rfl
theorem wd_562 : (Jvm.Cond.code ({ cls := "LanguageServer$Outline", name := "isRight", desc := "(II)Z" } : Jvm.MethodName) prog_5_method_13_code (5 : Nat) (Option.some Jvm.ClassFile.FieldType.boolean)) ∈ Tg := tg_3 (i := 82) rfl rfl
theorem wd_563 : (Jvm.Cond.methodLink "LanguageServer$Judge" (67 : Nat) ({ cls := "LanguageServer$Judge", name := "takeSign", desc := "(II)V" } : Jvm.MethodName)) ∈ Tg := tg_3 (i := 83) rfl rfl
theorem wd_565 : (Jvm.Cond.instanceMethod ({ cls := "LanguageServer$Judge", name := "takeSign", desc := "(II)V" } : Jvm.MethodName)) ∈ Tg := tg_3 (i := 85) rfl rfl
theorem wd_566 : (Jvm.Cond.code ({ cls := "LanguageServer$Judge", name := "takeSign", desc := "(II)V" } : Jvm.MethodName) prog_4_method_10_code (4 : Nat) (Option.none : Option Jvm.ClassFile.FieldType)) ∈ Tg := tg_3 (i := 86) rfl rfl
theorem wd_567 : (Jvm.Cond.methodLink "LanguageServer$Judge" (143 : Nat) ({ cls := "LanguageServer$Judge", name := "open", desc := "(II)V" } : Jvm.MethodName)) ∈ Tg := tg_3 (i := 87) rfl rfl
theorem wd_569 : (Jvm.Cond.instanceMethod ({ cls := "LanguageServer$Judge", name := "open", desc := "(II)V" } : Jvm.MethodName)) ∈ Tg := tg_3 (i := 89) rfl rfl
theorem wd_570 : (Jvm.Cond.code ({ cls := "LanguageServer$Judge", name := "open", desc := "(II)V" } : Jvm.MethodName) prog_4_method_11_code (3 : Nat) (Option.none : Option Jvm.ClassFile.FieldType)) ∈ Tg := tg_3 (i := 90) rfl rfl
theorem wd_571 : (Jvm.Cond.methodLink "LanguageServer$Judge" (146 : Nat) ({ cls := "LanguageServer$Judge", name := "checkArgument", desc := "(I)V" } : Jvm.MethodName)) ∈ Tg := tg_3 (i := 91) rfl rfl
theorem wd_573 : (Jvm.Cond.instanceMethod ({ cls := "LanguageServer$Judge", name := "checkArgument", desc := "(I)V" } : Jvm.MethodName)) ∈ Tg := tg_3 (i := 93) rfl rfl
theorem wd_574 : (Jvm.Cond.code ({ cls := "LanguageServer$Judge", name := "checkArgument", desc := "(I)V" } : Jvm.MethodName) prog_4_method_15_code (4 : Nat) (Option.none : Option Jvm.ClassFile.FieldType)) ∈ Tg := tg_3 (i := 94) rfl rfl
theorem wd_575 : (Jvm.Cond.methodLink "LanguageServer$Judge" (152 : Nat) ({ cls := "LanguageServer$Outline", name := "parameterType", desc := "(II)I" } : Jvm.MethodName)) ∈ Tg := tg_3 (i := 95) rfl rfl
theorem wd_576 : (Jvm.Cond.instanceMethod ({ cls := "LanguageServer$Outline", name := "parameterType", desc := "(II)I" } : Jvm.MethodName)) ∈ Tg := tg_3 (i := 96) rfl rfl
theorem wd_577 : (Jvm.Cond.selects "LanguageServer$Outline" ({ cls := "LanguageServer$Outline", name := "parameterType", desc := "(II)I" } : Jvm.MethodName) ({ cls := "LanguageServer$Outline", name := "parameterType", desc := "(II)I" } : Jvm.MethodName)) ∈ Tg := tg_3 (i := 97) rfl rfl
theorem wd_578 : (Jvm.Cond.code ({ cls := "LanguageServer$Outline", name := "parameterType", desc := "(II)I" } : Jvm.MethodName) prog_5_method_12_code (4 : Nat) (Option.some Jvm.ClassFile.FieldType.int)) ∈ Tg := tg_3 (i := 98) rfl rfl
theorem wd_579 : (Jvm.Cond.methodLink "LanguageServer$Judge" (149 : Nat) ({ cls := "LanguageServer$Judge", name := "close", desc := "(I)V" } : Jvm.MethodName)) ∈ Tg := tg_3 (i := 99) rfl rfl
theorem wd_581 : (Jvm.Cond.instanceMethod ({ cls := "LanguageServer$Judge", name := "close", desc := "(I)V" } : Jvm.MethodName)) ∈ Tg := tg_3 (i := 101) rfl rfl
theorem wd_582 : (Jvm.Cond.code ({ cls := "LanguageServer$Judge", name := "close", desc := "(I)V" } : Jvm.MethodName) prog_4_method_12_code (3 : Nat) (Option.none : Option Jvm.ClassFile.FieldType)) ∈ Tg := tg_3 (i := 102) rfl rfl
theorem wd_587 : (Jvm.Cond.methodLink "LanguageServer$Complaints" (27 : Nat) ({ cls := "LanguageServer$Complaints", name := "hasFault", desc := "()Z" } : Jvm.MethodName)) ∈ Tg := tg_3 (i := 107) rfl rfl
theorem wd_588 : (Jvm.Cond.methodLink "LanguageServer$Complaints" (31 : Nat) ({ cls := "java/lang/Integer", name := "bitCount", desc := "(I)I" } : Jvm.MethodName)) ∈ Tg := tg_3 (i := 108) rfl rfl
theorem wd_589 : (Jvm.Cond.static ({ cls := "java/lang/Integer", name := "bitCount", desc := "(I)I" } : Jvm.MethodName)) ∈ Tg := tg_3 (i := 109) rfl rfl
theorem wd_590 : (Jvm.Cond.code ({ cls := "java/lang/Integer", name := "bitCount", desc := "(I)I" } : Jvm.MethodName) prog_17_method_49_code (1 : Nat) (Option.some Jvm.ClassFile.FieldType.int)) ∈ Tg := tg_3 (i := 110) rfl rfl
theorem wd_591 : (Jvm.Cond.constant "java/lang/Integer" (265 : Nat) (1431655765 : Int32)) ∈ Tg := tg_3 (i := 111) rfl rfl
theorem wd_592 : (Jvm.Cond.constant "java/lang/Integer" (266 : Nat) (858993459 : Int32)) ∈ Tg := tg_3 (i := 112) rfl rfl
theorem wd_593 : (Jvm.Cond.constant "java/lang/Integer" (267 : Nat) (252645135 : Int32)) ∈ Tg := tg_3 (i := 113) rfl rfl
theorem wd_603 : (Jvm.Cond.methodLink "LanguageServer" (29 : Nat) ({ cls := "LanguageServer", name := "isCode", desc := "(I)Z" } : Jvm.MethodName)) ∈ Tg := tg_3 (i := 123) rfl rfl
theorem wd_604 : (Jvm.Cond.static ({ cls := "LanguageServer", name := "isCode", desc := "(I)Z" } : Jvm.MethodName)) ∈ Tg := tg_3 (i := 124) rfl rfl
theorem wd_605 : (Jvm.Cond.code ({ cls := "LanguageServer", name := "isCode", desc := "(I)Z" } : Jvm.MethodName) prog_1_method_17_code (1 : Nat) (Option.some Jvm.ClassFile.FieldType.boolean)) ∈ Tg := tg_3 (i := 125) rfl rfl
theorem wd_694 : (Jvm.Cond.methodLink "LanguageServer$Text" (19 : Nat) ({ cls := "java/lang/System", name := "arraycopy", desc := "(Ljava/lang/Object;ILjava/lang/Object;II)V" } : Jvm.MethodName)) ∈ Tg := tg_3 (i := 214) rfl rfl
theorem wd_695 : (Jvm.Cond.static ({ cls := "java/lang/System", name := "arraycopy", desc := "(Ljava/lang/Object;ILjava/lang/Object;II)V" } : Jvm.MethodName)) ∈ Tg := tg_3 (i := 215) rfl rfl
theorem wd_696 : (Jvm.Cond.native ({ cls := "java/lang/System", name := "arraycopy", desc := "(Ljava/lang/Object;ILjava/lang/Object;II)V" } : Jvm.MethodName)) ∈ Tg := tg_3 (i := 216) rfl rfl
theorem wd_711 : (Jvm.Cond.methodLink "LanguageServer" (177 : Nat) ({ cls := "LanguageServer", name := "byteAt", desc := "(JI)I" } : Jvm.MethodName)) ∈ Tg := tg_3 (i := 231) rfl rfl
theorem wd_712 : (Jvm.Cond.static ({ cls := "LanguageServer", name := "byteAt", desc := "(JI)I" } : Jvm.MethodName)) ∈ Tg := tg_3 (i := 232) rfl rfl
theorem wd_713 : (Jvm.Cond.code ({ cls := "LanguageServer", name := "byteAt", desc := "(JI)I" } : Jvm.MethodName) prog_1_method_19_code (3 : Nat) (Option.some Jvm.ClassFile.FieldType.int)) ∈ Tg := tg_3 (i := 233) rfl rfl
theorem wd_721 : (Jvm.Cond.methodLink "LanguageServer$Text" (29 : Nat) ({ cls := "LanguageServer$Text", name := "add", desc := "(I)V" } : Jvm.MethodName)) ∈ Tg := tg_4 (i := 1) rfl rfl
theorem wd_722 : (Jvm.Cond.instanceMethod ({ cls := "LanguageServer$Text", name := "add", desc := "(I)V" } : Jvm.MethodName)) ∈ Tg := tg_4 (i := 2) rfl rfl
theorem wd_723 : (Jvm.Cond.selects "LanguageServer$Text" ({ cls := "LanguageServer$Text", name := "add", desc := "(I)V" } : Jvm.MethodName) ({ cls := "LanguageServer$Text", name := "add", desc := "(I)V" } : Jvm.MethodName)) ∈ Tg := tg_4 (i := 3) rfl rfl
theorem wd_724 : (Jvm.Cond.code ({ cls := "LanguageServer$Text", name := "add", desc := "(I)V" } : Jvm.MethodName) prog_10_method_3_code (2 : Nat) (Option.none : Option Jvm.ClassFile.FieldType)) ∈ Tg := tg_4 (i := 4) rfl rfl
theorem wd_773 : (Jvm.Cond.methodLink "LanguageServer$Complaints" (37 : Nat) ({ cls := "LanguageServer$Complaints", name := "entryAt", desc := "(I)I" } : Jvm.MethodName)) ∈ Tg := tg_4 (i := 53) rfl rfl
theorem wd_775 : (Jvm.Cond.instanceMethod ({ cls := "LanguageServer$Complaints", name := "entryAt", desc := "(I)I" } : Jvm.MethodName)) ∈ Tg := tg_4 (i := 55) rfl rfl
theorem wd_776 : (Jvm.Cond.code ({ cls := "LanguageServer$Complaints", name := "entryAt", desc := "(I)I" } : Jvm.MethodName) prog_2_method_9_code (4 : Nat) (Option.some Jvm.ClassFile.FieldType.int)) ∈ Tg := tg_4 (i := 56) rfl rfl
theorem wd_841 : (Jvm.Cond.methodLink "LanguageServer$Outline" (72 : Nat) ({ cls := "LanguageServer$Outline", name := "findMember", desc := "(IJ)I" } : Jvm.MethodName)) ∈ Tg := tg_4 (i := 121) rfl rfl
theorem wd_842 : (Jvm.Cond.methodLink "LanguageServer$Outline" (76 : Nat) ({ cls := "LanguageServer$Outline", name := "list", desc := "(II)V" } : Jvm.MethodName)) ∈ Tg := tg_4 (i := 122) rfl rfl
theorem wd_844 : (Jvm.Cond.instanceMethod ({ cls := "LanguageServer$Outline", name := "list", desc := "(II)V" } : Jvm.MethodName)) ∈ Tg := tg_4 (i := 124) rfl rfl
theorem wd_845 : (Jvm.Cond.code ({ cls := "LanguageServer$Outline", name := "list", desc := "(II)V" } : Jvm.MethodName) prog_5_method_10_code (4 : Nat) (Option.none : Option Jvm.ClassFile.FieldType)) ∈ Tg := tg_4 (i := 125) rfl rfl
theorem wd_846 : (Jvm.Cond.methodLink "LanguageServer$Outline" (80 : Nat) ({ cls := "java/lang/Math", name := "min", desc := "(II)I" } : Jvm.MethodName)) ∈ Tg := tg_4 (i := 126) rfl rfl
theorem wd_847 : (Jvm.Cond.static ({ cls := "java/lang/Math", name := "min", desc := "(II)I" } : Jvm.MethodName)) ∈ Tg := tg_4 (i := 127) rfl rfl
theorem wd_848 : (Jvm.Cond.code ({ cls := "java/lang/Math", name := "min", desc := "(II)I" } : Jvm.MethodName) prog_18_method_69_code (2 : Nat) (Option.some Jvm.ClassFile.FieldType.int)) ∈ Tg := tg_4 (i := 128) rfl rfl
theorem wd_931 : (Jvm.Cond.lays "LanguageServerModel" "LanguageServerModel" "thrown" "I") ∈ Tg := tg_4 (i := 211) rfl rfl
theorem wd_933 : (Jvm.Cond.laysFinal "LanguageServerModel" "LanguageServerModel" "text" "[I") ∈ Tg := tg_4 (i := 213) rfl rfl
theorem wd_935 : (Jvm.Cond.lays "LanguageServerModel" "LanguageServerModel" "length" "I") ∈ Tg := tg_4 (i := 215) rfl rfl
theorem wd_937 : (Jvm.Cond.laysFinal "LanguageServerModel" "LanguageServerModel" "saved" "[I") ∈ Tg := tg_4 (i := 217) rfl rfl
theorem wd_939 : (Jvm.Cond.lays "LanguageServerModel" "LanguageServerModel" "savedLength" "I") ∈ Tg := tg_4 (i := 219) rfl rfl
theorem wd_941 : (Jvm.Cond.laysFinal "LanguageServerModel" "LanguageServerModel" "kind" "[I") ∈ Tg := tg_4 (i := 221) rfl rfl
theorem wd_943 : (Jvm.Cond.laysFinal "LanguageServerModel" "LanguageServerModel" "word" "[J") ∈ Tg := tg_4 (i := 223) rfl rfl
theorem wd_945 : (Jvm.Cond.laysFinal "LanguageServerModel" "LanguageServerModel" "from" "[I") ∈ Tg := tg_4 (i := 225) rfl rfl
theorem wd_947 : (Jvm.Cond.laysFinal "LanguageServerModel" "LanguageServerModel" "to" "[I") ∈ Tg := tg_4 (i := 227) rfl rfl
theorem wd_949 : (Jvm.Cond.lays "LanguageServerModel" "LanguageServerModel" "tokens" "I") ∈ Tg := tg_4 (i := 229) rfl rfl
theorem wd_951 : (Jvm.Cond.lays "LanguageServerModel" "LanguageServerModel" "at" "I") ∈ Tg := tg_4 (i := 231) rfl rfl
theorem wd_953 : (Jvm.Cond.lays "LanguageServerModel" "LanguageServerModel" "bad" "Z") ∈ Tg := tg_4 (i := 233) rfl rfl
theorem wd_955 : (Jvm.Cond.laysFinal "LanguageServerModel" "LanguageServerModel" "role" "[I") ∈ Tg := tg_4 (i := 235) rfl rfl
theorem wd_957 : (Jvm.Cond.laysFinal "LanguageServerModel" "LanguageServerModel" "inClass" "[I") ∈ Tg := tg_4 (i := 237) rfl rfl
theorem wd_959 : (Jvm.Cond.laysFinal "LanguageServerModel" "LanguageServerModel" "inMethod" "[I") ∈ Tg := tg_4 (i := 239) rfl rfl
theorem wd_961 : (Jvm.Cond.laysFinal "LanguageServerModel" "LanguageServerModel" "begins" "[I") ∈ Tg := tg_5 (i := 1) rfl rfl
theorem wd_963 : (Jvm.Cond.laysFinal "LanguageServerModel" "LanguageServerModel" "cName" "[I") ∈ Tg := tg_5 (i := 3) rfl rfl
theorem wd_965 : (Jvm.Cond.laysFinal "LanguageServerModel" "LanguageServerModel" "cExtends" "[I") ∈ Tg := tg_5 (i := 5) rfl rfl
theorem wd_967 : (Jvm.Cond.lays "LanguageServerModel" "LanguageServerModel" "classes" "I") ∈ Tg := tg_5 (i := 7) rfl rfl
theorem wd_969 : (Jvm.Cond.laysFinal "LanguageServerModel" "LanguageServerModel" "diags" "[I") ∈ Tg := tg_5 (i := 9) rfl rfl
theorem wd_971 : (Jvm.Cond.laysFinal "LanguageServerModel" "LanguageServerModel" "meaning" "[I") ∈ Tg := tg_5 (i := 11) rfl rfl
theorem wd_973 : (Jvm.Cond.laysFinal "LanguageServerModel" "LanguageServerModel" "savedMeaning" "[I") ∈ Tg := tg_5 (i := 13) rfl rfl
theorem wd_975 : (Jvm.Cond.laysFinal "LanguageServerModel" "LanguageServerModel" "opener" "[I") ∈ Tg := tg_5 (i := 15) rfl rfl
theorem wd_977 : (Jvm.Cond.laysFinal "LanguageServerModel" "LanguageServerModel" "first" "[I") ∈ Tg := tg_5 (i := 17) rfl rfl
theorem wd_979 : (Jvm.Cond.laysFinal "LanguageServerModel" "LanguageServerModel" "term" "[I") ∈ Tg := tg_5 (i := 19) rfl rfl
theorem wd_981 : (Jvm.Cond.laysFinal "LanguageServerModel" "LanguageServerModel" "type" "[I") ∈ Tg := tg_5 (i := 21) rfl rfl
theorem wd_983 : (Jvm.Cond.laysFinal "LanguageServerModel" "LanguageServerModel" "plus" "[Z") ∈ Tg := tg_5 (i := 23) rfl rfl
theorem wd_985 : (Jvm.Cond.laysFinal "LanguageServerModel" "LanguageServerModel" "argument" "[I") ∈ Tg := tg_5 (i := 25) rfl rfl
theorem wd_987 : (Jvm.Cond.laysFinal "LanguageServerModel" "LanguageServerModel" "given" "[I") ∈ Tg := tg_5 (i := 27) rfl rfl
theorem wd_989 : (Jvm.Cond.laysFinal "LanguageServerModel" "LanguageServerModel" "called" "[I") ∈ Tg := tg_5 (i := 29) rfl rfl
theorem wd_991 : (Jvm.Cond.lays "LanguageServerModel" "LanguageServerModel" "depth" "I") ∈ Tg := tg_5 (i := 31) rfl rfl
theorem wd_993 : (Jvm.Cond.lays "LanguageServerModel" "LanguageServerModel" "end" "I") ∈ Tg := tg_5 (i := 33) rfl rfl
theorem wp_0 : Jvm.Cond.selects "LanguageServer$Tokens" ⟨"LanguageServer$Tokens", "sortOf", "(II)I"⟩ ⟨"LanguageServer$Tokens", "sortOf", "(II)I"⟩ ∈ Tg := tgp_1 (i := 0) (q := (⟨"LanguageServer$Tokens", "sortOf", "(II)I"⟩, 5)) rfl rfl
theorem wp_1 : Jvm.Cond.selects "LanguageServer$Parser" ⟨"LanguageServer$Parser", "nextInClass", "(II)I"⟩ ⟨"LanguageServer$Parser", "nextInClass", "(II)I"⟩ ∈ Tg := tgp_1 (i := 1) (q := (⟨"LanguageServer$Parser", "nextInClass", "(II)I"⟩, 8)) rfl rfl
theorem wp_2 : Jvm.Cond.selects "LanguageServer$Parser" ⟨"LanguageServer$Parser", "className", "(II)I"⟩ ⟨"LanguageServer$Parser", "className", "(II)I"⟩ ∈ Tg := tgp_1 (i := 2) (q := (⟨"LanguageServer$Parser", "className", "(II)I"⟩, 8)) rfl rfl
theorem wp_3 : Jvm.Cond.selects "LanguageServer$Parser" ⟨"LanguageServer$Parser", "name", "(IIII)I"⟩ ⟨"LanguageServer$Parser", "name", "(IIII)I"⟩ ∈ Tg := tgp_1 (i := 3) (q := (⟨"LanguageServer$Parser", "name", "(IIII)I"⟩, 8)) rfl rfl
theorem wp_4 : Jvm.Cond.selects "LanguageServer$Parser" ⟨"LanguageServer$Parser", "assign", "(III)I"⟩ ⟨"LanguageServer$Parser", "assign", "(III)I"⟩ ∈ Tg := tgp_1 (i := 4) (q := (⟨"LanguageServer$Parser", "assign", "(III)I"⟩, 8)) rfl rfl
theorem wp_5 : Jvm.Cond.selects "LanguageServer$Parser" ⟨"LanguageServer$Parser", "typeName", "(III)I"⟩ ⟨"LanguageServer$Parser", "typeName", "(III)I"⟩ ∈ Tg := tgp_1 (i := 5) (q := (⟨"LanguageServer$Parser", "typeName", "(III)I"⟩, 8)) rfl rfl
theorem wp_6 : Jvm.Cond.selects "LanguageServer$Parser" ⟨"LanguageServer$Parser", "memberTail", "(I)I"⟩ ⟨"LanguageServer$Parser", "memberTail", "(I)I"⟩ ∈ Tg := tgp_1 (i := 6) (q := (⟨"LanguageServer$Parser", "memberTail", "(I)I"⟩, 8)) rfl rfl
theorem wp_7 : Jvm.Cond.selects "LanguageServer$Parser" ⟨"LanguageServer$Parser", "nextInHead", "(II)I"⟩ ⟨"LanguageServer$Parser", "nextInHead", "(II)I"⟩ ∈ Tg := tgp_1 (i := 7) (q := (⟨"LanguageServer$Parser", "nextInHead", "(II)I"⟩, 8)) rfl rfl
theorem wp_8 : Jvm.Cond.selects "LanguageServer$Parser" ⟨"LanguageServer$Parser", "nextInBody", "(II)I"⟩ ⟨"LanguageServer$Parser", "nextInBody", "(II)I"⟩ ∈ Tg := tgp_1 (i := 8) (q := (⟨"LanguageServer$Parser", "nextInBody", "(II)I"⟩, 8)) rfl rfl
theorem wp_9 : Jvm.Cond.selects "LanguageServer$Parser" ⟨"LanguageServer$Parser", "statement", "(II)I"⟩ ⟨"LanguageServer$Parser", "statement", "(II)I"⟩ ∈ Tg := tgp_1 (i := 9) (q := (⟨"LanguageServer$Parser", "statement", "(II)I"⟩, 8)) rfl rfl
theorem wp_10 : Jvm.Cond.selects "LanguageServer$Parser" ⟨"LanguageServer$Parser", "operand", "(II)I"⟩ ⟨"LanguageServer$Parser", "operand", "(II)I"⟩ ∈ Tg := tgp_1 (i := 10) (q := (⟨"LanguageServer$Parser", "operand", "(II)I"⟩, 8)) rfl rfl
theorem wp_11 : Jvm.Cond.selects "LanguageServer$Parser" ⟨"LanguageServer$Parser", "open", "(II)I"⟩ ⟨"LanguageServer$Parser", "open", "(II)I"⟩ ∈ Tg := tgp_1 (i := 11) (q := (⟨"LanguageServer$Parser", "open", "(II)I"⟩, 8)) rfl rfl
theorem wp_12 : Jvm.Cond.selects "LanguageServer$Parser" ⟨"LanguageServer$Parser", "nextInExpression", "(II)I"⟩ ⟨"LanguageServer$Parser", "nextInExpression", "(II)I"⟩ ∈ Tg := tgp_1 (i := 12) (q := (⟨"LanguageServer$Parser", "nextInExpression", "(II)I"⟩, 8)) rfl rfl
theorem wp_13 : Jvm.Cond.selects "LanguageServer$Parser" ⟨"LanguageServer$Parser", "openArguments", "(I)I"⟩ ⟨"LanguageServer$Parser", "openArguments", "(I)I"⟩ ∈ Tg := tgp_1 (i := 13) (q := (⟨"LanguageServer$Parser", "openArguments", "(I)I"⟩, 8)) rfl rfl
theorem wp_14 : Jvm.Cond.selects "LanguageServer$Parser" ⟨"LanguageServer$Parser", "tail", "(II)I"⟩ ⟨"LanguageServer$Parser", "tail", "(II)I"⟩ ∈ Tg := tgp_1 (i := 14) (q := (⟨"LanguageServer$Parser", "tail", "(II)I"⟩, 8)) rfl rfl
theorem wp_15 : Jvm.Cond.selects "LanguageServer$Parser" ⟨"LanguageServer$Parser", "countArgument", "()Z"⟩ ⟨"LanguageServer$Parser", "countArgument", "()Z"⟩ ∈ Tg := tgp_1 (i := 15) (q := (⟨"LanguageServer$Parser", "countArgument", "()Z"⟩, 8)) rfl rfl
theorem wp_16 : Jvm.Cond.selects "LanguageServer$Parser" ⟨"LanguageServer$Parser", "close", "(I)I"⟩ ⟨"LanguageServer$Parser", "close", "(I)I"⟩ ∈ Tg := tgp_2 (i := 0) (q := (⟨"LanguageServer$Parser", "close", "(I)I"⟩, 8)) rfl rfl
theorem wp_17 : Jvm.Cond.selects "LanguageServer$Parser" ⟨"LanguageServer$Parser", "equalsSign", "(I)I"⟩ ⟨"LanguageServer$Parser", "equalsSign", "(I)I"⟩ ∈ Tg := tgp_2 (i := 1) (q := (⟨"LanguageServer$Parser", "equalsSign", "(I)I"⟩, 8)) rfl rfl
theorem wp_18 : Jvm.Cond.selects "LanguageServer$Parser" ⟨"LanguageServer$Parser", "firstArgument", "(II)I"⟩ ⟨"LanguageServer$Parser", "firstArgument", "(II)I"⟩ ∈ Tg := tgp_2 (i := 2) (q := (⟨"LanguageServer$Parser", "firstArgument", "(II)I"⟩, 8)) rfl rfl
theorem wp_19 : Jvm.Cond.selects "LanguageServer$Declarer" ⟨"LanguageServer$Declarer", "tell", "(IIII)V"⟩ ⟨"LanguageServer$Declarer", "tell", "(IIII)V"⟩ ∈ Tg := tgp_2 (i := 3) (q := (⟨"LanguageServer$Declarer", "tell", "(IIII)V"⟩, 6)) rfl rfl
theorem wp_20 : Jvm.Cond.selects "LanguageServer$Declarer" ⟨"LanguageServer$Declarer", "nameClass", "(I)V"⟩ ⟨"LanguageServer$Declarer", "nameClass", "(I)V"⟩ ∈ Tg := tgp_2 (i := 4) (q := (⟨"LanguageServer$Declarer", "nameClass", "(I)V"⟩, 6)) rfl rfl
theorem wp_21 : Jvm.Cond.selects "LanguageServer$Declarer" ⟨"LanguageServer$Declarer", "typeBefore", "(I)I"⟩ ⟨"LanguageServer$Declarer", "typeBefore", "(I)I"⟩ ∈ Tg := tgp_2 (i := 5) (q := (⟨"LanguageServer$Declarer", "typeBefore", "(I)I"⟩, 6)) rfl rfl
theorem wp_22 : Jvm.Cond.selects "LanguageServer$Declarer" ⟨"LanguageServer$Declarer", "tieSuperclasses", "()V"⟩ ⟨"LanguageServer$Declarer", "tieSuperclasses", "()V"⟩ ∈ Tg := tgp_2 (i := 6) (q := (⟨"LanguageServer$Declarer", "tieSuperclasses", "()V"⟩, 6)) rfl rfl
theorem wp_23 : Jvm.Cond.selects "LanguageServer$Declarer" ⟨"LanguageServer$Declarer", "superName", "(I)I"⟩ ⟨"LanguageServer$Declarer", "superName", "(I)I"⟩ ∈ Tg := tgp_2 (i := 7) (q := (⟨"LanguageServer$Declarer", "superName", "(I)I"⟩, 6)) rfl rfl
theorem wp_24 : Jvm.Cond.selects "LanguageServer$Declarer" ⟨"LanguageServer$Declarer", "leadsBack", "(I)Z"⟩ ⟨"LanguageServer$Declarer", "leadsBack", "(I)Z"⟩ ∈ Tg := tgp_2 (i := 8) (q := (⟨"LanguageServer$Declarer", "leadsBack", "(I)Z"⟩, 6)) rfl rfl
theorem wp_25 : Jvm.Cond.selects "LanguageServer$Judge" ⟨"LanguageServer$Judge", "enter", "(II)V"⟩ ⟨"LanguageServer$Judge", "enter", "(II)V"⟩ ∈ Tg := tgp_2 (i := 9) (q := (⟨"LanguageServer$Judge", "enter", "(II)V"⟩, 15)) rfl rfl
theorem wp_26 : Jvm.Cond.selects "LanguageServer$Judge" ⟨"LanguageServer$Judge", "takeOperand", "(II)V"⟩ ⟨"LanguageServer$Judge", "takeOperand", "(II)V"⟩ ∈ Tg := tgp_2 (i := 10) (q := (⟨"LanguageServer$Judge", "takeOperand", "(II)V"⟩, 15)) rfl rfl
theorem wp_27 : Jvm.Cond.selects "LanguageServer$Judge" ⟨"LanguageServer$Judge", "useVariable", "(I)Z"⟩ ⟨"LanguageServer$Judge", "useVariable", "(I)Z"⟩ ∈ Tg := tgp_2 (i := 11) (q := (⟨"LanguageServer$Judge", "useVariable", "(I)Z"⟩, 15)) rfl rfl
theorem wp_28 : Jvm.Cond.selects "LanguageServer$Judge" ⟨"LanguageServer$Judge", "useMember", "(IIII)V"⟩ ⟨"LanguageServer$Judge", "useMember", "(IIII)V"⟩ ∈ Tg := tgp_2 (i := 12) (q := (⟨"LanguageServer$Judge", "useMember", "(IIII)V"⟩, 15)) rfl rfl
theorem wp_29 : Jvm.Cond.selects "LanguageServer$Judge" ⟨"LanguageServer$Judge", "takeStatementSign", "(II)V"⟩ ⟨"LanguageServer$Judge", "takeStatementSign", "(II)V"⟩ ∈ Tg := tgp_2 (i := 13) (q := (⟨"LanguageServer$Judge", "takeStatementSign", "(II)V"⟩, 15)) rfl rfl
theorem wp_30 : Jvm.Cond.selects "LanguageServer$Judge" ⟨"LanguageServer$Judge", "beginStatement", "(I)V"⟩ ⟨"LanguageServer$Judge", "beginStatement", "(I)V"⟩ ∈ Tg := tgp_2 (i := 14) (q := (⟨"LanguageServer$Judge", "beginStatement", "(I)V"⟩, 15)) rfl rfl
theorem wp_31 : Jvm.Cond.selects "LanguageServer$Judge" ⟨"LanguageServer$Judge", "begin", "(I)V"⟩ ⟨"LanguageServer$Judge", "begin", "(I)V"⟩ ∈ Tg := tgp_2 (i := 15) (q := (⟨"LanguageServer$Judge", "begin", "(I)V"⟩, 15)) rfl rfl
theorem wp_32 : Jvm.Cond.selects "LanguageServer$Judge" ⟨"LanguageServer$Judge", "checkTarget", "(I)V"⟩ ⟨"LanguageServer$Judge", "checkTarget", "(I)V"⟩ ∈ Tg := tgp_3 (i := 0) (q := (⟨"LanguageServer$Judge", "checkTarget", "(I)V"⟩, 15)) rfl rfl
theorem wp_33 : Jvm.Cond.selects "LanguageServer$Judge" ⟨"LanguageServer$Judge", "endExpression", "()I"⟩ ⟨"LanguageServer$Judge", "endExpression", "()I"⟩ ∈ Tg := tgp_3 (i := 1) (q := (⟨"LanguageServer$Judge", "endExpression", "()I"⟩, 15)) rfl rfl
theorem wp_34 : Jvm.Cond.selects "LanguageServer$Judge" ⟨"LanguageServer$Judge", "want", "(III)V"⟩ ⟨"LanguageServer$Judge", "want", "(III)V"⟩ ∈ Tg := tgp_3 (i := 2) (q := (⟨"LanguageServer$Judge", "want", "(III)V"⟩, 15)) rfl rfl
theorem wp_35 : Jvm.Cond.selects "LanguageServer$Judge" ⟨"LanguageServer$Judge", "takeSign", "(II)V"⟩ ⟨"LanguageServer$Judge", "takeSign", "(II)V"⟩ ∈ Tg := tgp_3 (i := 3) (q := (⟨"LanguageServer$Judge", "takeSign", "(II)V"⟩, 15)) rfl rfl
theorem wp_36 : Jvm.Cond.selects "LanguageServer$Judge" ⟨"LanguageServer$Judge", "open", "(II)V"⟩ ⟨"LanguageServer$Judge", "open", "(II)V"⟩ ∈ Tg := tgp_3 (i := 4) (q := (⟨"LanguageServer$Judge", "open", "(II)V"⟩, 15)) rfl rfl
theorem wp_37 : Jvm.Cond.selects "LanguageServer$Judge" ⟨"LanguageServer$Judge", "checkArgument", "(I)V"⟩ ⟨"LanguageServer$Judge", "checkArgument", "(I)V"⟩ ∈ Tg := tgp_3 (i := 5) (q := (⟨"LanguageServer$Judge", "checkArgument", "(I)V"⟩, 15)) rfl rfl
theorem wp_38 : Jvm.Cond.selects "LanguageServer$Judge" ⟨"LanguageServer$Judge", "close", "(I)V"⟩ ⟨"LanguageServer$Judge", "close", "(I)V"⟩ ∈ Tg := tgp_3 (i := 6) (q := (⟨"LanguageServer$Judge", "close", "(I)V"⟩, 15)) rfl rfl
theorem wp_40 : Jvm.Cond.selects "LanguageServer$Complaints" ⟨"LanguageServer$Complaints", "entryAt", "(I)I"⟩ ⟨"LanguageServer$Complaints", "entryAt", "(I)I"⟩ ∈ Tg := tgp_3 (i := 8) (q := (⟨"LanguageServer$Complaints", "entryAt", "(I)I"⟩, 2)) rfl rfl
theorem wp_42 : Jvm.Cond.selects "LanguageServer$Outline" ⟨"LanguageServer$Outline", "list", "(II)V"⟩ ⟨"LanguageServer$Outline", "list", "(II)V"⟩ ∈ Tg := tgp_3 (i := 10) (q := (⟨"LanguageServer$Outline", "list", "(II)V"⟩, 10)) rfl rfl
