abbrev y_Mo_cut : MethodName := ⟨"LanguageServerModel", "cut", "(I)I"⟩
abbrev b_Mo_cut : ByteArray := prog_13_method_14_code
theorem d_Mo_cut_0 : decode b_Mo_cut 0 = .ok (.iload_n 1, 1) := by decide +kernel
theorem d_Mo_cut_1 : decode b_Mo_cut 1 = .ok (.istore_n 2, 1) := by decide +kernel
theorem d_Mo_cut_2 : decode b_Mo_cut 2 = .ok (.lconst 0, 1) := by decide +kernel
theorem d_Mo_cut_3 : decode b_Mo_cut 3 = .ok (.lstore_n 3, 1) := by decide +kernel
theorem d_Mo_cut_4 : decode b_Mo_cut 4 = .ok (.aload_n 0, 1) := by decide +kernel
theorem d_Mo_cut_5 : decode b_Mo_cut 5 = .ok (.getfield 7, 3) := by decide +kernel
theorem d_Mo_cut_8 : decode b_Mo_cut 8 = .ok (.iload_n 1, 1) := by decide +kernel
theorem d_Mo_cut_9 : decode b_Mo_cut 9 = .ok (.iaload, 1) := by decide +kernel
theorem d_Mo_cut_10 : decode b_Mo_cut 10 = .ok (.invokestatic 112, 3) := by decide +kernel
theorem d_Mo_cut_13 : decode b_Mo_cut 13 = .ok (.istore 5, 2) := by decide +kernel
theorem d_Mo_cut_15 : decode b_Mo_cut 15 = .ok (.aload_n 0, 1) := by decide +kernel
theorem d_Mo_cut_16 : decode b_Mo_cut 16 = .ok (.getfield 7, 3) := by decide +kernel
theorem d_Mo_cut_19 : decode b_Mo_cut 19 = .ok (.iload_n 1, 1) := by decide +kernel
theorem d_Mo_cut_20 : decode b_Mo_cut 20 = .ok (.iaload, 1) := by decide +kernel
theorem d_Mo_cut_21 : decode b_Mo_cut 21 = .ok (.invokestatic 115, 3) := by decide +kernel
theorem d_Mo_cut_24 : decode b_Mo_cut 24 = .ok (.istore 6, 2) := by decide +kernel
theorem d_Mo_cut_26 : decode b_Mo_cut 26 = .ok (.iload_n 2, 1) := by decide +kernel
theorem d_Mo_cut_27 : decode b_Mo_cut 27 = .ok (.aload_n 0, 1) := by decide +kernel
theorem d_Mo_cut_28 : decode b_Mo_cut 28 = .ok (.getfield 85, 3) := by decide +kernel
theorem d_Mo_cut_31 : decode b_Mo_cut 31 = .ok (.if_icmp .ge 68, 3) := by decide +kernel
theorem d_Mo_cut_34 : decode b_Mo_cut 34 = .ok (.iload 5, 2) := by decide +kernel
theorem d_Mo_cut_36 : decode b_Mo_cut 36 = .ok (.ifCond .eq 27, 3) := by decide +kernel
theorem d_Mo_cut_39 : decode b_Mo_cut 39 = .ok (.aload_n 0, 1) := by decide +kernel
theorem d_Mo_cut_40 : decode b_Mo_cut 40 = .ok (.getfield 7, 3) := by decide +kernel
theorem d_Mo_cut_43 : decode b_Mo_cut 43 = .ok (.iload_n 2, 1) := by decide +kernel
theorem d_Mo_cut_44 : decode b_Mo_cut 44 = .ok (.iaload, 1) := by decide +kernel
theorem d_Mo_cut_45 : decode b_Mo_cut 45 = .ok (.invokestatic 112, 3) := by decide +kernel
theorem d_Mo_cut_48 : decode b_Mo_cut 48 = .ok (.ifCond .ne 32, 3) := by decide +kernel
theorem d_Mo_cut_51 : decode b_Mo_cut 51 = .ok (.aload_n 0, 1) := by decide +kernel
theorem d_Mo_cut_52 : decode b_Mo_cut 52 = .ok (.getfield 7, 3) := by decide +kernel
theorem d_Mo_cut_55 : decode b_Mo_cut 55 = .ok (.iload_n 2, 1) := by decide +kernel
theorem d_Mo_cut_56 : decode b_Mo_cut 56 = .ok (.iaload, 1) := by decide +kernel
theorem d_Mo_cut_57 : decode b_Mo_cut 57 = .ok (.invokestatic 115, 3) := by decide +kernel
theorem d_Mo_cut_60 : decode b_Mo_cut 60 = .ok (.ifCond .ne 20, 3) := by decide +kernel
theorem d_Mo_cut_63 : decode b_Mo_cut 63 = .ok (.iload 6, 2) := by decide +kernel
theorem d_Mo_cut_65 : decode b_Mo_cut 65 = .ok (.ifCond .eq 34, 3) := by decide +kernel
theorem d_Mo_cut_68 : decode b_Mo_cut 68 = .ok (.aload_n 0, 1) := by decide +kernel
theorem d_Mo_cut_69 : decode b_Mo_cut 69 = .ok (.getfield 7, 3) := by decide +kernel
theorem d_Mo_cut_72 : decode b_Mo_cut 72 = .ok (.iload_n 2, 1) := by decide +kernel
theorem d_Mo_cut_73 : decode b_Mo_cut 73 = .ok (.iaload, 1) := by decide +kernel
theorem d_Mo_cut_74 : decode b_Mo_cut 74 = .ok (.invokestatic 115, 3) := by decide +kernel
theorem d_Mo_cut_77 : decode b_Mo_cut 77 = .ok (.ifCond .eq 22, 3) := by decide +kernel
theorem d_Mo_cut_80 : decode b_Mo_cut 80 = .ok (.lload_n 3, 1) := by decide +kernel
theorem d_Mo_cut_81 : decode b_Mo_cut 81 = .ok (.bipush 8, 2) := by decide +kernel
theorem d_Mo_cut_83 : decode b_Mo_cut 83 = .ok (.lshl, 1) := by decide +kernel
theorem d_Mo_cut_84 : decode b_Mo_cut 84 = .ok (.aload_n 0, 1) := by decide +kernel
theorem d_Mo_cut_85 : decode b_Mo_cut 85 = .ok (.getfield 7, 3) := by decide +kernel
theorem d_Mo_cut_88 : decode b_Mo_cut 88 = .ok (.iload_n 2, 1) := by decide +kernel
theorem d_Mo_cut_89 : decode b_Mo_cut 89 = .ok (.iaload, 1) := by decide +kernel
theorem d_Mo_cut_90 : decode b_Mo_cut 90 = .ok (.i2l, 1) := by decide +kernel
theorem d_Mo_cut_91 : decode b_Mo_cut 91 = .ok (.lor, 1) := by decide +kernel
theorem d_Mo_cut_92 : decode b_Mo_cut 92 = .ok (.lstore_n 3, 1) := by decide +kernel
theorem d_Mo_cut_93 : decode b_Mo_cut 93 = .ok (.iinc 2 1, 3) := by decide +kernel
theorem d_Mo_cut_96 : decode b_Mo_cut 96 = .ok (.goto (-70), 3) := by decide +kernel
theorem d_Mo_cut_99 : decode b_Mo_cut 99 = .ok (.iload_n 2, 1) := by decide +kernel
theorem d_Mo_cut_100 : decode b_Mo_cut 100 = .ok (.iload_n 1, 1) := by decide +kernel
theorem d_Mo_cut_101 : decode b_Mo_cut 101 = .ok (.isub, 1) := by decide +kernel
theorem d_Mo_cut_102 : decode b_Mo_cut 102 = .ok (.istore 7, 2) := by decide +kernel
theorem d_Mo_cut_104 : decode b_Mo_cut 104 = .ok (.aload_n 0, 1) := by decide +kernel
theorem d_Mo_cut_105 : decode b_Mo_cut 105 = .ok (.getfield 118, 3) := by decide +kernel
theorem d_Mo_cut_108 : decode b_Mo_cut 108 = .ok (.istore 8, 2) := by decide +kernel
theorem d_Mo_cut_110 : decode b_Mo_cut 110 = .ok (.aload_n 0, 1) := by decide +kernel
theorem d_Mo_cut_111 : decode b_Mo_cut 111 = .ok (.getfield 23, 3) := by decide +kernel
theorem d_Mo_cut_114 : decode b_Mo_cut 114 = .ok (.iload 8, 2) := by decide +kernel
theorem d_Mo_cut_116 : decode b_Mo_cut 116 = .ok (.iload_n 1, 1) := by decide +kernel
theorem d_Mo_cut_117 : decode b_Mo_cut 117 = .ok (.iastore, 1) := by decide +kernel
theorem d_Mo_cut_118 : decode b_Mo_cut 118 = .ok (.aload_n 0, 1) := by decide +kernel
theorem d_Mo_cut_119 : decode b_Mo_cut 119 = .ok (.getfield 19, 3) := by decide +kernel
theorem d_Mo_cut_122 : decode b_Mo_cut 122 = .ok (.iload 8, 2) := by decide +kernel
theorem d_Mo_cut_124 : decode b_Mo_cut 124 = .ok (.lload_n 3, 1) := by decide +kernel
theorem d_Mo_cut_125 : decode b_Mo_cut 125 = .ok (.lastore, 1) := by decide +kernel
theorem d_Mo_cut_126 : decode b_Mo_cut 126 = .ok (.aload_n 0, 1) := by decide +kernel
theorem d_Mo_cut_127 : decode b_Mo_cut 127 = .ok (.getfield 26, 3) := by decide +kernel
theorem d_Mo_cut_130 : decode b_Mo_cut 130 = .ok (.iload 8, 2) := by decide +kernel
theorem d_Mo_cut_132 : decode b_Mo_cut 132 = .ok (.iload 7, 2) := by decide +kernel
theorem d_Mo_cut_134 : decode b_Mo_cut 134 = .ok (.ifCond .ne 9, 3) := by decide +kernel
theorem d_Mo_cut_137 : decode b_Mo_cut 137 = .ok (.iload_n 1, 1) := by decide +kernel
theorem d_Mo_cut_138 : decode b_Mo_cut 138 = .ok (.iconst 1, 1) := by decide +kernel
theorem d_Mo_cut_139 : decode b_Mo_cut 139 = .ok (.iadd, 1) := by decide +kernel
theorem d_Mo_cut_140 : decode b_Mo_cut 140 = .ok (.goto 4, 3) := by decide +kernel
theorem d_Mo_cut_143 : decode b_Mo_cut 143 = .ok (.iload_n 2, 1) := by decide +kernel
theorem d_Mo_cut_144 : decode b_Mo_cut 144 = .ok (.iastore, 1) := by decide +kernel
theorem d_Mo_cut_145 : decode b_Mo_cut 145 = .ok (.iload 5, 2) := by decide +kernel
theorem d_Mo_cut_147 : decode b_Mo_cut 147 = .ok (.ifCond .eq 26, 3) := by decide +kernel
theorem d_Mo_cut_150 : decode b_Mo_cut 150 = .ok (.aload_n 0, 1) := by decide +kernel
theorem d_Mo_cut_151 : decode b_Mo_cut 151 = .ok (.getfield 16, 3) := by decide +kernel
theorem d_Mo_cut_154 : decode b_Mo_cut 154 = .ok (.iload 8, 2) := by decide +kernel
theorem d_Mo_cut_156 : decode b_Mo_cut 156 = .ok (.iload 7, 2) := by decide +kernel
theorem d_Mo_cut_158 : decode b_Mo_cut 158 = .ok (.bipush 8, 2) := by decide +kernel
theorem d_Mo_cut_160 : decode b_Mo_cut 160 = .ok (.if_icmp .le 8, 3) := by decide +kernel
theorem d_Mo_cut_163 : decode b_Mo_cut 163 = .ok (.bipush 9, 2) := by decide +kernel
theorem d_Mo_cut_165 : decode b_Mo_cut 165 = .ok (.goto 7, 3) := by decide +kernel
theorem d_Mo_cut_168 : decode b_Mo_cut 168 = .ok (.lload_n 3, 1) := by decide +kernel
theorem d_Mo_cut_169 : decode b_Mo_cut 169 = .ok (.invokestatic 121, 3) := by decide +kernel
theorem d_Mo_cut_172 : decode b_Mo_cut 172 = .ok (.iastore, 1) := by decide +kernel
theorem d_Mo_cut_173 : decode b_Mo_cut 173 = .ok (.iload 6, 2) := by decide +kernel
theorem d_Mo_cut_175 : decode b_Mo_cut 175 = .ok (.ifCond .eq 23, 3) := by decide +kernel
theorem d_Mo_cut_178 : decode b_Mo_cut 178 = .ok (.aload_n 0, 1) := by decide +kernel
theorem d_Mo_cut_179 : decode b_Mo_cut 179 = .ok (.getfield 16, 3) := by decide +kernel
theorem d_Mo_cut_182 : decode b_Mo_cut 182 = .ok (.iload 8, 2) := by decide +kernel
theorem d_Mo_cut_184 : decode b_Mo_cut 184 = .ok (.iload 7, 2) := by decide +kernel
theorem d_Mo_cut_186 : decode b_Mo_cut 186 = .ok (.bipush 6, 2) := by decide +kernel
theorem d_Mo_cut_188 : decode b_Mo_cut 188 = .ok (.if_icmp .le 8, 3) := by decide +kernel
theorem d_Mo_cut_191 : decode b_Mo_cut 191 = .ok (.bipush 9, 2) := by decide +kernel
theorem d_Mo_cut_193 : decode b_Mo_cut 193 = .ok (.goto 4, 3) := by decide +kernel
theorem d_Mo_cut_196 : decode b_Mo_cut 196 = .ok (.iconst 2, 1) := by decide +kernel
theorem d_Mo_cut_197 : decode b_Mo_cut 197 = .ok (.iastore, 1) := by decide +kernel
theorem d_Mo_cut_198 : decode b_Mo_cut 198 = .ok (.iload 7, 2) := by decide +kernel
theorem d_Mo_cut_200 : decode b_Mo_cut 200 = .ok (.ifCond .ne 33, 3) := by decide +kernel
theorem d_Mo_cut_203 : decode b_Mo_cut 203 = .ok (.aload_n 0, 1) := by decide +kernel
theorem d_Mo_cut_204 : decode b_Mo_cut 204 = .ok (.getfield 16, 3) := by decide +kernel
theorem d_Mo_cut_207 : decode b_Mo_cut 207 = .ok (.iload 8, 2) := by decide +kernel
theorem d_Mo_cut_209 : decode b_Mo_cut 209 = .ok (.aload_n 0, 1) := by decide +kernel
theorem d_Mo_cut_210 : decode b_Mo_cut 210 = .ok (.getfield 7, 3) := by decide +kernel
theorem d_Mo_cut_213 : decode b_Mo_cut 213 = .ok (.iload_n 1, 1) := by decide +kernel
theorem d_Mo_cut_214 : decode b_Mo_cut 214 = .ok (.iaload, 1) := by decide +kernel
theorem d_Mo_cut_215 : decode b_Mo_cut 215 = .ok (.invokestatic 125, 3) := by decide +kernel
theorem d_Mo_cut_218 : decode b_Mo_cut 218 = .ok (.ifCond .eq 12, 3) := by decide +kernel
theorem d_Mo_cut_221 : decode b_Mo_cut 221 = .ok (.aload_n 0, 1) := by decide +kernel
theorem d_Mo_cut_222 : decode b_Mo_cut 222 = .ok (.getfield 7, 3) := by decide +kernel
theorem d_Mo_cut_225 : decode b_Mo_cut 225 = .ok (.iload_n 1, 1) := by decide +kernel
theorem d_Mo_cut_226 : decode b_Mo_cut 226 = .ok (.iaload, 1) := by decide +kernel
theorem d_Mo_cut_227 : decode b_Mo_cut 227 = .ok (.goto 5, 3) := by decide +kernel
theorem d_Mo_cut_230 : decode b_Mo_cut 230 = .ok (.bipush 9, 2) := by decide +kernel
theorem d_Mo_cut_232 : decode b_Mo_cut 232 = .ok (.iastore, 1) := by decide +kernel
theorem d_Mo_cut_233 : decode b_Mo_cut 233 = .ok (.iload 8, 2) := by decide +kernel
theorem d_Mo_cut_235 : decode b_Mo_cut 235 = .ok (.bipush 120, 2) := by decide +kernel
theorem d_Mo_cut_237 : decode b_Mo_cut 237 = .ok (.if_icmp .ne 12, 3) := by decide +kernel
theorem d_Mo_cut_240 : decode b_Mo_cut 240 = .ok (.aload_n 0, 1) := by decide +kernel
theorem d_Mo_cut_241 : decode b_Mo_cut 241 = .ok (.getfield 16, 3) := by decide +kernel
theorem d_Mo_cut_244 : decode b_Mo_cut 244 = .ok (.iload 8, 2) := by decide +kernel
theorem d_Mo_cut_246 : decode b_Mo_cut 246 = .ok (.bipush 9, 2) := by decide +kernel
theorem d_Mo_cut_248 : decode b_Mo_cut 248 = .ok (.iastore, 1) := by decide +kernel
theorem d_Mo_cut_249 : decode b_Mo_cut 249 = .ok (.aload_n 0, 1) := by decide +kernel
theorem d_Mo_cut_250 : decode b_Mo_cut 250 = .ok (.dup, 1) := by decide +kernel
theorem d_Mo_cut_251 : decode b_Mo_cut 251 = .ok (.getfield 118, 3) := by decide +kernel
theorem d_Mo_cut_254 : decode b_Mo_cut 254 = .ok (.iconst 1, 1) := by decide +kernel
theorem d_Mo_cut_255 : decode b_Mo_cut 255 = .ok (.iadd, 1) := by decide +kernel
theorem d_Mo_cut_256 : decode b_Mo_cut 256 = .ok (.putfield 118, 3) := by decide +kernel
theorem d_Mo_cut_259 : decode b_Mo_cut 259 = .ok (.aload_n 0, 1) := by decide +kernel
theorem d_Mo_cut_260 : decode b_Mo_cut 260 = .ok (.getfield 26, 3) := by decide +kernel
theorem d_Mo_cut_263 : decode b_Mo_cut 263 = .ok (.iload 8, 2) := by decide +kernel
theorem d_Mo_cut_265 : decode b_Mo_cut 265 = .ok (.iaload, 1) := by decide +kernel
theorem d_Mo_cut_266 : decode b_Mo_cut 266 = .ok (.ireturn, 1) := by decide +kernel
abbrev y_Mo_cutAll : MethodName := ⟨"LanguageServerModel", "cutAll", "()V"⟩
abbrev b_Mo_cutAll : ByteArray := prog_13_method_15_code
theorem d_Mo_cutAll_0 : decode b_Mo_cutAll 0 = .ok (.aload_n 0, 1) := by decide +kernel
theorem d_Mo_cutAll_1 : decode b_Mo_cutAll 1 = .ok (.iconst 0, 1) := by decide +kernel
theorem d_Mo_cutAll_2 : decode b_Mo_cutAll 2 = .ok (.putfield 118, 3) := by decide +kernel
theorem d_Mo_cutAll_5 : decode b_Mo_cutAll 5 = .ok (.iconst 0, 1) := by decide +kernel
theorem d_Mo_cutAll_6 : decode b_Mo_cutAll 6 = .ok (.istore_n 1, 1) := by decide +kernel
theorem d_Mo_cutAll_7 : decode b_Mo_cutAll 7 = .ok (.iload_n 1, 1) := by decide +kernel
theorem d_Mo_cutAll_8 : decode b_Mo_cutAll 8 = .ok (.aload_n 0, 1) := by decide +kernel
theorem d_Mo_cutAll_9 : decode b_Mo_cutAll 9 = .ok (.getfield 85, 3) := by decide +kernel
theorem d_Mo_cutAll_12 : decode b_Mo_cutAll 12 = .ok (.if_icmp .ge 59, 3) := by decide +kernel
theorem d_Mo_cutAll_15 : decode b_Mo_cutAll 15 = .ok (.aload_n 0, 1) := by decide +kernel
theorem d_Mo_cutAll_16 : decode b_Mo_cutAll 16 = .ok (.getfield 118, 3) := by decide +kernel
theorem d_Mo_cutAll_19 : decode b_Mo_cutAll 19 = .ok (.bipush 121, 2) := by decide +kernel
theorem d_Mo_cutAll_21 : decode b_Mo_cutAll 21 = .ok (.if_icmp .ge 50, 3) := by decide +kernel
theorem d_Mo_cutAll_24 : decode b_Mo_cutAll 24 = .ok (.aload_n 0, 1) := by decide +kernel
theorem d_Mo_cutAll_25 : decode b_Mo_cutAll 25 = .ok (.getfield 7, 3) := by decide +kernel
theorem d_Mo_cutAll_28 : decode b_Mo_cutAll 28 = .ok (.iload_n 1, 1) := by decide +kernel
theorem d_Mo_cutAll_29 : decode b_Mo_cutAll 29 = .ok (.iaload, 1) := by decide +kernel
theorem d_Mo_cutAll_30 : decode b_Mo_cutAll 30 = .ok (.bipush 32, 2) := by decide +kernel
theorem d_Mo_cutAll_32 : decode b_Mo_cutAll 32 = .ok (.if_icmp .ne 9, 3) := by decide +kernel
theorem d_Mo_cutAll_35 : decode b_Mo_cutAll 35 = .ok (.iinc 1 1, 3) := by decide +kernel
theorem d_Mo_cutAll_38 : decode b_Mo_cutAll 38 = .ok (.goto (-31), 3) := by decide +kernel
theorem d_Mo_cutAll_41 : decode b_Mo_cutAll 41 = .ok (.aload_n 0, 1) := by decide +kernel
theorem d_Mo_cutAll_42 : decode b_Mo_cutAll 42 = .ok (.iload_n 1, 1) := by decide +kernel
theorem d_Mo_cutAll_43 : decode b_Mo_cutAll 43 = .ok (.invokevirtual 128, 3) := by decide +kernel
theorem d_Mo_cutAll_46 : decode b_Mo_cutAll 46 = .ok (.istore_n 1, 1) := by decide +kernel
theorem d_Mo_cutAll_47 : decode b_Mo_cutAll 47 = .ok (.aload_n 0, 1) := by decide +kernel
theorem d_Mo_cutAll_48 : decode b_Mo_cutAll 48 = .ok (.getfield 16, 3) := by decide +kernel
theorem d_Mo_cutAll_51 : decode b_Mo_cutAll 51 = .ok (.aload_n 0, 1) := by decide +kernel
theorem d_Mo_cutAll_52 : decode b_Mo_cutAll 52 = .ok (.getfield 118, 3) := by decide +kernel
theorem d_Mo_cutAll_55 : decode b_Mo_cutAll 55 = .ok (.iconst 1, 1) := by decide +kernel
theorem d_Mo_cutAll_56 : decode b_Mo_cutAll 56 = .ok (.isub, 1) := by decide +kernel
theorem d_Mo_cutAll_57 : decode b_Mo_cutAll 57 = .ok (.iaload, 1) := by decide +kernel
theorem d_Mo_cutAll_58 : decode b_Mo_cutAll 58 = .ok (.bipush 9, 2) := by decide +kernel
theorem d_Mo_cutAll_60 : decode b_Mo_cutAll 60 = .ok (.if_icmp .ne (-53), 3) := by decide +kernel
theorem d_Mo_cutAll_63 : decode b_Mo_cutAll 63 = .ok (.aload_n 0, 1) := by decide +kernel
theorem d_Mo_cutAll_64 : decode b_Mo_cutAll 64 = .ok (.getfield 85, 3) := by decide +kernel
theorem d_Mo_cutAll_67 : decode b_Mo_cutAll 67 = .ok (.istore_n 1, 1) := by decide +kernel
theorem d_Mo_cutAll_68 : decode b_Mo_cutAll 68 = .ok (.goto (-61), 3) := by decide +kernel
theorem d_Mo_cutAll_71 : decode b_Mo_cutAll 71 = .ok (.aload_n 0, 1) := by decide +kernel
theorem d_Mo_cutAll_72 : decode b_Mo_cutAll 72 = .ok (.getfield 118, 3) := by decide +kernel
theorem d_Mo_cutAll_75 : decode b_Mo_cutAll 75 = .ok (.istore_n 2, 1) := by decide +kernel
theorem d_Mo_cutAll_76 : decode b_Mo_cutAll 76 = .ok (.iload_n 2, 1) := by decide +kernel
theorem d_Mo_cutAll_77 : decode b_Mo_cutAll 77 = .ok (.bipush 124, 2) := by decide +kernel
theorem d_Mo_cutAll_79 : decode b_Mo_cutAll 79 = .ok (.if_icmp .ge 16, 3) := by decide +kernel
theorem d_Mo_cutAll_82 : decode b_Mo_cutAll 82 = .ok (.aload_n 0, 1) := by decide +kernel
theorem d_Mo_cutAll_83 : decode b_Mo_cutAll 83 = .ok (.getfield 16, 3) := by decide +kernel
theorem d_Mo_cutAll_86 : decode b_Mo_cutAll 86 = .ok (.iload_n 2, 1) := by decide +kernel
theorem d_Mo_cutAll_87 : decode b_Mo_cutAll 87 = .ok (.iconst 0, 1) := by decide +kernel
theorem d_Mo_cutAll_88 : decode b_Mo_cutAll 88 = .ok (.iastore, 1) := by decide +kernel
theorem d_Mo_cutAll_89 : decode b_Mo_cutAll 89 = .ok (.iinc 2 1, 3) := by decide +kernel
theorem d_Mo_cutAll_92 : decode b_Mo_cutAll 92 = .ok (.goto (-16), 3) := by decide +kernel
theorem d_Mo_cutAll_95 : decode b_Mo_cutAll 95 = .ok (.return_, 1) := by decide +kernel
abbrev y_Mo_is : MethodName := ⟨"LanguageServerModel", "is", "(I)Z"⟩
abbrev b_Mo_is : ByteArray := prog_13_method_16_code
theorem d_Mo_is_0 : decode b_Mo_is 0 = .ok (.aload_n 0, 1) := by decide +kernel
theorem d_Mo_is_1 : decode b_Mo_is 1 = .ok (.getfield 131, 3) := by decide +kernel
theorem d_Mo_is_4 : decode b_Mo_is 4 = .ok (.ifCond .ne 20, 3) := by decide +kernel
theorem d_Mo_is_7 : decode b_Mo_is 7 = .ok (.aload_n 0, 1) := by decide +kernel
theorem d_Mo_is_8 : decode b_Mo_is 8 = .ok (.getfield 16, 3) := by decide +kernel
theorem d_Mo_is_11 : decode b_Mo_is 11 = .ok (.aload_n 0, 1) := by decide +kernel
theorem d_Mo_is_12 : decode b_Mo_is 12 = .ok (.getfield 135, 3) := by decide +kernel
theorem d_Mo_is_15 : decode b_Mo_is 15 = .ok (.iaload, 1) := by decide +kernel
theorem d_Mo_is_16 : decode b_Mo_is 16 = .ok (.iload_n 1, 1) := by decide +kernel
theorem d_Mo_is_17 : decode b_Mo_is 17 = .ok (.if_icmp .ne 7, 3) := by decide +kernel
theorem d_Mo_is_20 : decode b_Mo_is 20 = .ok (.iconst 1, 1) := by decide +kernel
theorem d_Mo_is_21 : decode b_Mo_is 21 = .ok (.goto 4, 3) := by decide +kernel
theorem d_Mo_is_24 : decode b_Mo_is 24 = .ok (.iconst 0, 1) := by decide +kernel
theorem d_Mo_is_25 : decode b_Mo_is 25 = .ok (.ireturn, 1) := by decide +kernel
abbrev y_Mo_take : MethodName := ⟨"LanguageServerModel", "take", "(I)Z"⟩
abbrev b_Mo_take : ByteArray := prog_13_method_17_code
theorem d_Mo_take_0 : decode b_Mo_take 0 = .ok (.aload_n 0, 1) := by decide +kernel
theorem d_Mo_take_1 : decode b_Mo_take 1 = .ok (.iload_n 1, 1) := by decide +kernel
theorem d_Mo_take_2 : decode b_Mo_take 2 = .ok (.invokevirtual 138, 3) := by decide +kernel
theorem d_Mo_take_5 : decode b_Mo_take 5 = .ok (.ifCond .ne 5, 3) := by decide +kernel
theorem d_Mo_take_8 : decode b_Mo_take 8 = .ok (.iconst 0, 1) := by decide +kernel
theorem d_Mo_take_9 : decode b_Mo_take 9 = .ok (.ireturn, 1) := by decide +kernel
theorem d_Mo_take_10 : decode b_Mo_take 10 = .ok (.aload_n 0, 1) := by decide +kernel
theorem d_Mo_take_11 : decode b_Mo_take 11 = .ok (.dup, 1) := by decide +kernel
theorem d_Mo_take_12 : decode b_Mo_take 12 = .ok (.getfield 135, 3) := by decide +kernel
theorem d_Mo_take_15 : decode b_Mo_take 15 = .ok (.iconst 1, 1) := by decide +kernel
theorem d_Mo_take_16 : decode b_Mo_take 16 = .ok (.iadd, 1) := by decide +kernel
theorem d_Mo_take_17 : decode b_Mo_take 17 = .ok (.putfield 135, 3) := by decide +kernel
theorem d_Mo_take_20 : decode b_Mo_take 20 = .ok (.iconst 1, 1) := by decide +kernel
theorem d_Mo_take_21 : decode b_Mo_take 21 = .ok (.ireturn, 1) := by decide +kernel
abbrev y_Mo_need : MethodName := ⟨"LanguageServerModel", "need", "(I)V"⟩
abbrev b_Mo_need : ByteArray := prog_13_method_18_code
theorem d_Mo_need_0 : decode b_Mo_need 0 = .ok (.aload_n 0, 1) := by decide +kernel
theorem d_Mo_need_1 : decode b_Mo_need 1 = .ok (.iload_n 1, 1) := by decide +kernel
theorem d_Mo_need_2 : decode b_Mo_need 2 = .ok (.invokevirtual 141, 3) := by decide +kernel
theorem d_Mo_need_5 : decode b_Mo_need 5 = .ok (.ifCond .ne 8, 3) := by decide +kernel
theorem d_Mo_need_8 : decode b_Mo_need 8 = .ok (.aload_n 0, 1) := by decide +kernel
theorem d_Mo_need_9 : decode b_Mo_need 9 = .ok (.iconst 1, 1) := by decide +kernel
theorem d_Mo_need_10 : decode b_Mo_need 10 = .ok (.putfield 131, 3) := by decide +kernel
theorem d_Mo_need_13 : decode b_Mo_need 13 = .ok (.return_, 1) := by decide +kernel
abbrev y_Mo_name : MethodName := ⟨"LanguageServerModel", "name", "(III)V"⟩
abbrev b_Mo_name : ByteArray := prog_13_method_19_code
theorem d_Mo_name_0 : decode b_Mo_name 0 = .ok (.aload_n 0, 1) := by decide +kernel
theorem d_Mo_name_1 : decode b_Mo_name 1 = .ok (.iconst 1, 1) := by decide +kernel
theorem d_Mo_name_2 : decode b_Mo_name 2 = .ok (.invokevirtual 138, 3) := by decide +kernel
theorem d_Mo_name_5 : decode b_Mo_name 5 = .ok (.ifCond .ne 9, 3) := by decide +kernel
theorem d_Mo_name_8 : decode b_Mo_name 8 = .ok (.aload_n 0, 1) := by decide +kernel
theorem d_Mo_name_9 : decode b_Mo_name 9 = .ok (.iconst 1, 1) := by decide +kernel
theorem d_Mo_name_10 : decode b_Mo_name 10 = .ok (.putfield 131, 3) := by decide +kernel
theorem d_Mo_name_13 : decode b_Mo_name 13 = .ok (.return_, 1) := by decide +kernel
theorem d_Mo_name_14 : decode b_Mo_name 14 = .ok (.aload_n 0, 1) := by decide +kernel
theorem d_Mo_name_15 : decode b_Mo_name 15 = .ok (.getfield 29, 3) := by decide +kernel
theorem d_Mo_name_18 : decode b_Mo_name 18 = .ok (.aload_n 0, 1) := by decide +kernel
theorem d_Mo_name_19 : decode b_Mo_name 19 = .ok (.getfield 135, 3) := by decide +kernel
theorem d_Mo_name_22 : decode b_Mo_name 22 = .ok (.iload_n 1, 1) := by decide +kernel
theorem d_Mo_name_23 : decode b_Mo_name 23 = .ok (.iastore, 1) := by decide +kernel
theorem d_Mo_name_24 : decode b_Mo_name 24 = .ok (.aload_n 0, 1) := by decide +kernel
theorem d_Mo_name_25 : decode b_Mo_name 25 = .ok (.getfield 32, 3) := by decide +kernel
theorem d_Mo_name_28 : decode b_Mo_name 28 = .ok (.aload_n 0, 1) := by decide +kernel
theorem d_Mo_name_29 : decode b_Mo_name 29 = .ok (.getfield 135, 3) := by decide +kernel
theorem d_Mo_name_32 : decode b_Mo_name 32 = .ok (.iload_n 2, 1) := by decide +kernel
theorem d_Mo_name_33 : decode b_Mo_name 33 = .ok (.iastore, 1) := by decide +kernel
theorem d_Mo_name_34 : decode b_Mo_name 34 = .ok (.aload_n 0, 1) := by decide +kernel
theorem d_Mo_name_35 : decode b_Mo_name 35 = .ok (.getfield 35, 3) := by decide +kernel
theorem d_Mo_name_38 : decode b_Mo_name 38 = .ok (.aload_n 0, 1) := by decide +kernel
theorem d_Mo_name_39 : decode b_Mo_name 39 = .ok (.getfield 135, 3) := by decide +kernel
theorem d_Mo_name_42 : decode b_Mo_name 42 = .ok (.iload_n 3, 1) := by decide +kernel
theorem d_Mo_name_43 : decode b_Mo_name 43 = .ok (.iastore, 1) := by decide +kernel
theorem d_Mo_name_44 : decode b_Mo_name 44 = .ok (.aload_n 0, 1) := by decide +kernel
theorem d_Mo_name_45 : decode b_Mo_name 45 = .ok (.dup, 1) := by decide +kernel
theorem d_Mo_name_46 : decode b_Mo_name 46 = .ok (.getfield 135, 3) := by decide +kernel
theorem d_Mo_name_49 : decode b_Mo_name 49 = .ok (.iconst 1, 1) := by decide +kernel
theorem d_Mo_name_50 : decode b_Mo_name 50 = .ok (.iadd, 1) := by decide +kernel
theorem d_Mo_name_51 : decode b_Mo_name 51 = .ok (.putfield 135, 3) := by decide +kernel
theorem d_Mo_name_54 : decode b_Mo_name 54 = .ok (.return_, 1) := by decide +kernel
abbrev y_Mo_typeWord : MethodName := ⟨"LanguageServerModel", "typeWord", "(II)V"⟩
abbrev b_Mo_typeWord : ByteArray := prog_13_method_20_code
theorem d_Mo_typeWord_0 : decode b_Mo_typeWord 0 = .ok (.aload_n 0, 1) := by decide +kernel
theorem d_Mo_typeWord_1 : decode b_Mo_typeWord 1 = .ok (.iconst 3, 1) := by decide +kernel
theorem d_Mo_typeWord_2 : decode b_Mo_typeWord 2 = .ok (.invokevirtual 141, 3) := by decide +kernel
theorem d_Mo_typeWord_5 : decode b_Mo_typeWord 5 = .ok (.ifCond .ne 10, 3) := by decide +kernel
theorem d_Mo_typeWord_8 : decode b_Mo_typeWord 8 = .ok (.aload_n 0, 1) := by decide +kernel
theorem d_Mo_typeWord_9 : decode b_Mo_typeWord 9 = .ok (.iconst 2, 1) := by decide +kernel
theorem d_Mo_typeWord_10 : decode b_Mo_typeWord 10 = .ok (.iload_n 1, 1) := by decide +kernel
theorem d_Mo_typeWord_11 : decode b_Mo_typeWord 11 = .ok (.iload_n 2, 1) := by decide +kernel
theorem d_Mo_typeWord_12 : decode b_Mo_typeWord 12 = .ok (.invokevirtual 144, 3) := by decide +kernel
theorem d_Mo_typeWord_15 : decode b_Mo_typeWord 15 = .ok (.return_, 1) := by decide +kernel
abbrev y_Mo_opn : MethodName := ⟨"LanguageServerModel", "open", "(Z)V"⟩
abbrev b_Mo_opn : ByteArray := prog_13_method_21_code
theorem d_Mo_opn_0 : decode b_Mo_opn 0 = .ok (.aload_n 0, 1) := by decide +kernel
theorem d_Mo_opn_1 : decode b_Mo_opn 1 = .ok (.getfield 148, 3) := by decide +kernel
theorem d_Mo_opn_4 : decode b_Mo_opn 4 = .ok (.bipush 8, 2) := by decide +kernel
theorem d_Mo_opn_6 : decode b_Mo_opn 6 = .ok (.if_icmp .ne 9, 3) := by decide +kernel
theorem d_Mo_opn_9 : decode b_Mo_opn 9 = .ok (.aload_n 0, 1) := by decide +kernel
theorem d_Mo_opn_10 : decode b_Mo_opn 10 = .ok (.iconst 1, 1) := by decide +kernel
theorem d_Mo_opn_11 : decode b_Mo_opn 11 = .ok (.putfield 131, 3) := by decide +kernel
theorem d_Mo_opn_14 : decode b_Mo_opn 14 = .ok (.return_, 1) := by decide +kernel
theorem d_Mo_opn_15 : decode b_Mo_opn 15 = .ok (.aload_n 0, 1) := by decide +kernel
theorem d_Mo_opn_16 : decode b_Mo_opn 16 = .ok (.dup, 1) := by decide +kernel
theorem d_Mo_opn_17 : decode b_Mo_opn 17 = .ok (.getfield 135, 3) := by decide +kernel
theorem d_Mo_opn_20 : decode b_Mo_opn 20 = .ok (.iconst 1, 1) := by decide +kernel
theorem d_Mo_opn_21 : decode b_Mo_opn 21 = .ok (.iadd, 1) := by decide +kernel
theorem d_Mo_opn_22 : decode b_Mo_opn 22 = .ok (.putfield 135, 3) := by decide +kernel
theorem d_Mo_opn_25 : decode b_Mo_opn 25 = .ok (.aload_n 0, 1) := by decide +kernel
theorem d_Mo_opn_26 : decode b_Mo_opn 26 = .ok (.getfield 56, 3) := by decide +kernel
theorem d_Mo_opn_29 : decode b_Mo_opn 29 = .ok (.aload_n 0, 1) := by decide +kernel
theorem d_Mo_opn_30 : decode b_Mo_opn 30 = .ok (.getfield 148, 3) := by decide +kernel
theorem d_Mo_opn_33 : decode b_Mo_opn 33 = .ok (.iload_n 1, 1) := by decide +kernel
theorem d_Mo_opn_34 : decode b_Mo_opn 34 = .ok (.ifCond .eq 7, 3) := by decide +kernel
theorem d_Mo_opn_37 : decode b_Mo_opn 37 = .ok (.iconst 1, 1) := by decide +kernel
theorem d_Mo_opn_38 : decode b_Mo_opn 38 = .ok (.goto 4, 3) := by decide +kernel
theorem d_Mo_opn_41 : decode b_Mo_opn 41 = .ok (.iconst 0, 1) := by decide +kernel
theorem d_Mo_opn_42 : decode b_Mo_opn 42 = .ok (.iastore, 1) := by decide +kernel
theorem d_Mo_opn_43 : decode b_Mo_opn 43 = .ok (.aload_n 0, 1) := by decide +kernel
theorem d_Mo_opn_44 : decode b_Mo_opn 44 = .ok (.dup, 1) := by decide +kernel
theorem d_Mo_opn_45 : decode b_Mo_opn 45 = .ok (.getfield 148, 3) := by decide +kernel
theorem d_Mo_opn_48 : decode b_Mo_opn 48 = .ok (.iconst 1, 1) := by decide +kernel
theorem d_Mo_opn_49 : decode b_Mo_opn 49 = .ok (.iadd, 1) := by decide +kernel
theorem d_Mo_opn_50 : decode b_Mo_opn 50 = .ok (.putfield 148, 3) := by decide +kernel
theorem d_Mo_opn_53 : decode b_Mo_opn 53 = .ok (.return_, 1) := by decide +kernel
abbrev y_Mo_behindName : MethodName := ⟨"LanguageServerModel", "behindName", "(III)Z"⟩
abbrev b_Mo_behindName : ByteArray := prog_13_method_22_code
theorem d_Mo_behindName_0 : decode b_Mo_behindName 0 = .ok (.aload_n 0, 1) := by decide +kernel
theorem d_Mo_behindName_1 : decode b_Mo_behindName 1 = .ok (.aload_n 0, 1) := by decide +kernel
theorem d_Mo_behindName_2 : decode b_Mo_behindName 2 = .ok (.getfield 16, 3) := by decide +kernel
theorem d_Mo_behindName_5 : decode b_Mo_behindName 5 = .ok (.aload_n 0, 1) := by decide +kernel
theorem d_Mo_behindName_6 : decode b_Mo_behindName 6 = .ok (.getfield 135, 3) := by decide +kernel
theorem d_Mo_behindName_9 : decode b_Mo_behindName 9 = .ok (.iconst 1, 1) := by decide +kernel
theorem d_Mo_behindName_10 : decode b_Mo_behindName 10 = .ok (.iadd, 1) := by decide +kernel
theorem d_Mo_behindName_11 : decode b_Mo_behindName 11 = .ok (.iaload, 1) := by decide +kernel
theorem d_Mo_behindName_12 : decode b_Mo_behindName 12 = .ok (.bipush 40, 2) := by decide +kernel
theorem d_Mo_behindName_14 : decode b_Mo_behindName 14 = .ok (.if_icmp .ne 9, 3) := by decide +kernel
theorem d_Mo_behindName_17 : decode b_Mo_behindName 17 = .ok (.iload_n 1, 1) := by decide +kernel
theorem d_Mo_behindName_18 : decode b_Mo_behindName 18 = .ok (.iconst 1, 1) := by decide +kernel
theorem d_Mo_behindName_19 : decode b_Mo_behindName 19 = .ok (.iadd, 1) := by decide +kernel
theorem d_Mo_behindName_20 : decode b_Mo_behindName 20 = .ok (.goto 4, 3) := by decide +kernel
theorem d_Mo_behindName_23 : decode b_Mo_behindName 23 = .ok (.iload_n 1, 1) := by decide +kernel
theorem d_Mo_behindName_24 : decode b_Mo_behindName 24 = .ok (.iload_n 2, 1) := by decide +kernel
theorem d_Mo_behindName_25 : decode b_Mo_behindName 25 = .ok (.iload_n 3, 1) := by decide +kernel
theorem d_Mo_behindName_26 : decode b_Mo_behindName 26 = .ok (.invokevirtual 144, 3) := by decide +kernel
theorem d_Mo_behindName_29 : decode b_Mo_behindName 29 = .ok (.aload_n 0, 1) := by decide +kernel
theorem d_Mo_behindName_30 : decode b_Mo_behindName 30 = .ok (.getfield 131, 3) := by decide +kernel
theorem d_Mo_behindName_33 : decode b_Mo_behindName 33 = .ok (.ifCond .ne 12, 3) := by decide +kernel
theorem d_Mo_behindName_36 : decode b_Mo_behindName 36 = .ok (.aload_n 0, 1) := by decide +kernel
theorem d_Mo_behindName_37 : decode b_Mo_behindName 37 = .ok (.bipush 40, 2) := by decide +kernel
theorem d_Mo_behindName_39 : decode b_Mo_behindName 39 = .ok (.invokevirtual 138, 3) := by decide +kernel
theorem d_Mo_behindName_42 : decode b_Mo_behindName 42 = .ok (.ifCond .ne 5, 3) := by decide +kernel
theorem d_Mo_behindName_45 : decode b_Mo_behindName 45 = .ok (.iconst 0, 1) := by decide +kernel
theorem d_Mo_behindName_46 : decode b_Mo_behindName 46 = .ok (.ireturn, 1) := by decide +kernel
theorem d_Mo_behindName_47 : decode b_Mo_behindName 47 = .ok (.aload_n 0, 1) := by decide +kernel
theorem d_Mo_behindName_48 : decode b_Mo_behindName 48 = .ok (.iconst 1, 1) := by decide +kernel
theorem d_Mo_behindName_49 : decode b_Mo_behindName 49 = .ok (.invokevirtual 151, 3) := by decide +kernel
theorem d_Mo_behindName_52 : decode b_Mo_behindName 52 = .ok (.aload_n 0, 1) := by decide +kernel
theorem d_Mo_behindName_53 : decode b_Mo_behindName 53 = .ok (.getfield 131, 3) := by decide +kernel
theorem d_Mo_behindName_56 : decode b_Mo_behindName 56 = .ok (.ifCond .eq 5, 3) := by decide +kernel
theorem d_Mo_behindName_59 : decode b_Mo_behindName 59 = .ok (.iconst 0, 1) := by decide +kernel
theorem d_Mo_behindName_60 : decode b_Mo_behindName 60 = .ok (.ireturn, 1) := by decide +kernel
theorem d_Mo_behindName_61 : decode b_Mo_behindName 61 = .ok (.aload_n 0, 1) := by decide +kernel
theorem d_Mo_behindName_62 : decode b_Mo_behindName 62 = .ok (.bipush 41, 2) := by decide +kernel
theorem d_Mo_behindName_64 : decode b_Mo_behindName 64 = .ok (.invokevirtual 138, 3) := by decide +kernel
theorem d_Mo_behindName_67 : decode b_Mo_behindName 67 = .ok (.ifCond .ne 5, 3) := by decide +kernel
theorem d_Mo_behindName_70 : decode b_Mo_behindName 70 = .ok (.iconst 1, 1) := by decide +kernel
theorem d_Mo_behindName_71 : decode b_Mo_behindName 71 = .ok (.ireturn, 1) := by decide +kernel
theorem d_Mo_behindName_72 : decode b_Mo_behindName 72 = .ok (.aload_n 0, 1) := by decide +kernel
theorem d_Mo_behindName_73 : decode b_Mo_behindName 73 = .ok (.dup, 1) := by decide +kernel
theorem d_Mo_behindName_74 : decode b_Mo_behindName 74 = .ok (.getfield 135, 3) := by decide +kernel
theorem d_Mo_behindName_77 : decode b_Mo_behindName 77 = .ok (.iconst 1, 1) := by decide +kernel
theorem d_Mo_behindName_78 : decode b_Mo_behindName 78 = .ok (.iadd, 1) := by decide +kernel
theorem d_Mo_behindName_79 : decode b_Mo_behindName 79 = .ok (.putfield 135, 3) := by decide +kernel
theorem d_Mo_behindName_82 : decode b_Mo_behindName 82 = .ok (.aload_n 0, 1) := by decide +kernel
theorem d_Mo_behindName_83 : decode b_Mo_behindName 83 = .ok (.dup, 1) := by decide +kernel
theorem d_Mo_behindName_84 : decode b_Mo_behindName 84 = .ok (.getfield 148, 3) := by decide +kernel
theorem d_Mo_behindName_87 : decode b_Mo_behindName 87 = .ok (.iconst 1, 1) := by decide +kernel
theorem d_Mo_behindName_88 : decode b_Mo_behindName 88 = .ok (.isub, 1) := by decide +kernel
theorem d_Mo_behindName_89 : decode b_Mo_behindName 89 = .ok (.putfield 148, 3) := by decide +kernel
theorem d_Mo_behindName_92 : decode b_Mo_behindName 92 = .ok (.iconst 0, 1) := by decide +kernel
theorem d_Mo_behindName_93 : decode b_Mo_behindName 93 = .ok (.ireturn, 1) := by decide +kernel
abbrev y_Mo_operand : MethodName := ⟨"LanguageServerModel", "operand", "(II)Z"⟩
abbrev b_Mo_operand : ByteArray := prog_13_method_23_code
theorem d_Mo_operand_0 : decode b_Mo_operand 0 = .ok (.aload_n 0, 1) := by decide +kernel
theorem d_Mo_operand_1 : decode b_Mo_operand 1 = .ok (.iconst 1, 1) := by decide +kernel
theorem d_Mo_operand_2 : decode b_Mo_operand 2 = .ok (.invokevirtual 138, 3) := by decide +kernel
theorem d_Mo_operand_5 : decode b_Mo_operand 5 = .ok (.ifCond .eq 12, 3) := by decide +kernel
theorem d_Mo_operand_8 : decode b_Mo_operand 8 = .ok (.aload_n 0, 1) := by decide +kernel
theorem d_Mo_operand_9 : decode b_Mo_operand 9 = .ok (.bipush 9, 2) := by decide +kernel
theorem d_Mo_operand_11 : decode b_Mo_operand 11 = .ok (.iload_n 1, 1) := by decide +kernel
theorem d_Mo_operand_12 : decode b_Mo_operand 12 = .ok (.iload_n 2, 1) := by decide +kernel
theorem d_Mo_operand_13 : decode b_Mo_operand 13 = .ok (.invokevirtual 155, 3) := by decide +kernel
theorem d_Mo_operand_16 : decode b_Mo_operand 16 = .ok (.ireturn, 1) := by decide +kernel
theorem d_Mo_operand_17 : decode b_Mo_operand 17 = .ok (.aload_n 0, 1) := by decide +kernel
theorem d_Mo_operand_18 : decode b_Mo_operand 18 = .ok (.bipush 40, 2) := by decide +kernel
theorem d_Mo_operand_20 : decode b_Mo_operand 20 = .ok (.invokevirtual 138, 3) := by decide +kernel
theorem d_Mo_operand_23 : decode b_Mo_operand 23 = .ok (.ifCond .eq 10, 3) := by decide +kernel
theorem d_Mo_operand_26 : decode b_Mo_operand 26 = .ok (.aload_n 0, 1) := by decide +kernel
theorem d_Mo_operand_27 : decode b_Mo_operand 27 = .ok (.iconst 0, 1) := by decide +kernel
theorem d_Mo_operand_28 : decode b_Mo_operand 28 = .ok (.invokevirtual 151, 3) := by decide +kernel
theorem d_Mo_operand_31 : decode b_Mo_operand 31 = .ok (.iconst 1, 1) := by decide +kernel
theorem d_Mo_operand_32 : decode b_Mo_operand 32 = .ok (.ireturn, 1) := by decide +kernel
theorem d_Mo_operand_33 : decode b_Mo_operand 33 = .ok (.aload_n 0, 1) := by decide +kernel
theorem d_Mo_operand_34 : decode b_Mo_operand 34 = .ok (.bipush 7, 2) := by decide +kernel
theorem d_Mo_operand_36 : decode b_Mo_operand 36 = .ok (.invokevirtual 141, 3) := by decide +kernel
theorem d_Mo_operand_39 : decode b_Mo_operand 39 = .ok (.ifCond .eq 13, 3) := by decide +kernel
theorem d_Mo_operand_42 : decode b_Mo_operand 42 = .ok (.aload_n 0, 1) := by decide +kernel
theorem d_Mo_operand_43 : decode b_Mo_operand 43 = .ok (.iconst 4, 1) := by decide +kernel
theorem d_Mo_operand_44 : decode b_Mo_operand 44 = .ok (.iload_n 1, 1) := by decide +kernel
theorem d_Mo_operand_45 : decode b_Mo_operand 45 = .ok (.iload_n 2, 1) := by decide +kernel
theorem d_Mo_operand_46 : decode b_Mo_operand 46 = .ok (.invokevirtual 144, 3) := by decide +kernel
theorem d_Mo_operand_49 : decode b_Mo_operand 49 = .ok (.goto 25, 3) := by decide +kernel
theorem d_Mo_operand_52 : decode b_Mo_operand 52 = .ok (.aload_n 0, 1) := by decide +kernel
theorem d_Mo_operand_53 : decode b_Mo_operand 53 = .ok (.iconst 2, 1) := by decide +kernel
theorem d_Mo_operand_54 : decode b_Mo_operand 54 = .ok (.invokevirtual 141, 3) := by decide +kernel
theorem d_Mo_operand_57 : decode b_Mo_operand 57 = .ok (.ifCond .ne 17, 3) := by decide +kernel
theorem d_Mo_operand_60 : decode b_Mo_operand 60 = .ok (.aload_n 0, 1) := by decide +kernel
theorem d_Mo_operand_61 : decode b_Mo_operand 61 = .ok (.bipush 8, 2) := by decide +kernel
theorem d_Mo_operand_63 : decode b_Mo_operand 63 = .ok (.invokevirtual 141, 3) := by decide +kernel
theorem d_Mo_operand_66 : decode b_Mo_operand 66 = .ok (.ifCond .ne 8, 3) := by decide +kernel
theorem d_Mo_operand_69 : decode b_Mo_operand 69 = .ok (.aload_n 0, 1) := by decide +kernel
theorem d_Mo_operand_70 : decode b_Mo_operand 70 = .ok (.iconst 1, 1) := by decide +kernel
theorem d_Mo_operand_71 : decode b_Mo_operand 71 = .ok (.putfield 131, 3) := by decide +kernel
theorem d_Mo_operand_74 : decode b_Mo_operand 74 = .ok (.iconst 0, 1) := by decide +kernel
theorem d_Mo_operand_75 : decode b_Mo_operand 75 = .ok (.ireturn, 1) := by decide +kernel
abbrev y_Mo_expression : MethodName := ⟨"LanguageServerModel", "expression", "(II)V"⟩
abbrev b_Mo_expression : ByteArray := prog_13_method_24_code
theorem d_Mo_expression_0 : decode b_Mo_expression 0 = .ok (.aload_n 0, 1) := by decide +kernel
theorem d_Mo_expression_1 : decode b_Mo_expression 1 = .ok (.iconst 0, 1) := by decide +kernel
theorem d_Mo_expression_2 : decode b_Mo_expression 2 = .ok (.putfield 148, 3) := by decide +kernel
theorem d_Mo_expression_5 : decode b_Mo_expression 5 = .ok (.iconst 1, 1) := by decide +kernel
theorem d_Mo_expression_6 : decode b_Mo_expression 6 = .ok (.istore_n 3, 1) := by decide +kernel
theorem d_Mo_expression_7 : decode b_Mo_expression 7 = .ok (.iconst 1, 1) := by decide +kernel
theorem d_Mo_expression_8 : decode b_Mo_expression 8 = .ok (.istore 4, 2) := by decide +kernel
theorem d_Mo_expression_10 : decode b_Mo_expression 10 = .ok (.iload 4, 2) := by decide +kernel
theorem d_Mo_expression_12 : decode b_Mo_expression 12 = .ok (.ifCond .eq 127, 3) := by decide +kernel
theorem d_Mo_expression_15 : decode b_Mo_expression 15 = .ok (.aload_n 0, 1) := by decide +kernel
theorem d_Mo_expression_16 : decode b_Mo_expression 16 = .ok (.getfield 131, 3) := by decide +kernel
theorem d_Mo_expression_19 : decode b_Mo_expression 19 = .ok (.ifCond .ne 120, 3) := by decide +kernel
theorem d_Mo_expression_22 : decode b_Mo_expression 22 = .ok (.iload_n 3, 1) := by decide +kernel
theorem d_Mo_expression_23 : decode b_Mo_expression 23 = .ok (.ifCond .eq 13, 3) := by decide +kernel
theorem d_Mo_expression_26 : decode b_Mo_expression 26 = .ok (.aload_n 0, 1) := by decide +kernel
theorem d_Mo_expression_27 : decode b_Mo_expression 27 = .ok (.iload_n 1, 1) := by decide +kernel
theorem d_Mo_expression_28 : decode b_Mo_expression 28 = .ok (.iload_n 2, 1) := by decide +kernel
theorem d_Mo_expression_29 : decode b_Mo_expression 29 = .ok (.invokevirtual 159, 3) := by decide +kernel
theorem d_Mo_expression_32 : decode b_Mo_expression 32 = .ok (.istore_n 3, 1) := by decide +kernel
theorem d_Mo_expression_33 : decode b_Mo_expression 33 = .ok (.goto (-23), 3) := by decide +kernel
theorem d_Mo_expression_36 : decode b_Mo_expression 36 = .ok (.aload_n 0, 1) := by decide +kernel
theorem d_Mo_expression_37 : decode b_Mo_expression 37 = .ok (.bipush 46, 2) := by decide +kernel
theorem d_Mo_expression_39 : decode b_Mo_expression 39 = .ok (.invokevirtual 141, 3) := by decide +kernel
theorem d_Mo_expression_42 : decode b_Mo_expression 42 = .ok (.ifCond .eq 15, 3) := by decide +kernel
theorem d_Mo_expression_45 : decode b_Mo_expression 45 = .ok (.aload_n 0, 1) := by decide +kernel
theorem d_Mo_expression_46 : decode b_Mo_expression 46 = .ok (.bipush 11, 2) := by decide +kernel
theorem d_Mo_expression_48 : decode b_Mo_expression 48 = .ok (.iload_n 1, 1) := by decide +kernel
theorem d_Mo_expression_49 : decode b_Mo_expression 49 = .ok (.iload_n 2, 1) := by decide +kernel
theorem d_Mo_expression_50 : decode b_Mo_expression 50 = .ok (.invokevirtual 155, 3) := by decide +kernel
theorem d_Mo_expression_53 : decode b_Mo_expression 53 = .ok (.istore_n 3, 1) := by decide +kernel
theorem d_Mo_expression_54 : decode b_Mo_expression 54 = .ok (.goto (-44), 3) := by decide +kernel
theorem d_Mo_expression_57 : decode b_Mo_expression 57 = .ok (.aload_n 0, 1) := by decide +kernel
theorem d_Mo_expression_58 : decode b_Mo_expression 58 = .ok (.bipush 43, 2) := by decide +kernel
theorem d_Mo_expression_60 : decode b_Mo_expression 60 = .ok (.invokevirtual 141, 3) := by decide +kernel
theorem d_Mo_expression_63 : decode b_Mo_expression 63 = .ok (.ifCond .eq 8, 3) := by decide +kernel
theorem d_Mo_expression_66 : decode b_Mo_expression 66 = .ok (.iconst 1, 1) := by decide +kernel
theorem d_Mo_expression_67 : decode b_Mo_expression 67 = .ok (.istore_n 3, 1) := by decide +kernel
theorem d_Mo_expression_68 : decode b_Mo_expression 68 = .ok (.goto (-58), 3) := by decide +kernel
theorem d_Mo_expression_71 : decode b_Mo_expression 71 = .ok (.aload_n 0, 1) := by decide +kernel
theorem d_Mo_expression_72 : decode b_Mo_expression 72 = .ok (.getfield 148, 3) := by decide +kernel
theorem d_Mo_expression_75 : decode b_Mo_expression 75 = .ok (.ifCond .le 32, 3) := by decide +kernel
theorem d_Mo_expression_78 : decode b_Mo_expression 78 = .ok (.aload_n 0, 1) := by decide +kernel
theorem d_Mo_expression_79 : decode b_Mo_expression 79 = .ok (.getfield 56, 3) := by decide +kernel
theorem d_Mo_expression_82 : decode b_Mo_expression 82 = .ok (.aload_n 0, 1) := by decide +kernel
theorem d_Mo_expression_83 : decode b_Mo_expression 83 = .ok (.getfield 148, 3) := by decide +kernel
theorem d_Mo_expression_86 : decode b_Mo_expression 86 = .ok (.iconst 1, 1) := by decide +kernel
theorem d_Mo_expression_87 : decode b_Mo_expression 87 = .ok (.isub, 1) := by decide +kernel
theorem d_Mo_expression_88 : decode b_Mo_expression 88 = .ok (.iaload, 1) := by decide +kernel
theorem d_Mo_expression_89 : decode b_Mo_expression 89 = .ok (.iconst 1, 1) := by decide +kernel
theorem d_Mo_expression_90 : decode b_Mo_expression 90 = .ok (.if_icmp .ne 17, 3) := by decide +kernel
theorem d_Mo_expression_93 : decode b_Mo_expression 93 = .ok (.aload_n 0, 1) := by decide +kernel
theorem d_Mo_expression_94 : decode b_Mo_expression 94 = .ok (.bipush 44, 2) := by decide +kernel
theorem d_Mo_expression_96 : decode b_Mo_expression 96 = .ok (.invokevirtual 141, 3) := by decide +kernel
theorem d_Mo_expression_99 : decode b_Mo_expression 99 = .ok (.ifCond .eq 8, 3) := by decide +kernel
theorem d_Mo_expression_102 : decode b_Mo_expression 102 = .ok (.iconst 1, 1) := by decide +kernel
theorem d_Mo_expression_103 : decode b_Mo_expression 103 = .ok (.istore_n 3, 1) := by decide +kernel
theorem d_Mo_expression_104 : decode b_Mo_expression 104 = .ok (.goto (-94), 3) := by decide +kernel
theorem d_Mo_expression_107 : decode b_Mo_expression 107 = .ok (.aload_n 0, 1) := by decide +kernel
theorem d_Mo_expression_108 : decode b_Mo_expression 108 = .ok (.getfield 148, 3) := by decide +kernel
theorem d_Mo_expression_111 : decode b_Mo_expression 111 = .ok (.ifCond .le 22, 3) := by decide +kernel
theorem d_Mo_expression_114 : decode b_Mo_expression 114 = .ok (.aload_n 0, 1) := by decide +kernel
theorem d_Mo_expression_115 : decode b_Mo_expression 115 = .ok (.bipush 41, 2) := by decide +kernel
theorem d_Mo_expression_117 : decode b_Mo_expression 117 = .ok (.invokevirtual 163, 3) := by decide +kernel
theorem d_Mo_expression_120 : decode b_Mo_expression 120 = .ok (.aload_n 0, 1) := by decide +kernel
theorem d_Mo_expression_121 : decode b_Mo_expression 121 = .ok (.dup, 1) := by decide +kernel
theorem d_Mo_expression_122 : decode b_Mo_expression 122 = .ok (.getfield 148, 3) := by decide +kernel
theorem d_Mo_expression_125 : decode b_Mo_expression 125 = .ok (.iconst 1, 1) := by decide +kernel
theorem d_Mo_expression_126 : decode b_Mo_expression 126 = .ok (.isub, 1) := by decide +kernel
theorem d_Mo_expression_127 : decode b_Mo_expression 127 = .ok (.putfield 148, 3) := by decide +kernel
theorem d_Mo_expression_130 : decode b_Mo_expression 130 = .ok (.goto (-120), 3) := by decide +kernel
theorem d_Mo_expression_133 : decode b_Mo_expression 133 = .ok (.iconst 0, 1) := by decide +kernel
theorem d_Mo_expression_134 : decode b_Mo_expression 134 = .ok (.istore 4, 2) := by decide +kernel
theorem d_Mo_expression_136 : decode b_Mo_expression 136 = .ok (.goto (-126), 3) := by decide +kernel
theorem d_Mo_expression_139 : decode b_Mo_expression 139 = .ok (.return_, 1) := by decide +kernel
abbrev y_Mo_statement : MethodName := ⟨"LanguageServerModel", "statement", "(II)V"⟩
abbrev b_Mo_statement : ByteArray := prog_13_method_25_code
theorem d_Mo_statement_0 : decode b_Mo_statement 0 = .ok (.aload_n 0, 1) := by decide +kernel
theorem d_Mo_statement_1 : decode b_Mo_statement 1 = .ok (.getfield 135, 3) := by decide +kernel
theorem d_Mo_statement_4 : decode b_Mo_statement 4 = .ok (.istore_n 3, 1) := by decide +kernel
theorem d_Mo_statement_5 : decode b_Mo_statement 5 = .ok (.aload_n 0, 1) := by decide +kernel
theorem d_Mo_statement_6 : decode b_Mo_statement 6 = .ok (.iconst 3, 1) := by decide +kernel
theorem d_Mo_statement_7 : decode b_Mo_statement 7 = .ok (.invokevirtual 138, 3) := by decide +kernel
theorem d_Mo_statement_10 : decode b_Mo_statement 10 = .ok (.ifCond .ne 26, 3) := by decide +kernel
theorem d_Mo_statement_13 : decode b_Mo_statement 13 = .ok (.aload_n 0, 1) := by decide +kernel
theorem d_Mo_statement_14 : decode b_Mo_statement 14 = .ok (.iconst 1, 1) := by decide +kernel
theorem d_Mo_statement_15 : decode b_Mo_statement 15 = .ok (.invokevirtual 138, 3) := by decide +kernel
theorem d_Mo_statement_18 : decode b_Mo_statement 18 = .ok (.ifCond .eq 54, 3) := by decide +kernel
theorem d_Mo_statement_21 : decode b_Mo_statement 21 = .ok (.aload_n 0, 1) := by decide +kernel
theorem d_Mo_statement_22 : decode b_Mo_statement 22 = .ok (.getfield 16, 3) := by decide +kernel
theorem d_Mo_statement_25 : decode b_Mo_statement 25 = .ok (.aload_n 0, 1) := by decide +kernel
theorem d_Mo_statement_26 : decode b_Mo_statement 26 = .ok (.getfield 135, 3) := by decide +kernel
theorem d_Mo_statement_29 : decode b_Mo_statement 29 = .ok (.iconst 1, 1) := by decide +kernel
theorem d_Mo_statement_30 : decode b_Mo_statement 30 = .ok (.iadd, 1) := by decide +kernel
theorem d_Mo_statement_31 : decode b_Mo_statement 31 = .ok (.iaload, 1) := by decide +kernel
theorem d_Mo_statement_32 : decode b_Mo_statement 32 = .ok (.iconst 1, 1) := by decide +kernel
theorem d_Mo_statement_33 : decode b_Mo_statement 33 = .ok (.if_icmp .ne 39, 3) := by decide +kernel
theorem d_Mo_statement_36 : decode b_Mo_statement 36 = .ok (.aload_n 0, 1) := by decide +kernel
theorem d_Mo_statement_37 : decode b_Mo_statement 37 = .ok (.getfield 38, 3) := by decide +kernel
theorem d_Mo_statement_40 : decode b_Mo_statement 40 = .ok (.iload_n 3, 1) := by decide +kernel
theorem d_Mo_statement_41 : decode b_Mo_statement 41 = .ok (.iconst 1, 1) := by decide +kernel
theorem d_Mo_statement_42 : decode b_Mo_statement 42 = .ok (.iastore, 1) := by decide +kernel
theorem d_Mo_statement_43 : decode b_Mo_statement 43 = .ok (.aload_n 0, 1) := by decide +kernel
theorem d_Mo_statement_44 : decode b_Mo_statement 44 = .ok (.iload_n 1, 1) := by decide +kernel
theorem d_Mo_statement_45 : decode b_Mo_statement 45 = .ok (.iload_n 2, 1) := by decide +kernel
theorem d_Mo_statement_46 : decode b_Mo_statement 46 = .ok (.invokevirtual 167, 3) := by decide +kernel
theorem d_Mo_statement_49 : decode b_Mo_statement 49 = .ok (.aload_n 0, 1) := by decide +kernel
theorem d_Mo_statement_50 : decode b_Mo_statement 50 = .ok (.bipush 8, 2) := by decide +kernel
theorem d_Mo_statement_52 : decode b_Mo_statement 52 = .ok (.iload_n 1, 1) := by decide +kernel
theorem d_Mo_statement_53 : decode b_Mo_statement 53 = .ok (.iload_n 2, 1) := by decide +kernel
theorem d_Mo_statement_54 : decode b_Mo_statement 54 = .ok (.invokevirtual 144, 3) := by decide +kernel
theorem d_Mo_statement_57 : decode b_Mo_statement 57 = .ok (.aload_n 0, 1) := by decide +kernel
theorem d_Mo_statement_58 : decode b_Mo_statement 58 = .ok (.bipush 61, 2) := by decide +kernel
theorem d_Mo_statement_60 : decode b_Mo_statement 60 = .ok (.invokevirtual 163, 3) := by decide +kernel
theorem d_Mo_statement_63 : decode b_Mo_statement 63 = .ok (.aload_n 0, 1) := by decide +kernel
theorem d_Mo_statement_64 : decode b_Mo_statement 64 = .ok (.iload_n 1, 1) := by decide +kernel
theorem d_Mo_statement_65 : decode b_Mo_statement 65 = .ok (.iload_n 2, 1) := by decide +kernel
theorem d_Mo_statement_66 : decode b_Mo_statement 66 = .ok (.invokevirtual 171, 3) := by decide +kernel
theorem d_Mo_statement_69 : decode b_Mo_statement 69 = .ok (.goto 56, 3) := by decide +kernel
theorem d_Mo_statement_72 : decode b_Mo_statement 72 = .ok (.aload_n 0, 1) := by decide +kernel
theorem d_Mo_statement_73 : decode b_Mo_statement 73 = .ok (.bipush 6, 2) := by decide +kernel
theorem d_Mo_statement_75 : decode b_Mo_statement 75 = .ok (.invokevirtual 141, 3) := by decide +kernel
theorem d_Mo_statement_78 : decode b_Mo_statement 78 = .ok (.ifCond .eq 19, 3) := by decide +kernel
theorem d_Mo_statement_81 : decode b_Mo_statement 81 = .ok (.aload_n 0, 1) := by decide +kernel
theorem d_Mo_statement_82 : decode b_Mo_statement 82 = .ok (.getfield 38, 3) := by decide +kernel
theorem d_Mo_statement_85 : decode b_Mo_statement 85 = .ok (.iload_n 3, 1) := by decide +kernel
theorem d_Mo_statement_86 : decode b_Mo_statement 86 = .ok (.iconst 2, 1) := by decide +kernel
theorem d_Mo_statement_87 : decode b_Mo_statement 87 = .ok (.iastore, 1) := by decide +kernel
theorem d_Mo_statement_88 : decode b_Mo_statement 88 = .ok (.aload_n 0, 1) := by decide +kernel
theorem d_Mo_statement_89 : decode b_Mo_statement 89 = .ok (.iload_n 1, 1) := by decide +kernel
theorem d_Mo_statement_90 : decode b_Mo_statement 90 = .ok (.iload_n 2, 1) := by decide +kernel
theorem d_Mo_statement_91 : decode b_Mo_statement 91 = .ok (.invokevirtual 171, 3) := by decide +kernel
theorem d_Mo_statement_94 : decode b_Mo_statement 94 = .ok (.goto 31, 3) := by decide +kernel
theorem d_Mo_statement_97 : decode b_Mo_statement 97 = .ok (.aload_n 0, 1) := by decide +kernel
theorem d_Mo_statement_98 : decode b_Mo_statement 98 = .ok (.getfield 38, 3) := by decide +kernel
theorem d_Mo_statement_101 : decode b_Mo_statement 101 = .ok (.iload_n 3, 1) := by decide +kernel
theorem d_Mo_statement_102 : decode b_Mo_statement 102 = .ok (.iconst 3, 1) := by decide +kernel
theorem d_Mo_statement_103 : decode b_Mo_statement 103 = .ok (.iastore, 1) := by decide +kernel
theorem d_Mo_statement_104 : decode b_Mo_statement 104 = .ok (.aload_n 0, 1) := by decide +kernel
theorem d_Mo_statement_105 : decode b_Mo_statement 105 = .ok (.iload_n 1, 1) := by decide +kernel
theorem d_Mo_statement_106 : decode b_Mo_statement 106 = .ok (.iload_n 2, 1) := by decide +kernel
theorem d_Mo_statement_107 : decode b_Mo_statement 107 = .ok (.invokevirtual 171, 3) := by decide +kernel
theorem d_Mo_statement_110 : decode b_Mo_statement 110 = .ok (.aload_n 0, 1) := by decide +kernel
theorem d_Mo_statement_111 : decode b_Mo_statement 111 = .ok (.bipush 61, 2) := by decide +kernel
theorem d_Mo_statement_113 : decode b_Mo_statement 113 = .ok (.invokevirtual 141, 3) := by decide +kernel
theorem d_Mo_statement_116 : decode b_Mo_statement 116 = .ok (.ifCond .eq 9, 3) := by decide +kernel
theorem d_Mo_statement_119 : decode b_Mo_statement 119 = .ok (.aload_n 0, 1) := by decide +kernel
theorem d_Mo_statement_120 : decode b_Mo_statement 120 = .ok (.iload_n 1, 1) := by decide +kernel
theorem d_Mo_statement_121 : decode b_Mo_statement 121 = .ok (.iload_n 2, 1) := by decide +kernel
theorem d_Mo_statement_122 : decode b_Mo_statement 122 = .ok (.invokevirtual 171, 3) := by decide +kernel
theorem d_Mo_statement_125 : decode b_Mo_statement 125 = .ok (.aload_n 0, 1) := by decide +kernel
theorem d_Mo_statement_126 : decode b_Mo_statement 126 = .ok (.getfield 32, 3) := by decide +kernel
theorem d_Mo_statement_129 : decode b_Mo_statement 129 = .ok (.iload_n 3, 1) := by decide +kernel
theorem d_Mo_statement_130 : decode b_Mo_statement 130 = .ok (.iload_n 1, 1) := by decide +kernel
theorem d_Mo_statement_131 : decode b_Mo_statement 131 = .ok (.iastore, 1) := by decide +kernel
theorem d_Mo_statement_132 : decode b_Mo_statement 132 = .ok (.aload_n 0, 1) := by decide +kernel
theorem d_Mo_statement_133 : decode b_Mo_statement 133 = .ok (.getfield 35, 3) := by decide +kernel
theorem d_Mo_statement_136 : decode b_Mo_statement 136 = .ok (.iload_n 3, 1) := by decide +kernel
theorem d_Mo_statement_137 : decode b_Mo_statement 137 = .ok (.iload_n 2, 1) := by decide +kernel
theorem d_Mo_statement_138 : decode b_Mo_statement 138 = .ok (.iastore, 1) := by decide +kernel
theorem d_Mo_statement_139 : decode b_Mo_statement 139 = .ok (.aload_n 0, 1) := by decide +kernel
theorem d_Mo_statement_140 : decode b_Mo_statement 140 = .ok (.bipush 59, 2) := by decide +kernel
theorem d_Mo_statement_142 : decode b_Mo_statement 142 = .ok (.invokevirtual 163, 3) := by decide +kernel
theorem d_Mo_statement_145 : decode b_Mo_statement 145 = .ok (.return_, 1) := by decide +kernel
