abbrev y_Mo_overArgument : MethodName := ⟨"LanguageServerModel", "overArgument", "()V"⟩
abbrev b_Mo_overArgument : ByteArray := prog_13_method_50_code
theorem d_Mo_overArgument_0 : decode b_Mo_overArgument 0 = .ok (.aload_n 0, 1) := by decide +kernel
theorem d_Mo_overArgument_1 : decode b_Mo_overArgument 1 = .ok (.invokevirtual 243, 3) := by decide +kernel
theorem d_Mo_overArgument_4 : decode b_Mo_overArgument 4 = .ok (.istore_n 1, 1) := by decide +kernel
theorem d_Mo_overArgument_5 : decode b_Mo_overArgument 5 = .ok (.aload_n 0, 1) := by decide +kernel
theorem d_Mo_overArgument_6 : decode b_Mo_overArgument 6 = .ok (.getfield 78, 3) := by decide +kernel
theorem d_Mo_overArgument_9 : decode b_Mo_overArgument 9 = .ok (.aload_n 0, 1) := by decide +kernel
theorem d_Mo_overArgument_10 : decode b_Mo_overArgument 10 = .ok (.getfield 148, 3) := by decide +kernel
theorem d_Mo_overArgument_13 : decode b_Mo_overArgument 13 = .ok (.iaload, 1) := by decide +kernel
theorem d_Mo_overArgument_14 : decode b_Mo_overArgument 14 = .ok (.ifCond .lt 43, 3) := by decide +kernel
theorem d_Mo_overArgument_17 : decode b_Mo_overArgument 17 = .ok (.aload_n 0, 1) := by decide +kernel
theorem d_Mo_overArgument_18 : decode b_Mo_overArgument 18 = .ok (.iload_n 1, 1) := by decide +kernel
theorem d_Mo_overArgument_19 : decode b_Mo_overArgument 19 = .ok (.aload_n 0, 1) := by decide +kernel
theorem d_Mo_overArgument_20 : decode b_Mo_overArgument 20 = .ok (.aload_n 0, 1) := by decide +kernel
theorem d_Mo_overArgument_21 : decode b_Mo_overArgument 21 = .ok (.aload_n 0, 1) := by decide +kernel
theorem d_Mo_overArgument_22 : decode b_Mo_overArgument 22 = .ok (.getfield 78, 3) := by decide +kernel
theorem d_Mo_overArgument_25 : decode b_Mo_overArgument 25 = .ok (.aload_n 0, 1) := by decide +kernel
theorem d_Mo_overArgument_26 : decode b_Mo_overArgument 26 = .ok (.getfield 148, 3) := by decide +kernel
theorem d_Mo_overArgument_29 : decode b_Mo_overArgument 29 = .ok (.iaload, 1) := by decide +kernel
theorem d_Mo_overArgument_30 : decode b_Mo_overArgument 30 = .ok (.aload_n 0, 1) := by decide +kernel
theorem d_Mo_overArgument_31 : decode b_Mo_overArgument 31 = .ok (.getfield 72, 3) := by decide +kernel
theorem d_Mo_overArgument_34 : decode b_Mo_overArgument 34 = .ok (.aload_n 0, 1) := by decide +kernel
theorem d_Mo_overArgument_35 : decode b_Mo_overArgument 35 = .ok (.getfield 148, 3) := by decide +kernel
theorem d_Mo_overArgument_38 : decode b_Mo_overArgument 38 = .ok (.iaload, 1) := by decide +kernel
theorem d_Mo_overArgument_39 : decode b_Mo_overArgument 39 = .ok (.invokevirtual 217, 3) := by decide +kernel
theorem d_Mo_overArgument_42 : decode b_Mo_overArgument 42 = .ok (.invokevirtual 228, 3) := by decide +kernel
theorem d_Mo_overArgument_45 : decode b_Mo_overArgument 45 = .ok (.aload_n 0, 1) := by decide +kernel
theorem d_Mo_overArgument_46 : decode b_Mo_overArgument 46 = .ok (.getfield 59, 3) := by decide +kernel
theorem d_Mo_overArgument_49 : decode b_Mo_overArgument 49 = .ok (.aload_n 0, 1) := by decide +kernel
theorem d_Mo_overArgument_50 : decode b_Mo_overArgument 50 = .ok (.getfield 148, 3) := by decide +kernel
theorem d_Mo_overArgument_53 : decode b_Mo_overArgument 53 = .ok (.iaload, 1) := by decide +kernel
theorem d_Mo_overArgument_54 : decode b_Mo_overArgument 54 = .ok (.invokevirtual 240, 3) := by decide +kernel
theorem d_Mo_overArgument_57 : decode b_Mo_overArgument 57 = .ok (.aload_n 0, 1) := by decide +kernel
theorem d_Mo_overArgument_58 : decode b_Mo_overArgument 58 = .ok (.getfield 72, 3) := by decide +kernel
theorem d_Mo_overArgument_61 : decode b_Mo_overArgument 61 = .ok (.aload_n 0, 1) := by decide +kernel
theorem d_Mo_overArgument_62 : decode b_Mo_overArgument 62 = .ok (.getfield 148, 3) := by decide +kernel
theorem d_Mo_overArgument_65 : decode b_Mo_overArgument 65 = .ok (.dup2, 1) := by decide +kernel
theorem d_Mo_overArgument_66 : decode b_Mo_overArgument 66 = .ok (.iaload, 1) := by decide +kernel
theorem d_Mo_overArgument_67 : decode b_Mo_overArgument 67 = .ok (.iconst 1, 1) := by decide +kernel
theorem d_Mo_overArgument_68 : decode b_Mo_overArgument 68 = .ok (.iadd, 1) := by decide +kernel
theorem d_Mo_overArgument_69 : decode b_Mo_overArgument 69 = .ok (.iastore, 1) := by decide +kernel
theorem d_Mo_overArgument_70 : decode b_Mo_overArgument 70 = .ok (.return_, 1) := by decide +kernel
abbrev y_Mo_step : MethodName := ⟨"LanguageServerModel", "step", "(II)Z"⟩
abbrev b_Mo_step : ByteArray := prog_13_method_52_code
theorem d_Mo_step_0 : decode b_Mo_step 0 = .ok (.iload_n 1, 1) := by decide +kernel
theorem d_Mo_step_1 : decode b_Mo_step 1 = .ok (.bipush 40, 2) := by decide +kernel
theorem d_Mo_step_3 : decode b_Mo_step 3 = .ok (.if_icmp .ne 33, 3) := by decide +kernel
theorem d_Mo_step_6 : decode b_Mo_step 6 = .ok (.aload_n 0, 1) := by decide +kernel
theorem d_Mo_step_7 : decode b_Mo_step 7 = .ok (.dup, 1) := by decide +kernel
theorem d_Mo_step_8 : decode b_Mo_step 8 = .ok (.getfield 148, 3) := by decide +kernel
theorem d_Mo_step_11 : decode b_Mo_step 11 = .ok (.iconst 1, 1) := by decide +kernel
theorem d_Mo_step_12 : decode b_Mo_step 12 = .ok (.iadd, 1) := by decide +kernel
theorem d_Mo_step_13 : decode b_Mo_step 13 = .ok (.putfield 148, 3) := by decide +kernel
theorem d_Mo_step_16 : decode b_Mo_step 16 = .ok (.aload_n 0, 1) := by decide +kernel
theorem d_Mo_step_17 : decode b_Mo_step 17 = .ok (.getfield 56, 3) := by decide +kernel
theorem d_Mo_step_20 : decode b_Mo_step 20 = .ok (.aload_n 0, 1) := by decide +kernel
theorem d_Mo_step_21 : decode b_Mo_step 21 = .ok (.getfield 148, 3) := by decide +kernel
theorem d_Mo_step_24 : decode b_Mo_step 24 = .ok (.iconst 0, 1) := by decide +kernel
theorem d_Mo_step_25 : decode b_Mo_step 25 = .ok (.iastore, 1) := by decide +kernel
theorem d_Mo_step_26 : decode b_Mo_step 26 = .ok (.aload_n 0, 1) := by decide +kernel
theorem d_Mo_step_27 : decode b_Mo_step 27 = .ok (.iload_n 2, 1) := by decide +kernel
theorem d_Mo_step_28 : decode b_Mo_step 28 = .ok (.iconst 1, 1) := by decide +kernel
theorem d_Mo_step_29 : decode b_Mo_step 29 = .ok (.iadd, 1) := by decide +kernel
theorem d_Mo_step_30 : decode b_Mo_step 30 = .ok (.invokevirtual 237, 3) := by decide +kernel
theorem d_Mo_step_33 : decode b_Mo_step 33 = .ok (.goto 155, 3) := by decide +kernel
theorem d_Mo_step_36 : decode b_Mo_step 36 = .ok (.iload_n 1, 1) := by decide +kernel
theorem d_Mo_step_37 : decode b_Mo_step 37 = .ok (.bipush 43, 2) := by decide +kernel
theorem d_Mo_step_39 : decode b_Mo_step 39 = .ok (.if_icmp .ne 62, 3) := by decide +kernel
theorem d_Mo_step_42 : decode b_Mo_step 42 = .ok (.aload_n 0, 1) := by decide +kernel
theorem d_Mo_step_43 : decode b_Mo_step 43 = .ok (.aload_n 0, 1) := by decide +kernel
theorem d_Mo_step_44 : decode b_Mo_step 44 = .ok (.getfield 65, 3) := by decide +kernel
theorem d_Mo_step_47 : decode b_Mo_step 47 = .ok (.aload_n 0, 1) := by decide +kernel
theorem d_Mo_step_48 : decode b_Mo_step 48 = .ok (.getfield 148, 3) := by decide +kernel
theorem d_Mo_step_51 : decode b_Mo_step 51 = .ok (.iaload, 1) := by decide +kernel
theorem d_Mo_step_52 : decode b_Mo_step 52 = .ok (.iconst (-1), 1) := by decide +kernel
theorem d_Mo_step_53 : decode b_Mo_step 53 = .ok (.aload_n 0, 1) := by decide +kernel
theorem d_Mo_step_54 : decode b_Mo_step 54 = .ok (.getfield 62, 3) := by decide +kernel
theorem d_Mo_step_57 : decode b_Mo_step 57 = .ok (.aload_n 0, 1) := by decide +kernel
theorem d_Mo_step_58 : decode b_Mo_step 58 = .ok (.getfield 148, 3) := by decide +kernel
theorem d_Mo_step_61 : decode b_Mo_step 61 = .ok (.iaload, 1) := by decide +kernel
theorem d_Mo_step_62 : decode b_Mo_step 62 = .ok (.invokevirtual 240, 3) := by decide +kernel
theorem d_Mo_step_65 : decode b_Mo_step 65 = .ok (.aload_n 0, 1) := by decide +kernel
theorem d_Mo_step_66 : decode b_Mo_step 66 = .ok (.getfield 68, 3) := by decide +kernel
theorem d_Mo_step_69 : decode b_Mo_step 69 = .ok (.aload_n 0, 1) := by decide +kernel
theorem d_Mo_step_70 : decode b_Mo_step 70 = .ok (.getfield 148, 3) := by decide +kernel
theorem d_Mo_step_73 : decode b_Mo_step 73 = .ok (.iconst 1, 1) := by decide +kernel
theorem d_Mo_step_74 : decode b_Mo_step 74 = .ok (.bastore, 1) := by decide +kernel
theorem d_Mo_step_75 : decode b_Mo_step 75 = .ok (.aload_n 0, 1) := by decide +kernel
theorem d_Mo_step_76 : decode b_Mo_step 76 = .ok (.getfield 62, 3) := by decide +kernel
theorem d_Mo_step_79 : decode b_Mo_step 79 = .ok (.aload_n 0, 1) := by decide +kernel
theorem d_Mo_step_80 : decode b_Mo_step 80 = .ok (.getfield 148, 3) := by decide +kernel
theorem d_Mo_step_83 : decode b_Mo_step 83 = .ok (.iload_n 2, 1) := by decide +kernel
theorem d_Mo_step_84 : decode b_Mo_step 84 = .ok (.iconst 1, 1) := by decide +kernel
theorem d_Mo_step_85 : decode b_Mo_step 85 = .ok (.iadd, 1) := by decide +kernel
theorem d_Mo_step_86 : decode b_Mo_step 86 = .ok (.iastore, 1) := by decide +kernel
theorem d_Mo_step_87 : decode b_Mo_step 87 = .ok (.aload_n 0, 1) := by decide +kernel
theorem d_Mo_step_88 : decode b_Mo_step 88 = .ok (.getfield 65, 3) := by decide +kernel
theorem d_Mo_step_91 : decode b_Mo_step 91 = .ok (.aload_n 0, 1) := by decide +kernel
theorem d_Mo_step_92 : decode b_Mo_step 92 = .ok (.getfield 148, 3) := by decide +kernel
theorem d_Mo_step_95 : decode b_Mo_step 95 = .ok (.bipush (-2), 2) := by decide +kernel
theorem d_Mo_step_97 : decode b_Mo_step 97 = .ok (.iastore, 1) := by decide +kernel
theorem d_Mo_step_98 : decode b_Mo_step 98 = .ok (.goto 90, 3) := by decide +kernel
theorem d_Mo_step_101 : decode b_Mo_step 101 = .ok (.iload_n 1, 1) := by decide +kernel
theorem d_Mo_step_102 : decode b_Mo_step 102 = .ok (.bipush 44, 2) := by decide +kernel
theorem d_Mo_step_104 : decode b_Mo_step 104 = .ok (.if_icmp .ne 17, 3) := by decide +kernel
theorem d_Mo_step_107 : decode b_Mo_step 107 = .ok (.aload_n 0, 1) := by decide +kernel
theorem d_Mo_step_108 : decode b_Mo_step 108 = .ok (.invokevirtual 256, 3) := by decide +kernel
theorem d_Mo_step_111 : decode b_Mo_step 111 = .ok (.aload_n 0, 1) := by decide +kernel
theorem d_Mo_step_112 : decode b_Mo_step 112 = .ok (.iload_n 2, 1) := by decide +kernel
theorem d_Mo_step_113 : decode b_Mo_step 113 = .ok (.iconst 1, 1) := by decide +kernel
theorem d_Mo_step_114 : decode b_Mo_step 114 = .ok (.iadd, 1) := by decide +kernel
theorem d_Mo_step_115 : decode b_Mo_step 115 = .ok (.invokevirtual 237, 3) := by decide +kernel
theorem d_Mo_step_118 : decode b_Mo_step 118 = .ok (.goto 70, 3) := by decide +kernel
theorem d_Mo_step_121 : decode b_Mo_step 121 = .ok (.iload_n 1, 1) := by decide +kernel
theorem d_Mo_step_122 : decode b_Mo_step 122 = .ok (.bipush 41, 2) := by decide +kernel
theorem d_Mo_step_124 : decode b_Mo_step 124 = .ok (.if_icmp .ne 33, 3) := by decide +kernel
theorem d_Mo_step_127 : decode b_Mo_step 127 = .ok (.aload_n 0, 1) := by decide +kernel
theorem d_Mo_step_128 : decode b_Mo_step 128 = .ok (.getfield 56, 3) := by decide +kernel
theorem d_Mo_step_131 : decode b_Mo_step 131 = .ok (.aload_n 0, 1) := by decide +kernel
theorem d_Mo_step_132 : decode b_Mo_step 132 = .ok (.getfield 148, 3) := by decide +kernel
theorem d_Mo_step_135 : decode b_Mo_step 135 = .ok (.iaload, 1) := by decide +kernel
theorem d_Mo_step_136 : decode b_Mo_step 136 = .ok (.iconst 1, 1) := by decide +kernel
theorem d_Mo_step_137 : decode b_Mo_step 137 = .ok (.if_icmp .ne 20, 3) := by decide +kernel
theorem d_Mo_step_140 : decode b_Mo_step 140 = .ok (.aload_n 0, 1) := by decide +kernel
theorem d_Mo_step_141 : decode b_Mo_step 141 = .ok (.invokevirtual 256, 3) := by decide +kernel
theorem d_Mo_step_144 : decode b_Mo_step 144 = .ok (.aload_n 0, 1) := by decide +kernel
theorem d_Mo_step_145 : decode b_Mo_step 145 = .ok (.dup, 1) := by decide +kernel
theorem d_Mo_step_146 : decode b_Mo_step 146 = .ok (.getfield 148, 3) := by decide +kernel
theorem d_Mo_step_149 : decode b_Mo_step 149 = .ok (.iconst 1, 1) := by decide +kernel
theorem d_Mo_step_150 : decode b_Mo_step 150 = .ok (.isub, 1) := by decide +kernel
theorem d_Mo_step_151 : decode b_Mo_step 151 = .ok (.putfield 148, 3) := by decide +kernel
theorem d_Mo_step_154 : decode b_Mo_step 154 = .ok (.goto 34, 3) := by decide +kernel
theorem d_Mo_step_157 : decode b_Mo_step 157 = .ok (.iload_n 1, 1) := by decide +kernel
theorem d_Mo_step_158 : decode b_Mo_step 158 = .ok (.bipush 41, 2) := by decide +kernel
theorem d_Mo_step_160 : decode b_Mo_step 160 = .ok (.if_icmp .ne 28, 3) := by decide +kernel
theorem d_Mo_step_163 : decode b_Mo_step 163 = .ok (.aload_n 0, 1) := by decide +kernel
theorem d_Mo_step_164 : decode b_Mo_step 164 = .ok (.invokevirtual 243, 3) := by decide +kernel
theorem d_Mo_step_167 : decode b_Mo_step 167 = .ok (.istore_n 3, 1) := by decide +kernel
theorem d_Mo_step_168 : decode b_Mo_step 168 = .ok (.aload_n 0, 1) := by decide +kernel
theorem d_Mo_step_169 : decode b_Mo_step 169 = .ok (.dup, 1) := by decide +kernel
theorem d_Mo_step_170 : decode b_Mo_step 170 = .ok (.getfield 148, 3) := by decide +kernel
theorem d_Mo_step_173 : decode b_Mo_step 173 = .ok (.iconst 1, 1) := by decide +kernel
theorem d_Mo_step_174 : decode b_Mo_step 174 = .ok (.isub, 1) := by decide +kernel
theorem d_Mo_step_175 : decode b_Mo_step 175 = .ok (.putfield 148, 3) := by decide +kernel
theorem d_Mo_step_178 : decode b_Mo_step 178 = .ok (.aload_n 0, 1) := by decide +kernel
theorem d_Mo_step_179 : decode b_Mo_step 179 = .ok (.getfield 65, 3) := by decide +kernel
theorem d_Mo_step_182 : decode b_Mo_step 182 = .ok (.aload_n 0, 1) := by decide +kernel
theorem d_Mo_step_183 : decode b_Mo_step 183 = .ok (.getfield 148, 3) := by decide +kernel
theorem d_Mo_step_186 : decode b_Mo_step 186 = .ok (.iload_n 3, 1) := by decide +kernel
theorem d_Mo_step_187 : decode b_Mo_step 187 = .ok (.iastore, 1) := by decide +kernel
theorem d_Mo_step_188 : decode b_Mo_step 188 = .ok (.iload_n 1, 1) := by decide +kernel
theorem d_Mo_step_189 : decode b_Mo_step 189 = .ok (.bipush 59, 2) := by decide +kernel
theorem d_Mo_step_191 : decode b_Mo_step 191 = .ok (.if_icmp .eq 13, 3) := by decide +kernel
theorem d_Mo_step_194 : decode b_Mo_step 194 = .ok (.iload_n 1, 1) := by decide +kernel
theorem d_Mo_step_195 : decode b_Mo_step 195 = .ok (.bipush 61, 2) := by decide +kernel
theorem d_Mo_step_197 : decode b_Mo_step 197 = .ok (.if_icmp .eq 7, 3) := by decide +kernel
theorem d_Mo_step_200 : decode b_Mo_step 200 = .ok (.iconst 1, 1) := by decide +kernel
theorem d_Mo_step_201 : decode b_Mo_step 201 = .ok (.goto 4, 3) := by decide +kernel
theorem d_Mo_step_204 : decode b_Mo_step 204 = .ok (.iconst 0, 1) := by decide +kernel
theorem d_Mo_step_205 : decode b_Mo_step 205 = .ok (.ireturn, 1) := by decide +kernel
abbrev y_Mo_evaluate : MethodName := ⟨"LanguageServerModel", "evaluate", "(II)I"⟩
abbrev b_Mo_evaluate : ByteArray := prog_13_method_51_code
theorem d_Mo_evaluate_0 : decode b_Mo_evaluate 0 = .ok (.aload_n 0, 1) := by decide +kernel
theorem d_Mo_evaluate_1 : decode b_Mo_evaluate 1 = .ok (.iconst 0, 1) := by decide +kernel
theorem d_Mo_evaluate_2 : decode b_Mo_evaluate 2 = .ok (.putfield 148, 3) := by decide +kernel
theorem d_Mo_evaluate_5 : decode b_Mo_evaluate 5 = .ok (.aload_n 0, 1) := by decide +kernel
theorem d_Mo_evaluate_6 : decode b_Mo_evaluate 6 = .ok (.iload_n 1, 1) := by decide +kernel
theorem d_Mo_evaluate_7 : decode b_Mo_evaluate 7 = .ok (.invokevirtual 237, 3) := by decide +kernel
theorem d_Mo_evaluate_10 : decode b_Mo_evaluate 10 = .ok (.iload_n 1, 1) := by decide +kernel
theorem d_Mo_evaluate_11 : decode b_Mo_evaluate 11 = .ok (.istore_n 3, 1) := by decide +kernel
theorem d_Mo_evaluate_12 : decode b_Mo_evaluate 12 = .ok (.iconst 1, 1) := by decide +kernel
theorem d_Mo_evaluate_13 : decode b_Mo_evaluate 13 = .ok (.istore 4, 2) := by decide +kernel
theorem d_Mo_evaluate_15 : decode b_Mo_evaluate 15 = .ok (.iload 4, 2) := by decide +kernel
theorem d_Mo_evaluate_17 : decode b_Mo_evaluate 17 = .ok (.ifCond .eq 183, 3) := by decide +kernel
theorem d_Mo_evaluate_20 : decode b_Mo_evaluate 20 = .ok (.aload_n 0, 1) := by decide +kernel
theorem d_Mo_evaluate_21 : decode b_Mo_evaluate 21 = .ok (.getfield 16, 3) := by decide +kernel
theorem d_Mo_evaluate_24 : decode b_Mo_evaluate 24 = .ok (.iload_n 3, 1) := by decide +kernel
theorem d_Mo_evaluate_25 : decode b_Mo_evaluate 25 = .ok (.iaload, 1) := by decide +kernel
theorem d_Mo_evaluate_26 : decode b_Mo_evaluate 26 = .ok (.istore 5, 2) := by decide +kernel
theorem d_Mo_evaluate_28 : decode b_Mo_evaluate 28 = .ok (.iload 5, 2) := by decide +kernel
theorem d_Mo_evaluate_30 : decode b_Mo_evaluate 30 = .ok (.iconst 2, 1) := by decide +kernel
theorem d_Mo_evaluate_31 : decode b_Mo_evaluate 31 = .ok (.if_icmp .ne 13, 3) := by decide +kernel
theorem d_Mo_evaluate_34 : decode b_Mo_evaluate 34 = .ok (.aload_n 0, 1) := by decide +kernel
theorem d_Mo_evaluate_35 : decode b_Mo_evaluate 35 = .ok (.getfield 65, 3) := by decide +kernel
theorem d_Mo_evaluate_38 : decode b_Mo_evaluate 38 = .ok (.aload_n 0, 1) := by decide +kernel
theorem d_Mo_evaluate_39 : decode b_Mo_evaluate 39 = .ok (.getfield 148, 3) := by decide +kernel
theorem d_Mo_evaluate_42 : decode b_Mo_evaluate 42 = .ok (.iconst (-1), 1) := by decide +kernel
theorem d_Mo_evaluate_43 : decode b_Mo_evaluate 43 = .ok (.iastore, 1) := by decide +kernel
theorem d_Mo_evaluate_44 : decode b_Mo_evaluate 44 = .ok (.iload 5, 2) := by decide +kernel
theorem d_Mo_evaluate_46 : decode b_Mo_evaluate 46 = .ok (.bipush 8, 2) := by decide +kernel
theorem d_Mo_evaluate_48 : decode b_Mo_evaluate 48 = .ok (.if_icmp .ne 18, 3) := by decide +kernel
theorem d_Mo_evaluate_51 : decode b_Mo_evaluate 51 = .ok (.aload_n 0, 1) := by decide +kernel
theorem d_Mo_evaluate_52 : decode b_Mo_evaluate 52 = .ok (.getfield 65, 3) := by decide +kernel
theorem d_Mo_evaluate_55 : decode b_Mo_evaluate 55 = .ok (.aload_n 0, 1) := by decide +kernel
theorem d_Mo_evaluate_56 : decode b_Mo_evaluate 56 = .ok (.getfield 148, 3) := by decide +kernel
theorem d_Mo_evaluate_59 : decode b_Mo_evaluate 59 = .ok (.aload_n 0, 1) := by decide +kernel
theorem d_Mo_evaluate_60 : decode b_Mo_evaluate 60 = .ok (.getfield 32, 3) := by decide +kernel
theorem d_Mo_evaluate_63 : decode b_Mo_evaluate 63 = .ok (.iload_n 2, 1) := by decide +kernel
theorem d_Mo_evaluate_64 : decode b_Mo_evaluate 64 = .ok (.iaload, 1) := by decide +kernel
theorem d_Mo_evaluate_65 : decode b_Mo_evaluate 65 = .ok (.iastore, 1) := by decide +kernel
theorem d_Mo_evaluate_66 : decode b_Mo_evaluate 66 = .ok (.iload 5, 2) := by decide +kernel
theorem d_Mo_evaluate_68 : decode b_Mo_evaluate 68 = .ok (.iconst 1, 1) := by decide +kernel
theorem d_Mo_evaluate_69 : decode b_Mo_evaluate 69 = .ok (.if_icmp .ne 27, 3) := by decide +kernel
theorem d_Mo_evaluate_72 : decode b_Mo_evaluate 72 = .ok (.aload_n 0, 1) := by decide +kernel
theorem d_Mo_evaluate_73 : decode b_Mo_evaluate 73 = .ok (.getfield 29, 3) := by decide +kernel
theorem d_Mo_evaluate_76 : decode b_Mo_evaluate 76 = .ok (.iload_n 3, 1) := by decide +kernel
theorem d_Mo_evaluate_77 : decode b_Mo_evaluate 77 = .ok (.iaload, 1) := by decide +kernel
theorem d_Mo_evaluate_78 : decode b_Mo_evaluate 78 = .ok (.iconst 4, 1) := by decide +kernel
theorem d_Mo_evaluate_79 : decode b_Mo_evaluate 79 = .ok (.if_icmp .ne 17, 3) := by decide +kernel
theorem d_Mo_evaluate_82 : decode b_Mo_evaluate 82 = .ok (.aload_n 0, 1) := by decide +kernel
theorem d_Mo_evaluate_83 : decode b_Mo_evaluate 83 = .ok (.getfield 65, 3) := by decide +kernel
theorem d_Mo_evaluate_86 : decode b_Mo_evaluate 86 = .ok (.aload_n 0, 1) := by decide +kernel
theorem d_Mo_evaluate_87 : decode b_Mo_evaluate 87 = .ok (.getfield 148, 3) := by decide +kernel
theorem d_Mo_evaluate_90 : decode b_Mo_evaluate 90 = .ok (.aload_n 0, 1) := by decide +kernel
theorem d_Mo_evaluate_91 : decode b_Mo_evaluate 91 = .ok (.iload_n 3, 1) := by decide +kernel
theorem d_Mo_evaluate_92 : decode b_Mo_evaluate 92 = .ok (.invokevirtual 186, 3) := by decide +kernel
theorem d_Mo_evaluate_95 : decode b_Mo_evaluate 95 = .ok (.iastore, 1) := by decide +kernel
theorem d_Mo_evaluate_96 : decode b_Mo_evaluate 96 = .ok (.iload 5, 2) := by decide +kernel
theorem d_Mo_evaluate_98 : decode b_Mo_evaluate 98 = .ok (.iconst 1, 1) := by decide +kernel
theorem d_Mo_evaluate_99 : decode b_Mo_evaluate 99 = .ok (.if_icmp .ne 29, 3) := by decide +kernel
theorem d_Mo_evaluate_102 : decode b_Mo_evaluate 102 = .ok (.aload_n 0, 1) := by decide +kernel
theorem d_Mo_evaluate_103 : decode b_Mo_evaluate 103 = .ok (.getfield 29, 3) := by decide +kernel
theorem d_Mo_evaluate_106 : decode b_Mo_evaluate 106 = .ok (.iload_n 3, 1) := by decide +kernel
theorem d_Mo_evaluate_107 : decode b_Mo_evaluate 107 = .ok (.iaload, 1) := by decide +kernel
theorem d_Mo_evaluate_108 : decode b_Mo_evaluate 108 = .ok (.bipush 10, 2) := by decide +kernel
theorem d_Mo_evaluate_110 : decode b_Mo_evaluate 110 = .ok (.if_icmp .eq 14, 3) := by decide +kernel
theorem d_Mo_evaluate_113 : decode b_Mo_evaluate 113 = .ok (.aload_n 0, 1) := by decide +kernel
theorem d_Mo_evaluate_114 : decode b_Mo_evaluate 114 = .ok (.getfield 29, 3) := by decide +kernel
theorem d_Mo_evaluate_117 : decode b_Mo_evaluate 117 = .ok (.iload_n 3, 1) := by decide +kernel
theorem d_Mo_evaluate_118 : decode b_Mo_evaluate 118 = .ok (.iaload, 1) := by decide +kernel
theorem d_Mo_evaluate_119 : decode b_Mo_evaluate 119 = .ok (.bipush 12, 2) := by decide +kernel
theorem d_Mo_evaluate_121 : decode b_Mo_evaluate 121 = .ok (.if_icmp .ne 7, 3) := by decide +kernel
theorem d_Mo_evaluate_124 : decode b_Mo_evaluate 124 = .ok (.iconst 1, 1) := by decide +kernel
theorem d_Mo_evaluate_125 : decode b_Mo_evaluate 125 = .ok (.goto 4, 3) := by decide +kernel
theorem d_Mo_evaluate_128 : decode b_Mo_evaluate 128 = .ok (.iconst 0, 1) := by decide +kernel
theorem d_Mo_evaluate_129 : decode b_Mo_evaluate 129 = .ok (.istore 6, 2) := by decide +kernel
theorem d_Mo_evaluate_131 : decode b_Mo_evaluate 131 = .ok (.iload 5, 2) := by decide +kernel
theorem d_Mo_evaluate_133 : decode b_Mo_evaluate 133 = .ok (.iconst 1, 1) := by decide +kernel
theorem d_Mo_evaluate_134 : decode b_Mo_evaluate 134 = .ok (.if_icmp .ne 20, 3) := by decide +kernel
theorem d_Mo_evaluate_137 : decode b_Mo_evaluate 137 = .ok (.aload_n 0, 1) := by decide +kernel
theorem d_Mo_evaluate_138 : decode b_Mo_evaluate 138 = .ok (.getfield 29, 3) := by decide +kernel
theorem d_Mo_evaluate_141 : decode b_Mo_evaluate 141 = .ok (.iload_n 3, 1) := by decide +kernel
theorem d_Mo_evaluate_142 : decode b_Mo_evaluate 142 = .ok (.iaload, 1) := by decide +kernel
theorem d_Mo_evaluate_143 : decode b_Mo_evaluate 143 = .ok (.bipush 8, 2) := by decide +kernel
theorem d_Mo_evaluate_145 : decode b_Mo_evaluate 145 = .ok (.if_icmp .le 9, 3) := by decide +kernel
theorem d_Mo_evaluate_148 : decode b_Mo_evaluate 148 = .ok (.aload_n 0, 1) := by decide +kernel
theorem d_Mo_evaluate_149 : decode b_Mo_evaluate 149 = .ok (.iload_n 3, 1) := by decide +kernel
theorem d_Mo_evaluate_150 : decode b_Mo_evaluate 150 = .ok (.iload_n 2, 1) := by decide +kernel
theorem d_Mo_evaluate_151 : decode b_Mo_evaluate 151 = .ok (.invokevirtual 247, 3) := by decide +kernel
theorem d_Mo_evaluate_154 : decode b_Mo_evaluate 154 = .ok (.iload 6, 2) := by decide +kernel
theorem d_Mo_evaluate_156 : decode b_Mo_evaluate 156 = .ok (.ifCond .eq 24, 3) := by decide +kernel
theorem d_Mo_evaluate_159 : decode b_Mo_evaluate 159 = .ok (.iload_n 3, 1) := by decide +kernel
theorem d_Mo_evaluate_160 : decode b_Mo_evaluate 160 = .ok (.aload_n 0, 1) := by decide +kernel
theorem d_Mo_evaluate_161 : decode b_Mo_evaluate 161 = .ok (.iload_n 3, 1) := by decide +kernel
theorem d_Mo_evaluate_162 : decode b_Mo_evaluate 162 = .ok (.iconst 1, 1) := by decide +kernel
theorem d_Mo_evaluate_163 : decode b_Mo_evaluate 163 = .ok (.iadd, 1) := by decide +kernel
theorem d_Mo_evaluate_164 : decode b_Mo_evaluate 164 = .ok (.invokevirtual 231, 3) := by decide +kernel
theorem d_Mo_evaluate_167 : decode b_Mo_evaluate 167 = .ok (.ifCond .ne 7, 3) := by decide +kernel
theorem d_Mo_evaluate_170 : decode b_Mo_evaluate 170 = .ok (.iconst 3, 1) := by decide +kernel
theorem d_Mo_evaluate_171 : decode b_Mo_evaluate 171 = .ok (.goto 4, 3) := by decide +kernel
theorem d_Mo_evaluate_174 : decode b_Mo_evaluate 174 = .ok (.iconst 2, 1) := by decide +kernel
theorem d_Mo_evaluate_175 : decode b_Mo_evaluate 175 = .ok (.iadd, 1) := by decide +kernel
theorem d_Mo_evaluate_176 : decode b_Mo_evaluate 176 = .ok (.istore_n 3, 1) := by decide +kernel
theorem d_Mo_evaluate_177 : decode b_Mo_evaluate 177 = .ok (.goto (-162), 3) := by decide +kernel
theorem d_Mo_evaluate_180 : decode b_Mo_evaluate 180 = .ok (.aload_n 0, 1) := by decide +kernel
theorem d_Mo_evaluate_181 : decode b_Mo_evaluate 181 = .ok (.iload 5, 2) := by decide +kernel
theorem d_Mo_evaluate_183 : decode b_Mo_evaluate 183 = .ok (.iload_n 3, 1) := by decide +kernel
theorem d_Mo_evaluate_184 : decode b_Mo_evaluate 184 = .ok (.invokevirtual 250, 3) := by decide +kernel
theorem d_Mo_evaluate_187 : decode b_Mo_evaluate 187 = .ok (.istore 4, 2) := by decide +kernel
theorem d_Mo_evaluate_189 : decode b_Mo_evaluate 189 = .ok (.iload 4, 2) := by decide +kernel
theorem d_Mo_evaluate_191 : decode b_Mo_evaluate 191 = .ok (.ifCond .eq 6, 3) := by decide +kernel
theorem d_Mo_evaluate_194 : decode b_Mo_evaluate 194 = .ok (.iinc 3 1, 3) := by decide +kernel
theorem d_Mo_evaluate_197 : decode b_Mo_evaluate 197 = .ok (.goto (-182), 3) := by decide +kernel
theorem d_Mo_evaluate_200 : decode b_Mo_evaluate 200 = .ok (.aload_n 0, 1) := by decide +kernel
theorem d_Mo_evaluate_201 : decode b_Mo_evaluate 201 = .ok (.iload_n 3, 1) := by decide +kernel
theorem d_Mo_evaluate_202 : decode b_Mo_evaluate 202 = .ok (.putfield 253, 3) := by decide +kernel
theorem d_Mo_evaluate_205 : decode b_Mo_evaluate 205 = .ok (.aload_n 0, 1) := by decide +kernel
theorem d_Mo_evaluate_206 : decode b_Mo_evaluate 206 = .ok (.invokevirtual 243, 3) := by decide +kernel
theorem d_Mo_evaluate_209 : decode b_Mo_evaluate 209 = .ok (.ireturn, 1) := by decide +kernel
abbrev y_Mo_judgeStatement : MethodName := ⟨"LanguageServerModel", "judgeStatement", "(I)V"⟩
abbrev b_Mo_judgeStatement : ByteArray := prog_13_method_53_code
theorem d_Mo_judgeStatement_0 : decode b_Mo_judgeStatement 0 = .ok (.aload_n 0, 1) := by decide +kernel
theorem d_Mo_judgeStatement_1 : decode b_Mo_judgeStatement 1 = .ok (.getfield 38, 3) := by decide +kernel
theorem d_Mo_judgeStatement_4 : decode b_Mo_judgeStatement 4 = .ok (.iload_n 1, 1) := by decide +kernel
theorem d_Mo_judgeStatement_5 : decode b_Mo_judgeStatement 5 = .ok (.iaload, 1) := by decide +kernel
theorem d_Mo_judgeStatement_6 : decode b_Mo_judgeStatement 6 = .ok (.iconst 1, 1) := by decide +kernel
theorem d_Mo_judgeStatement_7 : decode b_Mo_judgeStatement 7 = .ok (.if_icmp .ne 28, 3) := by decide +kernel
theorem d_Mo_judgeStatement_10 : decode b_Mo_judgeStatement 10 = .ok (.aload_n 0, 1) := by decide +kernel
theorem d_Mo_judgeStatement_11 : decode b_Mo_judgeStatement 11 = .ok (.aload_n 0, 1) := by decide +kernel
theorem d_Mo_judgeStatement_12 : decode b_Mo_judgeStatement 12 = .ok (.iload_n 1, 1) := by decide +kernel
theorem d_Mo_judgeStatement_13 : decode b_Mo_judgeStatement 13 = .ok (.iconst 3, 1) := by decide +kernel
theorem d_Mo_judgeStatement_14 : decode b_Mo_judgeStatement 14 = .ok (.iadd, 1) := by decide +kernel
theorem d_Mo_judgeStatement_15 : decode b_Mo_judgeStatement 15 = .ok (.iload_n 1, 1) := by decide +kernel
theorem d_Mo_judgeStatement_16 : decode b_Mo_judgeStatement 16 = .ok (.invokevirtual 259, 3) := by decide +kernel
theorem d_Mo_judgeStatement_19 : decode b_Mo_judgeStatement 19 = .ok (.aload_n 0, 1) := by decide +kernel
theorem d_Mo_judgeStatement_20 : decode b_Mo_judgeStatement 20 = .ok (.iload_n 1, 1) := by decide +kernel
theorem d_Mo_judgeStatement_21 : decode b_Mo_judgeStatement 21 = .ok (.iconst 1, 1) := by decide +kernel
theorem d_Mo_judgeStatement_22 : decode b_Mo_judgeStatement 22 = .ok (.iadd, 1) := by decide +kernel
theorem d_Mo_judgeStatement_23 : decode b_Mo_judgeStatement 23 = .ok (.invokevirtual 228, 3) := by decide +kernel
theorem d_Mo_judgeStatement_26 : decode b_Mo_judgeStatement 26 = .ok (.iload_n 1, 1) := by decide +kernel
theorem d_Mo_judgeStatement_27 : decode b_Mo_judgeStatement 27 = .ok (.iconst 3, 1) := by decide +kernel
theorem d_Mo_judgeStatement_28 : decode b_Mo_judgeStatement 28 = .ok (.iadd, 1) := by decide +kernel
theorem d_Mo_judgeStatement_29 : decode b_Mo_judgeStatement 29 = .ok (.invokevirtual 240, 3) := by decide +kernel
theorem d_Mo_judgeStatement_32 : decode b_Mo_judgeStatement 32 = .ok (.goto 152, 3) := by decide +kernel
theorem d_Mo_judgeStatement_35 : decode b_Mo_judgeStatement 35 = .ok (.aload_n 0, 1) := by decide +kernel
theorem d_Mo_judgeStatement_36 : decode b_Mo_judgeStatement 36 = .ok (.getfield 38, 3) := by decide +kernel
theorem d_Mo_judgeStatement_39 : decode b_Mo_judgeStatement 39 = .ok (.iload_n 1, 1) := by decide +kernel
theorem d_Mo_judgeStatement_40 : decode b_Mo_judgeStatement 40 = .ok (.iaload, 1) := by decide +kernel
theorem d_Mo_judgeStatement_41 : decode b_Mo_judgeStatement 41 = .ok (.iconst 2, 1) := by decide +kernel
theorem d_Mo_judgeStatement_42 : decode b_Mo_judgeStatement 42 = .ok (.if_icmp .ne 31, 3) := by decide +kernel
theorem d_Mo_judgeStatement_45 : decode b_Mo_judgeStatement 45 = .ok (.aload_n 0, 1) := by decide +kernel
theorem d_Mo_judgeStatement_46 : decode b_Mo_judgeStatement 46 = .ok (.aload_n 0, 1) := by decide +kernel
theorem d_Mo_judgeStatement_47 : decode b_Mo_judgeStatement 47 = .ok (.iload_n 1, 1) := by decide +kernel
theorem d_Mo_judgeStatement_48 : decode b_Mo_judgeStatement 48 = .ok (.iconst 1, 1) := by decide +kernel
theorem d_Mo_judgeStatement_49 : decode b_Mo_judgeStatement 49 = .ok (.iadd, 1) := by decide +kernel
theorem d_Mo_judgeStatement_50 : decode b_Mo_judgeStatement 50 = .ok (.iload_n 1, 1) := by decide +kernel
theorem d_Mo_judgeStatement_51 : decode b_Mo_judgeStatement 51 = .ok (.invokevirtual 259, 3) := by decide +kernel
theorem d_Mo_judgeStatement_54 : decode b_Mo_judgeStatement 54 = .ok (.aload_n 0, 1) := by decide +kernel
theorem d_Mo_judgeStatement_55 : decode b_Mo_judgeStatement 55 = .ok (.aload_n 0, 1) := by decide +kernel
theorem d_Mo_judgeStatement_56 : decode b_Mo_judgeStatement 56 = .ok (.getfield 35, 3) := by decide +kernel
theorem d_Mo_judgeStatement_59 : decode b_Mo_judgeStatement 59 = .ok (.iload_n 1, 1) := by decide +kernel
theorem d_Mo_judgeStatement_60 : decode b_Mo_judgeStatement 60 = .ok (.iaload, 1) := by decide +kernel
theorem d_Mo_judgeStatement_61 : decode b_Mo_judgeStatement 61 = .ok (.invokevirtual 228, 3) := by decide +kernel
theorem d_Mo_judgeStatement_64 : decode b_Mo_judgeStatement 64 = .ok (.iload_n 1, 1) := by decide +kernel
theorem d_Mo_judgeStatement_65 : decode b_Mo_judgeStatement 65 = .ok (.iconst 1, 1) := by decide +kernel
theorem d_Mo_judgeStatement_66 : decode b_Mo_judgeStatement 66 = .ok (.iadd, 1) := by decide +kernel
theorem d_Mo_judgeStatement_67 : decode b_Mo_judgeStatement 67 = .ok (.invokevirtual 240, 3) := by decide +kernel
theorem d_Mo_judgeStatement_70 : decode b_Mo_judgeStatement 70 = .ok (.goto 114, 3) := by decide +kernel
theorem d_Mo_judgeStatement_73 : decode b_Mo_judgeStatement 73 = .ok (.aload_n 0, 1) := by decide +kernel
theorem d_Mo_judgeStatement_74 : decode b_Mo_judgeStatement 74 = .ok (.iload_n 1, 1) := by decide +kernel
theorem d_Mo_judgeStatement_75 : decode b_Mo_judgeStatement 75 = .ok (.iload_n 1, 1) := by decide +kernel
theorem d_Mo_judgeStatement_76 : decode b_Mo_judgeStatement 76 = .ok (.invokevirtual 259, 3) := by decide +kernel
theorem d_Mo_judgeStatement_79 : decode b_Mo_judgeStatement 79 = .ok (.istore_n 2, 1) := by decide +kernel
theorem d_Mo_judgeStatement_80 : decode b_Mo_judgeStatement 80 = .ok (.aload_n 0, 1) := by decide +kernel
theorem d_Mo_judgeStatement_81 : decode b_Mo_judgeStatement 81 = .ok (.getfield 16, 3) := by decide +kernel
theorem d_Mo_judgeStatement_84 : decode b_Mo_judgeStatement 84 = .ok (.aload_n 0, 1) := by decide +kernel
theorem d_Mo_judgeStatement_85 : decode b_Mo_judgeStatement 85 = .ok (.getfield 253, 3) := by decide +kernel
theorem d_Mo_judgeStatement_88 : decode b_Mo_judgeStatement 88 = .ok (.iaload, 1) := by decide +kernel
theorem d_Mo_judgeStatement_89 : decode b_Mo_judgeStatement 89 = .ok (.bipush 61, 2) := by decide +kernel
theorem d_Mo_judgeStatement_91 : decode b_Mo_judgeStatement 91 = .ok (.if_icmp .eq 4, 3) := by decide +kernel
theorem d_Mo_judgeStatement_94 : decode b_Mo_judgeStatement 94 = .ok (.return_, 1) := by decide +kernel
theorem d_Mo_judgeStatement_95 : decode b_Mo_judgeStatement 95 = .ok (.aload_n 0, 1) := by decide +kernel
theorem d_Mo_judgeStatement_96 : decode b_Mo_judgeStatement 96 = .ok (.getfield 68, 3) := by decide +kernel
theorem d_Mo_judgeStatement_99 : decode b_Mo_judgeStatement 99 = .ok (.iconst 0, 1) := by decide +kernel
theorem d_Mo_judgeStatement_100 : decode b_Mo_judgeStatement 100 = .ok (.baload, 1) := by decide +kernel
theorem d_Mo_judgeStatement_101 : decode b_Mo_judgeStatement 101 = .ok (.ifCond .ne 48, 3) := by decide +kernel
theorem d_Mo_judgeStatement_104 : decode b_Mo_judgeStatement 104 = .ok (.aload_n 0, 1) := by decide +kernel
theorem d_Mo_judgeStatement_105 : decode b_Mo_judgeStatement 105 = .ok (.getfield 16, 3) := by decide +kernel
theorem d_Mo_judgeStatement_108 : decode b_Mo_judgeStatement 108 = .ok (.aload_n 0, 1) := by decide +kernel
theorem d_Mo_judgeStatement_109 : decode b_Mo_judgeStatement 109 = .ok (.getfield 253, 3) := by decide +kernel
theorem d_Mo_judgeStatement_112 : decode b_Mo_judgeStatement 112 = .ok (.iconst 1, 1) := by decide +kernel
theorem d_Mo_judgeStatement_113 : decode b_Mo_judgeStatement 113 = .ok (.isub, 1) := by decide +kernel
theorem d_Mo_judgeStatement_114 : decode b_Mo_judgeStatement 114 = .ok (.iaload, 1) := by decide +kernel
theorem d_Mo_judgeStatement_115 : decode b_Mo_judgeStatement 115 = .ok (.iconst 1, 1) := by decide +kernel
theorem d_Mo_judgeStatement_116 : decode b_Mo_judgeStatement 116 = .ok (.if_icmp .ne 33, 3) := by decide +kernel
theorem d_Mo_judgeStatement_119 : decode b_Mo_judgeStatement 119 = .ok (.aload_n 0, 1) := by decide +kernel
theorem d_Mo_judgeStatement_120 : decode b_Mo_judgeStatement 120 = .ok (.getfield 253, 3) := by decide +kernel
theorem d_Mo_judgeStatement_123 : decode b_Mo_judgeStatement 123 = .ok (.iconst 1, 1) := by decide +kernel
theorem d_Mo_judgeStatement_124 : decode b_Mo_judgeStatement 124 = .ok (.isub, 1) := by decide +kernel
theorem d_Mo_judgeStatement_125 : decode b_Mo_judgeStatement 125 = .ok (.iload_n 1, 1) := by decide +kernel
theorem d_Mo_judgeStatement_126 : decode b_Mo_judgeStatement 126 = .ok (.if_icmp .eq 19, 3) := by decide +kernel
theorem d_Mo_judgeStatement_129 : decode b_Mo_judgeStatement 129 = .ok (.aload_n 0, 1) := by decide +kernel
theorem d_Mo_judgeStatement_130 : decode b_Mo_judgeStatement 130 = .ok (.getfield 16, 3) := by decide +kernel
theorem d_Mo_judgeStatement_133 : decode b_Mo_judgeStatement 133 = .ok (.aload_n 0, 1) := by decide +kernel
theorem d_Mo_judgeStatement_134 : decode b_Mo_judgeStatement 134 = .ok (.getfield 253, 3) := by decide +kernel
theorem d_Mo_judgeStatement_137 : decode b_Mo_judgeStatement 137 = .ok (.iconst 2, 1) := by decide +kernel
theorem d_Mo_judgeStatement_138 : decode b_Mo_judgeStatement 138 = .ok (.isub, 1) := by decide +kernel
theorem d_Mo_judgeStatement_139 : decode b_Mo_judgeStatement 139 = .ok (.iaload, 1) := by decide +kernel
theorem d_Mo_judgeStatement_140 : decode b_Mo_judgeStatement 140 = .ok (.bipush 46, 2) := by decide +kernel
theorem d_Mo_judgeStatement_142 : decode b_Mo_judgeStatement 142 = .ok (.if_icmp .ne 7, 3) := by decide +kernel
theorem d_Mo_judgeStatement_145 : decode b_Mo_judgeStatement 145 = .ok (.iconst 1, 1) := by decide +kernel
theorem d_Mo_judgeStatement_146 : decode b_Mo_judgeStatement 146 = .ok (.goto 4, 3) := by decide +kernel
theorem d_Mo_judgeStatement_149 : decode b_Mo_judgeStatement 149 = .ok (.iconst 0, 1) := by decide +kernel
theorem d_Mo_judgeStatement_150 : decode b_Mo_judgeStatement 150 = .ok (.istore_n 3, 1) := by decide +kernel
theorem d_Mo_judgeStatement_151 : decode b_Mo_judgeStatement 151 = .ok (.iload_n 3, 1) := by decide +kernel
theorem d_Mo_judgeStatement_152 : decode b_Mo_judgeStatement 152 = .ok (.ifCond .ne 10, 3) := by decide +kernel
theorem d_Mo_judgeStatement_155 : decode b_Mo_judgeStatement 155 = .ok (.aload_n 0, 1) := by decide +kernel
theorem d_Mo_judgeStatement_156 : decode b_Mo_judgeStatement 156 = .ok (.iload_n 1, 1) := by decide +kernel
theorem d_Mo_judgeStatement_157 : decode b_Mo_judgeStatement 157 = .ok (.bipush 10, 2) := by decide +kernel
theorem d_Mo_judgeStatement_159 : decode b_Mo_judgeStatement 159 = .ok (.invokevirtual 201, 3) := by decide +kernel
theorem d_Mo_judgeStatement_162 : decode b_Mo_judgeStatement 162 = .ok (.aload_n 0, 1) := by decide +kernel
theorem d_Mo_judgeStatement_163 : decode b_Mo_judgeStatement 163 = .ok (.getfield 253, 3) := by decide +kernel
theorem d_Mo_judgeStatement_166 : decode b_Mo_judgeStatement 166 = .ok (.iconst 1, 1) := by decide +kernel
theorem d_Mo_judgeStatement_167 : decode b_Mo_judgeStatement 167 = .ok (.iadd, 1) := by decide +kernel
theorem d_Mo_judgeStatement_168 : decode b_Mo_judgeStatement 168 = .ok (.istore 4, 2) := by decide +kernel
theorem d_Mo_judgeStatement_170 : decode b_Mo_judgeStatement 170 = .ok (.aload_n 0, 1) := by decide +kernel
theorem d_Mo_judgeStatement_171 : decode b_Mo_judgeStatement 171 = .ok (.aload_n 0, 1) := by decide +kernel
theorem d_Mo_judgeStatement_172 : decode b_Mo_judgeStatement 172 = .ok (.iload 4, 2) := by decide +kernel
theorem d_Mo_judgeStatement_174 : decode b_Mo_judgeStatement 174 = .ok (.iload_n 1, 1) := by decide +kernel
theorem d_Mo_judgeStatement_175 : decode b_Mo_judgeStatement 175 = .ok (.invokevirtual 259, 3) := by decide +kernel
theorem d_Mo_judgeStatement_178 : decode b_Mo_judgeStatement 178 = .ok (.iload_n 2, 1) := by decide +kernel
theorem d_Mo_judgeStatement_179 : decode b_Mo_judgeStatement 179 = .ok (.iload 4, 2) := by decide +kernel
theorem d_Mo_judgeStatement_181 : decode b_Mo_judgeStatement 181 = .ok (.invokevirtual 240, 3) := by decide +kernel
theorem d_Mo_judgeStatement_184 : decode b_Mo_judgeStatement 184 = .ok (.return_, 1) := by decide +kernel
abbrev y_Mo_analyse : MethodName := ⟨"LanguageServerModel", "analyse", "()V"⟩
abbrev b_Mo_analyse : ByteArray := prog_13_method_54_code
theorem d_Mo_analyse_0 : decode b_Mo_analyse 0 = .ok (.aload_n 0, 1) := by decide +kernel
theorem d_Mo_analyse_1 : decode b_Mo_analyse 1 = .ok (.invokevirtual 262, 3) := by decide +kernel
theorem d_Mo_analyse_4 : decode b_Mo_analyse 4 = .ok (.iconst 0, 1) := by decide +kernel
theorem d_Mo_analyse_5 : decode b_Mo_analyse 5 = .ok (.istore_n 1, 1) := by decide +kernel
theorem d_Mo_analyse_6 : decode b_Mo_analyse 6 = .ok (.iload_n 1, 1) := by decide +kernel
theorem d_Mo_analyse_7 : decode b_Mo_analyse 7 = .ok (.bipush 124, 2) := by decide +kernel
theorem d_Mo_analyse_9 : decode b_Mo_analyse 9 = .ok (.if_icmp .ge 51, 3) := by decide +kernel
theorem d_Mo_analyse_12 : decode b_Mo_analyse 12 = .ok (.aload_n 0, 1) := by decide +kernel
theorem d_Mo_analyse_13 : decode b_Mo_analyse 13 = .ok (.getfield 29, 3) := by decide +kernel
theorem d_Mo_analyse_16 : decode b_Mo_analyse 16 = .ok (.iload_n 1, 1) := by decide +kernel
theorem d_Mo_analyse_17 : decode b_Mo_analyse 17 = .ok (.iconst 0, 1) := by decide +kernel
theorem d_Mo_analyse_18 : decode b_Mo_analyse 18 = .ok (.iastore, 1) := by decide +kernel
theorem d_Mo_analyse_19 : decode b_Mo_analyse 19 = .ok (.aload_n 0, 1) := by decide +kernel
theorem d_Mo_analyse_20 : decode b_Mo_analyse 20 = .ok (.getfield 32, 3) := by decide +kernel
theorem d_Mo_analyse_23 : decode b_Mo_analyse 23 = .ok (.iload_n 1, 1) := by decide +kernel
theorem d_Mo_analyse_24 : decode b_Mo_analyse 24 = .ok (.iconst (-1), 1) := by decide +kernel
theorem d_Mo_analyse_25 : decode b_Mo_analyse 25 = .ok (.iastore, 1) := by decide +kernel
theorem d_Mo_analyse_26 : decode b_Mo_analyse 26 = .ok (.aload_n 0, 1) := by decide +kernel
theorem d_Mo_analyse_27 : decode b_Mo_analyse 27 = .ok (.getfield 35, 3) := by decide +kernel
theorem d_Mo_analyse_30 : decode b_Mo_analyse 30 = .ok (.iload_n 1, 1) := by decide +kernel
theorem d_Mo_analyse_31 : decode b_Mo_analyse 31 = .ok (.iconst (-1), 1) := by decide +kernel
theorem d_Mo_analyse_32 : decode b_Mo_analyse 32 = .ok (.iastore, 1) := by decide +kernel
theorem d_Mo_analyse_33 : decode b_Mo_analyse 33 = .ok (.aload_n 0, 1) := by decide +kernel
theorem d_Mo_analyse_34 : decode b_Mo_analyse 34 = .ok (.getfield 38, 3) := by decide +kernel
theorem d_Mo_analyse_37 : decode b_Mo_analyse 37 = .ok (.iload_n 1, 1) := by decide +kernel
theorem d_Mo_analyse_38 : decode b_Mo_analyse 38 = .ok (.iconst 0, 1) := by decide +kernel
theorem d_Mo_analyse_39 : decode b_Mo_analyse 39 = .ok (.iastore, 1) := by decide +kernel
theorem d_Mo_analyse_40 : decode b_Mo_analyse 40 = .ok (.aload_n 0, 1) := by decide +kernel
theorem d_Mo_analyse_41 : decode b_Mo_analyse 41 = .ok (.getfield 47, 3) := by decide +kernel
theorem d_Mo_analyse_44 : decode b_Mo_analyse 44 = .ok (.iload_n 1, 1) := by decide +kernel
theorem d_Mo_analyse_45 : decode b_Mo_analyse 45 = .ok (.iconst 0, 1) := by decide +kernel
theorem d_Mo_analyse_46 : decode b_Mo_analyse 46 = .ok (.iastore, 1) := by decide +kernel
theorem d_Mo_analyse_47 : decode b_Mo_analyse 47 = .ok (.aload_n 0, 1) := by decide +kernel
theorem d_Mo_analyse_48 : decode b_Mo_analyse 48 = .ok (.getfield 50, 3) := by decide +kernel
theorem d_Mo_analyse_51 : decode b_Mo_analyse 51 = .ok (.iload_n 1, 1) := by decide +kernel
theorem d_Mo_analyse_52 : decode b_Mo_analyse 52 = .ok (.iconst (-1), 1) := by decide +kernel
theorem d_Mo_analyse_53 : decode b_Mo_analyse 53 = .ok (.iastore, 1) := by decide +kernel
theorem d_Mo_analyse_54 : decode b_Mo_analyse 54 = .ok (.iinc 1 1, 3) := by decide +kernel
theorem d_Mo_analyse_57 : decode b_Mo_analyse 57 = .ok (.goto (-51), 3) := by decide +kernel
theorem d_Mo_analyse_60 : decode b_Mo_analyse 60 = .ok (.aload_n 0, 1) := by decide +kernel
theorem d_Mo_analyse_61 : decode b_Mo_analyse 61 = .ok (.iconst 0, 1) := by decide +kernel
theorem d_Mo_analyse_62 : decode b_Mo_analyse 62 = .ok (.putfield 135, 3) := by decide +kernel
theorem d_Mo_analyse_65 : decode b_Mo_analyse 65 = .ok (.aload_n 0, 1) := by decide +kernel
theorem d_Mo_analyse_66 : decode b_Mo_analyse 66 = .ok (.iconst 0, 1) := by decide +kernel
theorem d_Mo_analyse_67 : decode b_Mo_analyse 67 = .ok (.putfield 131, 3) := by decide +kernel
theorem d_Mo_analyse_70 : decode b_Mo_analyse 70 = .ok (.aload_n 0, 1) := by decide +kernel
theorem d_Mo_analyse_71 : decode b_Mo_analyse 71 = .ok (.invokevirtual 265, 3) := by decide +kernel
theorem d_Mo_analyse_74 : decode b_Mo_analyse 74 = .ok (.aload_n 0, 1) := by decide +kernel
theorem d_Mo_analyse_75 : decode b_Mo_analyse 75 = .ok (.getfield 131, 3) := by decide +kernel
theorem d_Mo_analyse_78 : decode b_Mo_analyse 78 = .ok (.ifCond .eq 104, 3) := by decide +kernel
theorem d_Mo_analyse_81 : decode b_Mo_analyse 81 = .ok (.aload_n 0, 1) := by decide +kernel
theorem d_Mo_analyse_82 : decode b_Mo_analyse 82 = .ok (.iconst 0, 1) := by decide +kernel
theorem d_Mo_analyse_83 : decode b_Mo_analyse 83 = .ok (.putfield 180, 3) := by decide +kernel
theorem d_Mo_analyse_86 : decode b_Mo_analyse 86 = .ok (.iconst 0, 1) := by decide +kernel
theorem d_Mo_analyse_87 : decode b_Mo_analyse 87 = .ok (.istore_n 1, 1) := by decide +kernel
theorem d_Mo_analyse_88 : decode b_Mo_analyse 88 = .ok (.iload_n 1, 1) := by decide +kernel
theorem d_Mo_analyse_89 : decode b_Mo_analyse 89 = .ok (.bipush 124, 2) := by decide +kernel
theorem d_Mo_analyse_91 : decode b_Mo_analyse 91 = .ok (.if_icmp .ge 28, 3) := by decide +kernel
theorem d_Mo_analyse_94 : decode b_Mo_analyse 94 = .ok (.aload_n 0, 1) := by decide +kernel
theorem d_Mo_analyse_95 : decode b_Mo_analyse 95 = .ok (.getfield 47, 3) := by decide +kernel
theorem d_Mo_analyse_98 : decode b_Mo_analyse 98 = .ok (.iload_n 1, 1) := by decide +kernel
theorem d_Mo_analyse_99 : decode b_Mo_analyse 99 = .ok (.iload_n 1, 1) := by decide +kernel
theorem d_Mo_analyse_100 : decode b_Mo_analyse 100 = .ok (.aload_n 0, 1) := by decide +kernel
theorem d_Mo_analyse_101 : decode b_Mo_analyse 101 = .ok (.getfield 135, 3) := by decide +kernel
theorem d_Mo_analyse_104 : decode b_Mo_analyse 104 = .ok (.if_icmp .ne 7, 3) := by decide +kernel
theorem d_Mo_analyse_107 : decode b_Mo_analyse 107 = .ok (.iconst 1, 1) := by decide +kernel
theorem d_Mo_analyse_108 : decode b_Mo_analyse 108 = .ok (.goto 4, 3) := by decide +kernel
theorem d_Mo_analyse_111 : decode b_Mo_analyse 111 = .ok (.iconst 0, 1) := by decide +kernel
theorem d_Mo_analyse_112 : decode b_Mo_analyse 112 = .ok (.iastore, 1) := by decide +kernel
theorem d_Mo_analyse_113 : decode b_Mo_analyse 113 = .ok (.iinc 1 1, 3) := by decide +kernel
theorem d_Mo_analyse_116 : decode b_Mo_analyse 116 = .ok (.goto (-28), 3) := by decide +kernel
theorem d_Mo_analyse_119 : decode b_Mo_analyse 119 = .ok (.aload_n 0, 1) := by decide +kernel
theorem d_Mo_analyse_120 : decode b_Mo_analyse 120 = .ok (.getfield 23, 3) := by decide +kernel
theorem d_Mo_analyse_123 : decode b_Mo_analyse 123 = .ok (.aload_n 0, 1) := by decide +kernel
theorem d_Mo_analyse_124 : decode b_Mo_analyse 124 = .ok (.getfield 135, 3) := by decide +kernel
theorem d_Mo_analyse_127 : decode b_Mo_analyse 127 = .ok (.aload_n 0, 1) := by decide +kernel
theorem d_Mo_analyse_128 : decode b_Mo_analyse 128 = .ok (.getfield 135, 3) := by decide +kernel
theorem d_Mo_analyse_131 : decode b_Mo_analyse 131 = .ok (.aload_n 0, 1) := by decide +kernel
theorem d_Mo_analyse_132 : decode b_Mo_analyse 132 = .ok (.getfield 118, 3) := by decide +kernel
theorem d_Mo_analyse_135 : decode b_Mo_analyse 135 = .ok (.if_icmp .ge 15, 3) := by decide +kernel
theorem d_Mo_analyse_138 : decode b_Mo_analyse 138 = .ok (.aload_n 0, 1) := by decide +kernel
theorem d_Mo_analyse_139 : decode b_Mo_analyse 139 = .ok (.getfield 23, 3) := by decide +kernel
theorem d_Mo_analyse_142 : decode b_Mo_analyse 142 = .ok (.aload_n 0, 1) := by decide +kernel
theorem d_Mo_analyse_143 : decode b_Mo_analyse 143 = .ok (.getfield 135, 3) := by decide +kernel
theorem d_Mo_analyse_146 : decode b_Mo_analyse 146 = .ok (.iaload, 1) := by decide +kernel
theorem d_Mo_analyse_147 : decode b_Mo_analyse 147 = .ok (.goto 25, 3) := by decide +kernel
theorem d_Mo_analyse_150 : decode b_Mo_analyse 150 = .ok (.aload_n 0, 1) := by decide +kernel
theorem d_Mo_analyse_151 : decode b_Mo_analyse 151 = .ok (.getfield 135, 3) := by decide +kernel
theorem d_Mo_analyse_154 : decode b_Mo_analyse 154 = .ok (.ifCond .ne 7, 3) := by decide +kernel
theorem d_Mo_analyse_157 : decode b_Mo_analyse 157 = .ok (.iconst 0, 1) := by decide +kernel
theorem d_Mo_analyse_158 : decode b_Mo_analyse 158 = .ok (.goto 14, 3) := by decide +kernel
theorem d_Mo_analyse_161 : decode b_Mo_analyse 161 = .ok (.aload_n 0, 1) := by decide +kernel
theorem d_Mo_analyse_162 : decode b_Mo_analyse 162 = .ok (.getfield 26, 3) := by decide +kernel
theorem d_Mo_analyse_165 : decode b_Mo_analyse 165 = .ok (.aload_n 0, 1) := by decide +kernel
theorem d_Mo_analyse_166 : decode b_Mo_analyse 166 = .ok (.getfield 135, 3) := by decide +kernel
theorem d_Mo_analyse_169 : decode b_Mo_analyse 169 = .ok (.iconst 1, 1) := by decide +kernel
theorem d_Mo_analyse_170 : decode b_Mo_analyse 170 = .ok (.isub, 1) := by decide +kernel
theorem d_Mo_analyse_171 : decode b_Mo_analyse 171 = .ok (.iaload, 1) := by decide +kernel
theorem d_Mo_analyse_172 : decode b_Mo_analyse 172 = .ok (.iastore, 1) := by decide +kernel
theorem d_Mo_analyse_173 : decode b_Mo_analyse 173 = .ok (.aload_n 0, 1) := by decide +kernel
theorem d_Mo_analyse_174 : decode b_Mo_analyse 174 = .ok (.aload_n 0, 1) := by decide +kernel
theorem d_Mo_analyse_175 : decode b_Mo_analyse 175 = .ok (.getfield 135, 3) := by decide +kernel
theorem d_Mo_analyse_178 : decode b_Mo_analyse 178 = .ok (.putfield 118, 3) := by decide +kernel
theorem d_Mo_analyse_181 : decode b_Mo_analyse 181 = .ok (.return_, 1) := by decide +kernel
theorem d_Mo_analyse_182 : decode b_Mo_analyse 182 = .ok (.iconst 0, 1) := by decide +kernel
theorem d_Mo_analyse_183 : decode b_Mo_analyse 183 = .ok (.istore_n 1, 1) := by decide +kernel
theorem d_Mo_analyse_184 : decode b_Mo_analyse 184 = .ok (.iload_n 1, 1) := by decide +kernel
theorem d_Mo_analyse_185 : decode b_Mo_analyse 185 = .ok (.aload_n 0, 1) := by decide +kernel
theorem d_Mo_analyse_186 : decode b_Mo_analyse 186 = .ok (.getfield 118, 3) := by decide +kernel
theorem d_Mo_analyse_189 : decode b_Mo_analyse 189 = .ok (.if_icmp .ge 14, 3) := by decide +kernel
theorem d_Mo_analyse_192 : decode b_Mo_analyse 192 = .ok (.aload_n 0, 1) := by decide +kernel
theorem d_Mo_analyse_193 : decode b_Mo_analyse 193 = .ok (.iload_n 1, 1) := by decide +kernel
theorem d_Mo_analyse_194 : decode b_Mo_analyse 194 = .ok (.invokevirtual 268, 3) := by decide +kernel
theorem d_Mo_analyse_197 : decode b_Mo_analyse 197 = .ok (.iinc 1 1, 3) := by decide +kernel
theorem d_Mo_analyse_200 : decode b_Mo_analyse 200 = .ok (.goto (-16), 3) := by decide +kernel
theorem d_Mo_analyse_203 : decode b_Mo_analyse 203 = .ok (.iconst 0, 1) := by decide +kernel
theorem d_Mo_analyse_204 : decode b_Mo_analyse 204 = .ok (.istore_n 1, 1) := by decide +kernel
theorem d_Mo_analyse_205 : decode b_Mo_analyse 205 = .ok (.iload_n 1, 1) := by decide +kernel
theorem d_Mo_analyse_206 : decode b_Mo_analyse 206 = .ok (.aload_n 0, 1) := by decide +kernel
theorem d_Mo_analyse_207 : decode b_Mo_analyse 207 = .ok (.getfield 118, 3) := by decide +kernel
theorem d_Mo_analyse_210 : decode b_Mo_analyse 210 = .ok (.if_icmp .ge 23, 3) := by decide +kernel
theorem d_Mo_analyse_213 : decode b_Mo_analyse 213 = .ok (.aload_n 0, 1) := by decide +kernel
theorem d_Mo_analyse_214 : decode b_Mo_analyse 214 = .ok (.getfield 38, 3) := by decide +kernel
theorem d_Mo_analyse_217 : decode b_Mo_analyse 217 = .ok (.iload_n 1, 1) := by decide +kernel
theorem d_Mo_analyse_218 : decode b_Mo_analyse 218 = .ok (.iaload, 1) := by decide +kernel
theorem d_Mo_analyse_219 : decode b_Mo_analyse 219 = .ok (.ifCond .le 8, 3) := by decide +kernel
theorem d_Mo_analyse_222 : decode b_Mo_analyse 222 = .ok (.aload_n 0, 1) := by decide +kernel
theorem d_Mo_analyse_223 : decode b_Mo_analyse 223 = .ok (.iload_n 1, 1) := by decide +kernel
theorem d_Mo_analyse_224 : decode b_Mo_analyse 224 = .ok (.invokevirtual 271, 3) := by decide +kernel
theorem d_Mo_analyse_227 : decode b_Mo_analyse 227 = .ok (.iinc 1 1, 3) := by decide +kernel
theorem d_Mo_analyse_230 : decode b_Mo_analyse 230 = .ok (.goto (-25), 3) := by decide +kernel
theorem d_Mo_analyse_233 : decode b_Mo_analyse 233 = .ok (.return_, 1) := by decide +kernel
abbrev y_Mo_diagnosticCount : MethodName := ⟨"LanguageServerModel", "diagnosticCount", "()I"⟩
abbrev b_Mo_diagnosticCount : ByteArray := prog_13_method_55_code
theorem d_Mo_diagnosticCount_0 : decode b_Mo_diagnosticCount 0 = .ok (.iconst 0, 1) := by decide +kernel
theorem d_Mo_diagnosticCount_1 : decode b_Mo_diagnosticCount 1 = .ok (.istore_n 1, 1) := by decide +kernel
theorem d_Mo_diagnosticCount_2 : decode b_Mo_diagnosticCount 2 = .ok (.iconst 0, 1) := by decide +kernel
theorem d_Mo_diagnosticCount_3 : decode b_Mo_diagnosticCount 3 = .ok (.istore_n 2, 1) := by decide +kernel
theorem d_Mo_diagnosticCount_4 : decode b_Mo_diagnosticCount 4 = .ok (.iload_n 2, 1) := by decide +kernel
theorem d_Mo_diagnosticCount_5 : decode b_Mo_diagnosticCount 5 = .ok (.sipush 1364, 3) := by decide +kernel
theorem d_Mo_diagnosticCount_8 : decode b_Mo_diagnosticCount 8 = .ok (.if_icmp .ge 31, 3) := by decide +kernel
theorem d_Mo_diagnosticCount_11 : decode b_Mo_diagnosticCount 11 = .ok (.aload_n 0, 1) := by decide +kernel
theorem d_Mo_diagnosticCount_12 : decode b_Mo_diagnosticCount 12 = .ok (.getfield 47, 3) := by decide +kernel
theorem d_Mo_diagnosticCount_15 : decode b_Mo_diagnosticCount 15 = .ok (.iload_n 2, 1) := by decide +kernel
theorem d_Mo_diagnosticCount_16 : decode b_Mo_diagnosticCount 16 = .ok (.bipush 11, 2) := by decide +kernel
theorem d_Mo_diagnosticCount_18 : decode b_Mo_diagnosticCount 18 = .ok (.idiv, 1) := by decide +kernel
theorem d_Mo_diagnosticCount_19 : decode b_Mo_diagnosticCount 19 = .ok (.iaload, 1) := by decide +kernel
theorem d_Mo_diagnosticCount_20 : decode b_Mo_diagnosticCount 20 = .ok (.iload_n 2, 1) := by decide +kernel
theorem d_Mo_diagnosticCount_21 : decode b_Mo_diagnosticCount 21 = .ok (.bipush 11, 2) := by decide +kernel
theorem d_Mo_diagnosticCount_23 : decode b_Mo_diagnosticCount 23 = .ok (.irem, 1) := by decide +kernel
theorem d_Mo_diagnosticCount_24 : decode b_Mo_diagnosticCount 24 = .ok (.ishr, 1) := by decide +kernel
theorem d_Mo_diagnosticCount_25 : decode b_Mo_diagnosticCount 25 = .ok (.iconst 1, 1) := by decide +kernel
theorem d_Mo_diagnosticCount_26 : decode b_Mo_diagnosticCount 26 = .ok (.iand, 1) := by decide +kernel
theorem d_Mo_diagnosticCount_27 : decode b_Mo_diagnosticCount 27 = .ok (.ifCond .eq 6, 3) := by decide +kernel
theorem d_Mo_diagnosticCount_30 : decode b_Mo_diagnosticCount 30 = .ok (.iinc 1 1, 3) := by decide +kernel
theorem d_Mo_diagnosticCount_33 : decode b_Mo_diagnosticCount 33 = .ok (.iinc 2 1, 3) := by decide +kernel
theorem d_Mo_diagnosticCount_36 : decode b_Mo_diagnosticCount 36 = .ok (.goto (-32), 3) := by decide +kernel
theorem d_Mo_diagnosticCount_39 : decode b_Mo_diagnosticCount 39 = .ok (.iload_n 1, 1) := by decide +kernel
theorem d_Mo_diagnosticCount_40 : decode b_Mo_diagnosticCount 40 = .ok (.ireturn, 1) := by decide +kernel
abbrev y_Mo_diagnostics : MethodName := ⟨"LanguageServerModel", "diagnostics", "()I"⟩
abbrev b_Mo_diagnostics : ByteArray := prog_13_method_56_code
theorem d_Mo_diagnostics_0 : decode b_Mo_diagnostics 0 = .ok (.aload_n 0, 1) := by decide +kernel
theorem d_Mo_diagnostics_1 : decode b_Mo_diagnostics 1 = .ok (.iconst 0, 1) := by decide +kernel
theorem d_Mo_diagnostics_2 : decode b_Mo_diagnostics 2 = .ok (.putfield 81, 3) := by decide +kernel
theorem d_Mo_diagnostics_5 : decode b_Mo_diagnostics 5 = .ok (.aload_n 0, 1) := by decide +kernel
theorem d_Mo_diagnostics_6 : decode b_Mo_diagnostics 6 = .ok (.invokevirtual 274, 3) := by decide +kernel
theorem d_Mo_diagnostics_9 : decode b_Mo_diagnostics 9 = .ok (.aload_n 0, 1) := by decide +kernel
theorem d_Mo_diagnostics_10 : decode b_Mo_diagnostics 10 = .ok (.invokevirtual 277, 3) := by decide +kernel
theorem d_Mo_diagnostics_13 : decode b_Mo_diagnostics 13 = .ok (.ireturn, 1) := by decide +kernel
abbrev y_Mo_diagnostic : MethodName := ⟨"LanguageServerModel", "diagnostic", "(II)I"⟩
abbrev b_Mo_diagnostic : ByteArray := prog_13_method_57_code
theorem d_Mo_diagnostic_0 : decode b_Mo_diagnostic 0 = .ok (.aload_n 0, 1) := by decide +kernel
theorem d_Mo_diagnostic_1 : decode b_Mo_diagnostic 1 = .ok (.iconst 0, 1) := by decide +kernel
theorem d_Mo_diagnostic_2 : decode b_Mo_diagnostic 2 = .ok (.putfield 81, 3) := by decide +kernel
theorem d_Mo_diagnostic_5 : decode b_Mo_diagnostic 5 = .ok (.aload_n 0, 1) := by decide +kernel
theorem d_Mo_diagnostic_6 : decode b_Mo_diagnostic 6 = .ok (.invokevirtual 274, 3) := by decide +kernel
theorem d_Mo_diagnostic_9 : decode b_Mo_diagnostic 9 = .ok (.iload_n 1, 1) := by decide +kernel
theorem d_Mo_diagnostic_10 : decode b_Mo_diagnostic 10 = .ok (.ifCond .lt 11, 3) := by decide +kernel
theorem d_Mo_diagnostic_13 : decode b_Mo_diagnostic 13 = .ok (.iload_n 1, 1) := by decide +kernel
theorem d_Mo_diagnostic_14 : decode b_Mo_diagnostic 14 = .ok (.aload_n 0, 1) := by decide +kernel
theorem d_Mo_diagnostic_15 : decode b_Mo_diagnostic 15 = .ok (.invokevirtual 277, 3) := by decide +kernel
theorem d_Mo_diagnostic_18 : decode b_Mo_diagnostic 18 = .ok (.if_icmp .lt 9, 3) := by decide +kernel
theorem d_Mo_diagnostic_21 : decode b_Mo_diagnostic 21 = .ok (.aload_n 0, 1) := by decide +kernel
theorem d_Mo_diagnostic_22 : decode b_Mo_diagnostic 22 = .ok (.iconst 1, 1) := by decide +kernel
theorem d_Mo_diagnostic_23 : decode b_Mo_diagnostic 23 = .ok (.invokevirtual 92, 3) := by decide +kernel
theorem d_Mo_diagnostic_26 : decode b_Mo_diagnostic 26 = .ok (.ireturn, 1) := by decide +kernel
theorem d_Mo_diagnostic_27 : decode b_Mo_diagnostic 27 = .ok (.iload_n 2, 1) := by decide +kernel
theorem d_Mo_diagnostic_28 : decode b_Mo_diagnostic 28 = .ok (.ifCond .lt 8, 3) := by decide +kernel
theorem d_Mo_diagnostic_31 : decode b_Mo_diagnostic 31 = .ok (.iload_n 2, 1) := by decide +kernel
theorem d_Mo_diagnostic_32 : decode b_Mo_diagnostic 32 = .ok (.iconst 1, 1) := by decide +kernel
theorem d_Mo_diagnostic_33 : decode b_Mo_diagnostic 33 = .ok (.if_icmp .le 9, 3) := by decide +kernel
theorem d_Mo_diagnostic_36 : decode b_Mo_diagnostic 36 = .ok (.aload_n 0, 1) := by decide +kernel
theorem d_Mo_diagnostic_37 : decode b_Mo_diagnostic 37 = .ok (.iconst 2, 1) := by decide +kernel
theorem d_Mo_diagnostic_38 : decode b_Mo_diagnostic 38 = .ok (.invokevirtual 92, 3) := by decide +kernel
theorem d_Mo_diagnostic_41 : decode b_Mo_diagnostic 41 = .ok (.ireturn, 1) := by decide +kernel
theorem d_Mo_diagnostic_42 : decode b_Mo_diagnostic 42 = .ok (.iload_n 1, 1) := by decide +kernel
theorem d_Mo_diagnostic_43 : decode b_Mo_diagnostic 43 = .ok (.istore_n 3, 1) := by decide +kernel
theorem d_Mo_diagnostic_44 : decode b_Mo_diagnostic 44 = .ok (.iconst 0, 1) := by decide +kernel
theorem d_Mo_diagnostic_45 : decode b_Mo_diagnostic 45 = .ok (.istore 4, 2) := by decide +kernel
theorem d_Mo_diagnostic_47 : decode b_Mo_diagnostic 47 = .ok (.iload 4, 2) := by decide +kernel
theorem d_Mo_diagnostic_49 : decode b_Mo_diagnostic 49 = .ok (.sipush 1364, 3) := by decide +kernel
theorem d_Mo_diagnostic_52 : decode b_Mo_diagnostic 52 = .ok (.if_icmp .ge 63, 3) := by decide +kernel
theorem d_Mo_diagnostic_55 : decode b_Mo_diagnostic 55 = .ok (.aload_n 0, 1) := by decide +kernel
theorem d_Mo_diagnostic_56 : decode b_Mo_diagnostic 56 = .ok (.getfield 47, 3) := by decide +kernel
theorem d_Mo_diagnostic_59 : decode b_Mo_diagnostic 59 = .ok (.iload 4, 2) := by decide +kernel
theorem d_Mo_diagnostic_61 : decode b_Mo_diagnostic 61 = .ok (.bipush 11, 2) := by decide +kernel
theorem d_Mo_diagnostic_63 : decode b_Mo_diagnostic 63 = .ok (.idiv, 1) := by decide +kernel
theorem d_Mo_diagnostic_64 : decode b_Mo_diagnostic 64 = .ok (.iaload, 1) := by decide +kernel
theorem d_Mo_diagnostic_65 : decode b_Mo_diagnostic 65 = .ok (.iload 4, 2) := by decide +kernel
theorem d_Mo_diagnostic_67 : decode b_Mo_diagnostic 67 = .ok (.bipush 11, 2) := by decide +kernel
theorem d_Mo_diagnostic_69 : decode b_Mo_diagnostic 69 = .ok (.irem, 1) := by decide +kernel
theorem d_Mo_diagnostic_70 : decode b_Mo_diagnostic 70 = .ok (.ishr, 1) := by decide +kernel
theorem d_Mo_diagnostic_71 : decode b_Mo_diagnostic 71 = .ok (.iconst 1, 1) := by decide +kernel
theorem d_Mo_diagnostic_72 : decode b_Mo_diagnostic 72 = .ok (.iand, 1) := by decide +kernel
theorem d_Mo_diagnostic_73 : decode b_Mo_diagnostic 73 = .ok (.ifCond .ne 6, 3) := by decide +kernel
theorem d_Mo_diagnostic_76 : decode b_Mo_diagnostic 76 = .ok (.goto 33, 3) := by decide +kernel
theorem d_Mo_diagnostic_79 : decode b_Mo_diagnostic 79 = .ok (.iload_n 3, 1) := by decide +kernel
theorem d_Mo_diagnostic_80 : decode b_Mo_diagnostic 80 = .ok (.ifCond .ne 26, 3) := by decide +kernel
theorem d_Mo_diagnostic_83 : decode b_Mo_diagnostic 83 = .ok (.iload_n 2, 1) := by decide +kernel
theorem d_Mo_diagnostic_84 : decode b_Mo_diagnostic 84 = .ok (.ifCond .ne 11, 3) := by decide +kernel
theorem d_Mo_diagnostic_87 : decode b_Mo_diagnostic 87 = .ok (.iload 4, 2) := by decide +kernel
theorem d_Mo_diagnostic_89 : decode b_Mo_diagnostic 89 = .ok (.bipush 11, 2) := by decide +kernel
theorem d_Mo_diagnostic_91 : decode b_Mo_diagnostic 91 = .ok (.irem, 1) := by decide +kernel
theorem d_Mo_diagnostic_92 : decode b_Mo_diagnostic 92 = .ok (.goto 13, 3) := by decide +kernel
theorem d_Mo_diagnostic_95 : decode b_Mo_diagnostic 95 = .ok (.aload_n 0, 1) := by decide +kernel
theorem d_Mo_diagnostic_96 : decode b_Mo_diagnostic 96 = .ok (.getfield 23, 3) := by decide +kernel
theorem d_Mo_diagnostic_99 : decode b_Mo_diagnostic 99 = .ok (.iload 4, 2) := by decide +kernel
theorem d_Mo_diagnostic_101 : decode b_Mo_diagnostic 101 = .ok (.bipush 11, 2) := by decide +kernel
theorem d_Mo_diagnostic_103 : decode b_Mo_diagnostic 103 = .ok (.idiv, 1) := by decide +kernel
theorem d_Mo_diagnostic_104 : decode b_Mo_diagnostic 104 = .ok (.iaload, 1) := by decide +kernel
theorem d_Mo_diagnostic_105 : decode b_Mo_diagnostic 105 = .ok (.ireturn, 1) := by decide +kernel
theorem d_Mo_diagnostic_106 : decode b_Mo_diagnostic 106 = .ok (.iinc 3 (-1), 3) := by decide +kernel
theorem d_Mo_diagnostic_109 : decode b_Mo_diagnostic 109 = .ok (.iinc 4 1, 3) := by decide +kernel
theorem d_Mo_diagnostic_112 : decode b_Mo_diagnostic 112 = .ok (.goto (-65), 3) := by decide +kernel
theorem d_Mo_diagnostic_115 : decode b_Mo_diagnostic 115 = .ok (.iconst 0, 1) := by decide +kernel
theorem d_Mo_diagnostic_116 : decode b_Mo_diagnostic 116 = .ok (.ireturn, 1) := by decide +kernel
abbrev y_Mo_named : MethodName := ⟨"LanguageServerModel", "named", "(I)I"⟩
abbrev b_Mo_named : ByteArray := prog_13_method_58_code
theorem d_Mo_named_0 : decode b_Mo_named 0 = .ok (.aload_n 0, 1) := by decide +kernel
theorem d_Mo_named_1 : decode b_Mo_named 1 = .ok (.invokevirtual 274, 3) := by decide +kernel
theorem d_Mo_named_4 : decode b_Mo_named 4 = .ok (.iconst 0, 1) := by decide +kernel
theorem d_Mo_named_5 : decode b_Mo_named 5 = .ok (.istore_n 2, 1) := by decide +kernel
theorem d_Mo_named_6 : decode b_Mo_named 6 = .ok (.iload_n 2, 1) := by decide +kernel
theorem d_Mo_named_7 : decode b_Mo_named 7 = .ok (.aload_n 0, 1) := by decide +kernel
theorem d_Mo_named_8 : decode b_Mo_named 8 = .ok (.getfield 118, 3) := by decide +kernel
theorem d_Mo_named_11 : decode b_Mo_named 11 = .ok (.if_icmp .ge 61, 3) := by decide +kernel
theorem d_Mo_named_14 : decode b_Mo_named 14 = .ok (.iload_n 1, 1) := by decide +kernel
theorem d_Mo_named_15 : decode b_Mo_named 15 = .ok (.aload_n 0, 1) := by decide +kernel
theorem d_Mo_named_16 : decode b_Mo_named 16 = .ok (.getfield 23, 3) := by decide +kernel
theorem d_Mo_named_19 : decode b_Mo_named 19 = .ok (.iload_n 2, 1) := by decide +kernel
theorem d_Mo_named_20 : decode b_Mo_named 20 = .ok (.iaload, 1) := by decide +kernel
theorem d_Mo_named_21 : decode b_Mo_named 21 = .ok (.if_icmp .lt 45, 3) := by decide +kernel
theorem d_Mo_named_24 : decode b_Mo_named 24 = .ok (.iload_n 1, 1) := by decide +kernel
theorem d_Mo_named_25 : decode b_Mo_named 25 = .ok (.aload_n 0, 1) := by decide +kernel
theorem d_Mo_named_26 : decode b_Mo_named 26 = .ok (.getfield 26, 3) := by decide +kernel
theorem d_Mo_named_29 : decode b_Mo_named 29 = .ok (.iload_n 2, 1) := by decide +kernel
theorem d_Mo_named_30 : decode b_Mo_named 30 = .ok (.iaload, 1) := by decide +kernel
theorem d_Mo_named_31 : decode b_Mo_named 31 = .ok (.if_icmp .ge 35, 3) := by decide +kernel
theorem d_Mo_named_34 : decode b_Mo_named 34 = .ok (.aload_n 0, 1) := by decide +kernel
theorem d_Mo_named_35 : decode b_Mo_named 35 = .ok (.getfield 16, 3) := by decide +kernel
theorem d_Mo_named_38 : decode b_Mo_named 38 = .ok (.iload_n 2, 1) := by decide +kernel
theorem d_Mo_named_39 : decode b_Mo_named 39 = .ok (.iaload, 1) := by decide +kernel
theorem d_Mo_named_40 : decode b_Mo_named 40 = .ok (.iconst 1, 1) := by decide +kernel
theorem d_Mo_named_41 : decode b_Mo_named 41 = .ok (.if_icmp .ne 23, 3) := by decide +kernel
theorem d_Mo_named_44 : decode b_Mo_named 44 = .ok (.aload_n 0, 1) := by decide +kernel
theorem d_Mo_named_45 : decode b_Mo_named 45 = .ok (.getfield 131, 3) := by decide +kernel
theorem d_Mo_named_48 : decode b_Mo_named 48 = .ok (.ifCond .ne 16, 3) := by decide +kernel
theorem d_Mo_named_51 : decode b_Mo_named 51 = .ok (.aload_n 0, 1) := by decide +kernel
theorem d_Mo_named_52 : decode b_Mo_named 52 = .ok (.getfield 50, 3) := by decide +kernel
theorem d_Mo_named_55 : decode b_Mo_named 55 = .ok (.iload_n 2, 1) := by decide +kernel
theorem d_Mo_named_56 : decode b_Mo_named 56 = .ok (.iaload, 1) := by decide +kernel
theorem d_Mo_named_57 : decode b_Mo_named 57 = .ok (.ifCond .lt 7, 3) := by decide +kernel
theorem d_Mo_named_60 : decode b_Mo_named 60 = .ok (.iload_n 2, 1) := by decide +kernel
theorem d_Mo_named_61 : decode b_Mo_named 61 = .ok (.goto 4, 3) := by decide +kernel
theorem d_Mo_named_64 : decode b_Mo_named 64 = .ok (.iconst (-1), 1) := by decide +kernel
theorem d_Mo_named_65 : decode b_Mo_named 65 = .ok (.ireturn, 1) := by decide +kernel
theorem d_Mo_named_66 : decode b_Mo_named 66 = .ok (.iinc 2 1, 3) := by decide +kernel
theorem d_Mo_named_69 : decode b_Mo_named 69 = .ok (.goto (-63), 3) := by decide +kernel
theorem d_Mo_named_72 : decode b_Mo_named 72 = .ok (.iconst (-1), 1) := by decide +kernel
theorem d_Mo_named_73 : decode b_Mo_named 73 = .ok (.ireturn, 1) := by decide +kernel
abbrev y_Mo_definition : MethodName := ⟨"LanguageServerModel", "definition", "(I)I"⟩
abbrev b_Mo_definition : ByteArray := prog_13_method_59_code
theorem d_Mo_definition_0 : decode b_Mo_definition 0 = .ok (.aload_n 0, 1) := by decide +kernel
theorem d_Mo_definition_1 : decode b_Mo_definition 1 = .ok (.iconst 0, 1) := by decide +kernel
theorem d_Mo_definition_2 : decode b_Mo_definition 2 = .ok (.putfield 81, 3) := by decide +kernel
theorem d_Mo_definition_5 : decode b_Mo_definition 5 = .ok (.aload_n 0, 1) := by decide +kernel
theorem d_Mo_definition_6 : decode b_Mo_definition 6 = .ok (.iload_n 1, 1) := by decide +kernel
theorem d_Mo_definition_7 : decode b_Mo_definition 7 = .ok (.invokevirtual 280, 3) := by decide +kernel
theorem d_Mo_definition_10 : decode b_Mo_definition 10 = .ok (.istore_n 2, 1) := by decide +kernel
theorem d_Mo_definition_11 : decode b_Mo_definition 11 = .ok (.iload_n 2, 1) := by decide +kernel
theorem d_Mo_definition_12 : decode b_Mo_definition 12 = .ok (.ifCond .ge 11, 3) := by decide +kernel
theorem d_Mo_definition_15 : decode b_Mo_definition 15 = .ok (.aload_n 0, 1) := by decide +kernel
theorem d_Mo_definition_16 : decode b_Mo_definition 16 = .ok (.iconst 1, 1) := by decide +kernel
theorem d_Mo_definition_17 : decode b_Mo_definition 17 = .ok (.invokevirtual 92, 3) := by decide +kernel
theorem d_Mo_definition_20 : decode b_Mo_definition 20 = .ok (.goto 14, 3) := by decide +kernel
theorem d_Mo_definition_23 : decode b_Mo_definition 23 = .ok (.aload_n 0, 1) := by decide +kernel
theorem d_Mo_definition_24 : decode b_Mo_definition 24 = .ok (.getfield 23, 3) := by decide +kernel
theorem d_Mo_definition_27 : decode b_Mo_definition 27 = .ok (.aload_n 0, 1) := by decide +kernel
theorem d_Mo_definition_28 : decode b_Mo_definition 28 = .ok (.getfield 50, 3) := by decide +kernel
theorem d_Mo_definition_31 : decode b_Mo_definition 31 = .ok (.iload_n 2, 1) := by decide +kernel
theorem d_Mo_definition_32 : decode b_Mo_definition 32 = .ok (.iaload, 1) := by decide +kernel
theorem d_Mo_definition_33 : decode b_Mo_definition 33 = .ok (.iaload, 1) := by decide +kernel
theorem d_Mo_definition_34 : decode b_Mo_definition 34 = .ok (.ireturn, 1) := by decide +kernel
abbrev y_Mo_type : MethodName := ⟨"LanguageServerModel", "type", "(I)I"⟩
abbrev b_Mo_type : ByteArray := prog_13_method_60_code
theorem d_Mo_type_0 : decode b_Mo_type 0 = .ok (.aload_n 0, 1) := by decide +kernel
theorem d_Mo_type_1 : decode b_Mo_type 1 = .ok (.iconst 0, 1) := by decide +kernel
theorem d_Mo_type_2 : decode b_Mo_type 2 = .ok (.putfield 81, 3) := by decide +kernel
theorem d_Mo_type_5 : decode b_Mo_type 5 = .ok (.aload_n 0, 1) := by decide +kernel
theorem d_Mo_type_6 : decode b_Mo_type 6 = .ok (.iload_n 1, 1) := by decide +kernel
theorem d_Mo_type_7 : decode b_Mo_type 7 = .ok (.invokevirtual 280, 3) := by decide +kernel
theorem d_Mo_type_10 : decode b_Mo_type 10 = .ok (.istore_n 2, 1) := by decide +kernel
theorem d_Mo_type_11 : decode b_Mo_type 11 = .ok (.iload_n 2, 1) := by decide +kernel
theorem d_Mo_type_12 : decode b_Mo_type 12 = .ok (.ifCond .ge 9, 3) := by decide +kernel
theorem d_Mo_type_15 : decode b_Mo_type 15 = .ok (.aload_n 0, 1) := by decide +kernel
theorem d_Mo_type_16 : decode b_Mo_type 16 = .ok (.iconst 1, 1) := by decide +kernel
theorem d_Mo_type_17 : decode b_Mo_type 17 = .ok (.invokevirtual 92, 3) := by decide +kernel
theorem d_Mo_type_20 : decode b_Mo_type 20 = .ok (.ireturn, 1) := by decide +kernel
theorem d_Mo_type_21 : decode b_Mo_type 21 = .ok (.aload_n 0, 1) := by decide +kernel
theorem d_Mo_type_22 : decode b_Mo_type 22 = .ok (.getfield 50, 3) := by decide +kernel
theorem d_Mo_type_25 : decode b_Mo_type 25 = .ok (.iload_n 2, 1) := by decide +kernel
theorem d_Mo_type_26 : decode b_Mo_type 26 = .ok (.iaload, 1) := by decide +kernel
theorem d_Mo_type_27 : decode b_Mo_type 27 = .ok (.istore_n 3, 1) := by decide +kernel
theorem d_Mo_type_28 : decode b_Mo_type 28 = .ok (.aload_n 0, 1) := by decide +kernel
theorem d_Mo_type_29 : decode b_Mo_type 29 = .ok (.getfield 29, 3) := by decide +kernel
theorem d_Mo_type_32 : decode b_Mo_type 32 = .ok (.iload_n 3, 1) := by decide +kernel
theorem d_Mo_type_33 : decode b_Mo_type 33 = .ok (.iaload, 1) := by decide +kernel
theorem d_Mo_type_34 : decode b_Mo_type 34 = .ok (.iconst 1, 1) := by decide +kernel
theorem d_Mo_type_35 : decode b_Mo_type 35 = .ok (.if_icmp .ne 12, 3) := by decide +kernel
theorem d_Mo_type_38 : decode b_Mo_type 38 = .ok (.aload_n 0, 1) := by decide +kernel
theorem d_Mo_type_39 : decode b_Mo_type 39 = .ok (.getfield 32, 3) := by decide +kernel
theorem d_Mo_type_42 : decode b_Mo_type 42 = .ok (.iload_n 3, 1) := by decide +kernel
theorem d_Mo_type_43 : decode b_Mo_type 43 = .ok (.iaload, 1) := by decide +kernel
theorem d_Mo_type_44 : decode b_Mo_type 44 = .ok (.goto 8, 3) := by decide +kernel
theorem d_Mo_type_47 : decode b_Mo_type 47 = .ok (.aload_n 0, 1) := by decide +kernel
theorem d_Mo_type_48 : decode b_Mo_type 48 = .ok (.iload_n 3, 1) := by decide +kernel
theorem d_Mo_type_49 : decode b_Mo_type 49 = .ok (.invokevirtual 228, 3) := by decide +kernel
theorem d_Mo_type_52 : decode b_Mo_type 52 = .ok (.ireturn, 1) := by decide +kernel
abbrev y_Mo_uses : MethodName := ⟨"LanguageServerModel", "uses", "(I)I"⟩
abbrev b_Mo_uses : ByteArray := prog_13_method_61_code
theorem d_Mo_uses_0 : decode b_Mo_uses 0 = .ok (.iconst 0, 1) := by decide +kernel
theorem d_Mo_uses_1 : decode b_Mo_uses 1 = .ok (.istore_n 2, 1) := by decide +kernel
theorem d_Mo_uses_2 : decode b_Mo_uses 2 = .ok (.iconst 0, 1) := by decide +kernel
theorem d_Mo_uses_3 : decode b_Mo_uses 3 = .ok (.istore_n 3, 1) := by decide +kernel
theorem d_Mo_uses_4 : decode b_Mo_uses 4 = .ok (.iload_n 3, 1) := by decide +kernel
theorem d_Mo_uses_5 : decode b_Mo_uses 5 = .ok (.aload_n 0, 1) := by decide +kernel
theorem d_Mo_uses_6 : decode b_Mo_uses 6 = .ok (.getfield 118, 3) := by decide +kernel
theorem d_Mo_uses_9 : decode b_Mo_uses 9 = .ok (.if_icmp .ge 22, 3) := by decide +kernel
theorem d_Mo_uses_12 : decode b_Mo_uses 12 = .ok (.aload_n 0, 1) := by decide +kernel
theorem d_Mo_uses_13 : decode b_Mo_uses 13 = .ok (.getfield 50, 3) := by decide +kernel
theorem d_Mo_uses_16 : decode b_Mo_uses 16 = .ok (.iload_n 3, 1) := by decide +kernel
theorem d_Mo_uses_17 : decode b_Mo_uses 17 = .ok (.iaload, 1) := by decide +kernel
theorem d_Mo_uses_18 : decode b_Mo_uses 18 = .ok (.iload_n 1, 1) := by decide +kernel
theorem d_Mo_uses_19 : decode b_Mo_uses 19 = .ok (.if_icmp .ne 6, 3) := by decide +kernel
theorem d_Mo_uses_22 : decode b_Mo_uses 22 = .ok (.iinc 2 1, 3) := by decide +kernel
theorem d_Mo_uses_25 : decode b_Mo_uses 25 = .ok (.iinc 3 1, 3) := by decide +kernel
theorem d_Mo_uses_28 : decode b_Mo_uses 28 = .ok (.goto (-24), 3) := by decide +kernel
theorem d_Mo_uses_31 : decode b_Mo_uses 31 = .ok (.iload_n 2, 1) := by decide +kernel
theorem d_Mo_uses_32 : decode b_Mo_uses 32 = .ok (.ireturn, 1) := by decide +kernel
