abbrev y_Mo_rename : MethodName := ⟨"LanguageServerModel", "rename", "(IJI)I"⟩
abbrev b_Mo_rename : ByteArray := prog_13_method_74_code
theorem d_Mo_rename_0 : decode b_Mo_rename 0 = .ok (.aload_n 0, 1) := by decide +kernel
theorem d_Mo_rename_1 : decode b_Mo_rename 1 = .ok (.iconst 0, 1) := by decide +kernel
theorem d_Mo_rename_2 : decode b_Mo_rename 2 = .ok (.putfield 81, 3) := by decide +kernel
theorem d_Mo_rename_5 : decode b_Mo_rename 5 = .ok (.aload_n 0, 1) := by decide +kernel
theorem d_Mo_rename_6 : decode b_Mo_rename 6 = .ok (.iload_n 1, 1) := by decide +kernel
theorem d_Mo_rename_7 : decode b_Mo_rename 7 = .ok (.invokevirtual 280, 3) := by decide +kernel
theorem d_Mo_rename_10 : decode b_Mo_rename 10 = .ok (.istore 5, 2) := by decide +kernel
theorem d_Mo_rename_12 : decode b_Mo_rename 12 = .ok (.iload 5, 2) := by decide +kernel
theorem d_Mo_rename_14 : decode b_Mo_rename 14 = .ok (.ifCond .ge 9, 3) := by decide +kernel
theorem d_Mo_rename_17 : decode b_Mo_rename 17 = .ok (.aload_n 0, 1) := by decide +kernel
theorem d_Mo_rename_18 : decode b_Mo_rename 18 = .ok (.iconst 1, 1) := by decide +kernel
theorem d_Mo_rename_19 : decode b_Mo_rename 19 = .ok (.invokevirtual 92, 3) := by decide +kernel
theorem d_Mo_rename_22 : decode b_Mo_rename 22 = .ok (.ireturn, 1) := by decide +kernel
theorem d_Mo_rename_23 : decode b_Mo_rename 23 = .ok (.aload_n 0, 1) := by decide +kernel
theorem d_Mo_rename_24 : decode b_Mo_rename 24 = .ok (.lload_n 2, 1) := by decide +kernel
theorem d_Mo_rename_25 : decode b_Mo_rename 25 = .ok (.iload 4, 2) := by decide +kernel
theorem d_Mo_rename_27 : decode b_Mo_rename 27 = .ok (.invokevirtual 305, 3) := by decide +kernel
theorem d_Mo_rename_30 : decode b_Mo_rename 30 = .ok (.ifCond .ne 9, 3) := by decide +kernel
theorem d_Mo_rename_33 : decode b_Mo_rename 33 = .ok (.aload_n 0, 1) := by decide +kernel
theorem d_Mo_rename_34 : decode b_Mo_rename 34 = .ok (.iconst 2, 1) := by decide +kernel
theorem d_Mo_rename_35 : decode b_Mo_rename 35 = .ok (.invokevirtual 92, 3) := by decide +kernel
theorem d_Mo_rename_38 : decode b_Mo_rename 38 = .ok (.ireturn, 1) := by decide +kernel
theorem d_Mo_rename_39 : decode b_Mo_rename 39 = .ok (.aload_n 0, 1) := by decide +kernel
theorem d_Mo_rename_40 : decode b_Mo_rename 40 = .ok (.aload_n 0, 1) := by decide +kernel
theorem d_Mo_rename_41 : decode b_Mo_rename 41 = .ok (.getfield 50, 3) := by decide +kernel
theorem d_Mo_rename_44 : decode b_Mo_rename 44 = .ok (.iload 5, 2) := by decide +kernel
theorem d_Mo_rename_46 : decode b_Mo_rename 46 = .ok (.iaload, 1) := by decide +kernel
theorem d_Mo_rename_47 : decode b_Mo_rename 47 = .ok (.invokevirtual 283, 3) := by decide +kernel
theorem d_Mo_rename_50 : decode b_Mo_rename 50 = .ok (.istore 6, 2) := by decide +kernel
theorem d_Mo_rename_52 : decode b_Mo_rename 52 = .ok (.aload_n 0, 1) := by decide +kernel
theorem d_Mo_rename_53 : decode b_Mo_rename 53 = .ok (.getfield 26, 3) := by decide +kernel
theorem d_Mo_rename_56 : decode b_Mo_rename 56 = .ok (.iload 5, 2) := by decide +kernel
theorem d_Mo_rename_58 : decode b_Mo_rename 58 = .ok (.iaload, 1) := by decide +kernel
theorem d_Mo_rename_59 : decode b_Mo_rename 59 = .ok (.aload_n 0, 1) := by decide +kernel
theorem d_Mo_rename_60 : decode b_Mo_rename 60 = .ok (.getfield 23, 3) := by decide +kernel
theorem d_Mo_rename_63 : decode b_Mo_rename 63 = .ok (.iload 5, 2) := by decide +kernel
theorem d_Mo_rename_65 : decode b_Mo_rename 65 = .ok (.iaload, 1) := by decide +kernel
theorem d_Mo_rename_66 : decode b_Mo_rename 66 = .ok (.isub, 1) := by decide +kernel
theorem d_Mo_rename_67 : decode b_Mo_rename 67 = .ok (.istore 7, 2) := by decide +kernel
theorem d_Mo_rename_69 : decode b_Mo_rename 69 = .ok (.aload_n 0, 1) := by decide +kernel
theorem d_Mo_rename_70 : decode b_Mo_rename 70 = .ok (.invokevirtual 277, 3) := by decide +kernel
theorem d_Mo_rename_73 : decode b_Mo_rename 73 = .ok (.istore 8, 2) := by decide +kernel
theorem d_Mo_rename_75 : decode b_Mo_rename 75 = .ok (.aload_n 0, 1) := by decide +kernel
theorem d_Mo_rename_76 : decode b_Mo_rename 76 = .ok (.getfield 85, 3) := by decide +kernel
theorem d_Mo_rename_79 : decode b_Mo_rename 79 = .ok (.iload 6, 2) := by decide +kernel
theorem d_Mo_rename_81 : decode b_Mo_rename 81 = .ok (.iload 4, 2) := by decide +kernel
theorem d_Mo_rename_83 : decode b_Mo_rename 83 = .ok (.iload 7, 2) := by decide +kernel
theorem d_Mo_rename_85 : decode b_Mo_rename 85 = .ok (.isub, 1) := by decide +kernel
theorem d_Mo_rename_86 : decode b_Mo_rename 86 = .ok (.imul, 1) := by decide +kernel
theorem d_Mo_rename_87 : decode b_Mo_rename 87 = .ok (.iadd, 1) := by decide +kernel
theorem d_Mo_rename_88 : decode b_Mo_rename 88 = .ok (.sipush 240, 3) := by decide +kernel
theorem d_Mo_rename_91 : decode b_Mo_rename 91 = .ok (.if_icmp .le 9, 3) := by decide +kernel
theorem d_Mo_rename_94 : decode b_Mo_rename 94 = .ok (.aload_n 0, 1) := by decide +kernel
theorem d_Mo_rename_95 : decode b_Mo_rename 95 = .ok (.iconst 3, 1) := by decide +kernel
theorem d_Mo_rename_96 : decode b_Mo_rename 96 = .ok (.invokevirtual 92, 3) := by decide +kernel
theorem d_Mo_rename_99 : decode b_Mo_rename 99 = .ok (.ireturn, 1) := by decide +kernel
theorem d_Mo_rename_100 : decode b_Mo_rename 100 = .ok (.aload_n 0, 1) := by decide +kernel
theorem d_Mo_rename_101 : decode b_Mo_rename 101 = .ok (.invokevirtual 309, 3) := by decide +kernel
theorem d_Mo_rename_104 : decode b_Mo_rename 104 = .ok (.aload_n 0, 1) := by decide +kernel
theorem d_Mo_rename_105 : decode b_Mo_rename 105 = .ok (.getfield 118, 3) := by decide +kernel
theorem d_Mo_rename_108 : decode b_Mo_rename 108 = .ok (.iconst 1, 1) := by decide +kernel
theorem d_Mo_rename_109 : decode b_Mo_rename 109 = .ok (.isub, 1) := by decide +kernel
theorem d_Mo_rename_110 : decode b_Mo_rename 110 = .ok (.istore 9, 2) := by decide +kernel
theorem d_Mo_rename_112 : decode b_Mo_rename 112 = .ok (.iload 9, 2) := by decide +kernel
theorem d_Mo_rename_114 : decode b_Mo_rename 114 = .ok (.ifCond .lt 42, 3) := by decide +kernel
theorem d_Mo_rename_117 : decode b_Mo_rename 117 = .ok (.aload_n 0, 1) := by decide +kernel
theorem d_Mo_rename_118 : decode b_Mo_rename 118 = .ok (.getfield 53, 3) := by decide +kernel
theorem d_Mo_rename_121 : decode b_Mo_rename 121 = .ok (.iload 9, 2) := by decide +kernel
theorem d_Mo_rename_123 : decode b_Mo_rename 123 = .ok (.iaload, 1) := by decide +kernel
theorem d_Mo_rename_124 : decode b_Mo_rename 124 = .ok (.aload_n 0, 1) := by decide +kernel
theorem d_Mo_rename_125 : decode b_Mo_rename 125 = .ok (.getfield 53, 3) := by decide +kernel
theorem d_Mo_rename_128 : decode b_Mo_rename 128 = .ok (.iload 5, 2) := by decide +kernel
theorem d_Mo_rename_130 : decode b_Mo_rename 130 = .ok (.iaload, 1) := by decide +kernel
theorem d_Mo_rename_131 : decode b_Mo_rename 131 = .ok (.if_icmp .ne 19, 3) := by decide +kernel
theorem d_Mo_rename_134 : decode b_Mo_rename 134 = .ok (.aload_n 0, 1) := by decide +kernel
theorem d_Mo_rename_135 : decode b_Mo_rename 135 = .ok (.aload_n 0, 1) := by decide +kernel
theorem d_Mo_rename_136 : decode b_Mo_rename 136 = .ok (.getfield 23, 3) := by decide +kernel
theorem d_Mo_rename_139 : decode b_Mo_rename 139 = .ok (.iload 9, 2) := by decide +kernel
theorem d_Mo_rename_141 : decode b_Mo_rename 141 = .ok (.iaload, 1) := by decide +kernel
theorem d_Mo_rename_142 : decode b_Mo_rename 142 = .ok (.iload 7, 2) := by decide +kernel
theorem d_Mo_rename_144 : decode b_Mo_rename 144 = .ok (.lload_n 2, 1) := by decide +kernel
theorem d_Mo_rename_145 : decode b_Mo_rename 145 = .ok (.iload 4, 2) := by decide +kernel
theorem d_Mo_rename_147 : decode b_Mo_rename 147 = .ok (.invokevirtual 312, 3) := by decide +kernel
theorem d_Mo_rename_150 : decode b_Mo_rename 150 = .ok (.iinc 9 (-1), 3) := by decide +kernel
theorem d_Mo_rename_153 : decode b_Mo_rename 153 = .ok (.goto (-41), 3) := by decide +kernel
theorem d_Mo_rename_156 : decode b_Mo_rename 156 = .ok (.aload_n 0, 1) := by decide +kernel
theorem d_Mo_rename_157 : decode b_Mo_rename 157 = .ok (.invokevirtual 274, 3) := by decide +kernel
theorem d_Mo_rename_160 : decode b_Mo_rename 160 = .ok (.aload_n 0, 1) := by decide +kernel
theorem d_Mo_rename_161 : decode b_Mo_rename 161 = .ok (.getfield 131, 3) := by decide +kernel
theorem d_Mo_rename_164 : decode b_Mo_rename 164 = .ok (.ifCond .ne 21, 3) := by decide +kernel
theorem d_Mo_rename_167 : decode b_Mo_rename 167 = .ok (.aload_n 0, 1) := by decide +kernel
theorem d_Mo_rename_168 : decode b_Mo_rename 168 = .ok (.invokevirtual 277, 3) := by decide +kernel
theorem d_Mo_rename_171 : decode b_Mo_rename 171 = .ok (.iload 8, 2) := by decide +kernel
theorem d_Mo_rename_173 : decode b_Mo_rename 173 = .ok (.if_icmp .ne 12, 3) := by decide +kernel
theorem d_Mo_rename_176 : decode b_Mo_rename 176 = .ok (.aload_n 0, 1) := by decide +kernel
theorem d_Mo_rename_177 : decode b_Mo_rename 177 = .ok (.iload 5, 2) := by decide +kernel
theorem d_Mo_rename_179 : decode b_Mo_rename 179 = .ok (.invokevirtual 316, 3) := by decide +kernel
theorem d_Mo_rename_182 : decode b_Mo_rename 182 = .ok (.ifCond .ne 8, 3) := by decide +kernel
theorem d_Mo_rename_185 : decode b_Mo_rename 185 = .ok (.aload_n 0, 1) := by decide +kernel
theorem d_Mo_rename_186 : decode b_Mo_rename 186 = .ok (.invokevirtual 319, 3) := by decide +kernel
theorem d_Mo_rename_189 : decode b_Mo_rename 189 = .ok (.ireturn, 1) := by decide +kernel
theorem d_Mo_rename_190 : decode b_Mo_rename 190 = .ok (.aload_n 0, 1) := by decide +kernel
theorem d_Mo_rename_191 : decode b_Mo_rename 191 = .ok (.iconst 0, 1) := by decide +kernel
theorem d_Mo_rename_192 : decode b_Mo_rename 192 = .ok (.putfield 81, 3) := by decide +kernel
theorem d_Mo_rename_195 : decode b_Mo_rename 195 = .ok (.iload 6, 2) := by decide +kernel
theorem d_Mo_rename_197 : decode b_Mo_rename 197 = .ok (.ireturn, 1) := by decide +kernel
abbrev y_Mo_count : MethodName := ⟨"LanguageServerModel", "count", "(I)I"⟩
abbrev b_Mo_count : ByteArray := prog_13_method_75_code
theorem d_Mo_count_0 : decode b_Mo_count 0 = .ok (.aload_n 0, 1) := by decide +kernel
theorem d_Mo_count_1 : decode b_Mo_count 1 = .ok (.iconst 0, 1) := by decide +kernel
theorem d_Mo_count_2 : decode b_Mo_count 2 = .ok (.putfield 81, 3) := by decide +kernel
theorem d_Mo_count_5 : decode b_Mo_count 5 = .ok (.aload_n 0, 1) := by decide +kernel
theorem d_Mo_count_6 : decode b_Mo_count 6 = .ok (.invokevirtual 274, 3) := by decide +kernel
theorem d_Mo_count_9 : decode b_Mo_count 9 = .ok (.iload_n 1, 1) := by decide +kernel
theorem d_Mo_count_10 : decode b_Mo_count 10 = .ok (.tableswitch 41 0 2 #[26, 31, 36], 26) := by decide +kernel
theorem d_Mo_count_36 : decode b_Mo_count 36 = .ok (.aload_n 0, 1) := by decide +kernel
theorem d_Mo_count_37 : decode b_Mo_count 37 = .ok (.getfield 180, 3) := by decide +kernel
theorem d_Mo_count_40 : decode b_Mo_count 40 = .ok (.ireturn, 1) := by decide +kernel
theorem d_Mo_count_41 : decode b_Mo_count 41 = .ok (.aload_n 0, 1) := by decide +kernel
theorem d_Mo_count_42 : decode b_Mo_count 42 = .ok (.getfield 118, 3) := by decide +kernel
theorem d_Mo_count_45 : decode b_Mo_count 45 = .ok (.ireturn, 1) := by decide +kernel
theorem d_Mo_count_46 : decode b_Mo_count 46 = .ok (.aload_n 0, 1) := by decide +kernel
theorem d_Mo_count_47 : decode b_Mo_count 47 = .ok (.getfield 85, 3) := by decide +kernel
theorem d_Mo_count_50 : decode b_Mo_count 50 = .ok (.ireturn, 1) := by decide +kernel
theorem d_Mo_count_51 : decode b_Mo_count 51 = .ok (.aload_n 0, 1) := by decide +kernel
theorem d_Mo_count_52 : decode b_Mo_count 52 = .ok (.iconst 1, 1) := by decide +kernel
theorem d_Mo_count_53 : decode b_Mo_count 53 = .ok (.invokevirtual 92, 3) := by decide +kernel
theorem d_Mo_count_56 : decode b_Mo_count 56 = .ok (.ireturn, 1) := by decide +kernel
