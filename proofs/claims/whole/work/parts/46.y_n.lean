abbrev y_Mo_parameters : MethodName := ⟨"LanguageServerModel", "parameters", "(II)V"⟩
abbrev b_Mo_parameters : ByteArray := prog_13_method_26_code
theorem d_Mo_parameters_0 : decode b_Mo_parameters 0 = .ok (.aload_n 0, 1) := by decide +kernel
theorem d_Mo_parameters_1 : decode b_Mo_parameters 1 = .ok (.bipush 41, 2) := by decide +kernel
theorem d_Mo_parameters_3 : decode b_Mo_parameters 3 = .ok (.invokevirtual 141, 3) := by decide +kernel
theorem d_Mo_parameters_6 : decode b_Mo_parameters 6 = .ok (.ifCond .eq 4, 3) := by decide +kernel
theorem d_Mo_parameters_9 : decode b_Mo_parameters 9 = .ok (.return_, 1) := by decide +kernel
theorem d_Mo_parameters_10 : decode b_Mo_parameters 10 = .ok (.aload_n 0, 1) := by decide +kernel
theorem d_Mo_parameters_11 : decode b_Mo_parameters 11 = .ok (.iload_n 1, 1) := by decide +kernel
theorem d_Mo_parameters_12 : decode b_Mo_parameters 12 = .ok (.iload_n 2, 1) := by decide +kernel
theorem d_Mo_parameters_13 : decode b_Mo_parameters 13 = .ok (.invokevirtual 167, 3) := by decide +kernel
theorem d_Mo_parameters_16 : decode b_Mo_parameters 16 = .ok (.aload_n 0, 1) := by decide +kernel
theorem d_Mo_parameters_17 : decode b_Mo_parameters 17 = .ok (.bipush 7, 2) := by decide +kernel
theorem d_Mo_parameters_19 : decode b_Mo_parameters 19 = .ok (.iload_n 1, 1) := by decide +kernel
theorem d_Mo_parameters_20 : decode b_Mo_parameters 20 = .ok (.iload_n 2, 1) := by decide +kernel
theorem d_Mo_parameters_21 : decode b_Mo_parameters 21 = .ok (.invokevirtual 144, 3) := by decide +kernel
theorem d_Mo_parameters_24 : decode b_Mo_parameters 24 = .ok (.aload_n 0, 1) := by decide +kernel
theorem d_Mo_parameters_25 : decode b_Mo_parameters 25 = .ok (.bipush 44, 2) := by decide +kernel
theorem d_Mo_parameters_27 : decode b_Mo_parameters 27 = .ok (.invokevirtual 141, 3) := by decide +kernel
theorem d_Mo_parameters_30 : decode b_Mo_parameters 30 = .ok (.ifCond .eq 20, 3) := by decide +kernel
theorem d_Mo_parameters_33 : decode b_Mo_parameters 33 = .ok (.aload_n 0, 1) := by decide +kernel
theorem d_Mo_parameters_34 : decode b_Mo_parameters 34 = .ok (.iload_n 1, 1) := by decide +kernel
theorem d_Mo_parameters_35 : decode b_Mo_parameters 35 = .ok (.iload_n 2, 1) := by decide +kernel
theorem d_Mo_parameters_36 : decode b_Mo_parameters 36 = .ok (.invokevirtual 167, 3) := by decide +kernel
theorem d_Mo_parameters_39 : decode b_Mo_parameters 39 = .ok (.aload_n 0, 1) := by decide +kernel
theorem d_Mo_parameters_40 : decode b_Mo_parameters 40 = .ok (.bipush 7, 2) := by decide +kernel
theorem d_Mo_parameters_42 : decode b_Mo_parameters 42 = .ok (.iload_n 1, 1) := by decide +kernel
theorem d_Mo_parameters_43 : decode b_Mo_parameters 43 = .ok (.iload_n 2, 1) := by decide +kernel
theorem d_Mo_parameters_44 : decode b_Mo_parameters 44 = .ok (.invokevirtual 144, 3) := by decide +kernel
theorem d_Mo_parameters_47 : decode b_Mo_parameters 47 = .ok (.goto (-23), 3) := by decide +kernel
theorem d_Mo_parameters_50 : decode b_Mo_parameters 50 = .ok (.aload_n 0, 1) := by decide +kernel
theorem d_Mo_parameters_51 : decode b_Mo_parameters 51 = .ok (.bipush 41, 2) := by decide +kernel
theorem d_Mo_parameters_53 : decode b_Mo_parameters 53 = .ok (.invokevirtual 163, 3) := by decide +kernel
theorem d_Mo_parameters_56 : decode b_Mo_parameters 56 = .ok (.return_, 1) := by decide +kernel
abbrev y_Mo_readMember : MethodName := ⟨"LanguageServerModel", "readMember", "(I)V"⟩
abbrev b_Mo_readMember : ByteArray := prog_13_method_27_code
theorem d_Mo_readMember_0 : decode b_Mo_readMember 0 = .ok (.aload_n 0, 1) := by decide +kernel
theorem d_Mo_readMember_1 : decode b_Mo_readMember 1 = .ok (.iload_n 1, 1) := by decide +kernel
theorem d_Mo_readMember_2 : decode b_Mo_readMember 2 = .ok (.iconst (-1), 1) := by decide +kernel
theorem d_Mo_readMember_3 : decode b_Mo_readMember 3 = .ok (.invokevirtual 167, 3) := by decide +kernel
theorem d_Mo_readMember_6 : decode b_Mo_readMember 6 = .ok (.aload_n 0, 1) := by decide +kernel
theorem d_Mo_readMember_7 : decode b_Mo_readMember 7 = .ok (.getfield 135, 3) := by decide +kernel
theorem d_Mo_readMember_10 : decode b_Mo_readMember 10 = .ok (.istore_n 2, 1) := by decide +kernel
theorem d_Mo_readMember_11 : decode b_Mo_readMember 11 = .ok (.aload_n 0, 1) := by decide +kernel
theorem d_Mo_readMember_12 : decode b_Mo_readMember 12 = .ok (.iconst 5, 1) := by decide +kernel
theorem d_Mo_readMember_13 : decode b_Mo_readMember 13 = .ok (.iload_n 1, 1) := by decide +kernel
theorem d_Mo_readMember_14 : decode b_Mo_readMember 14 = .ok (.iconst (-1), 1) := by decide +kernel
theorem d_Mo_readMember_15 : decode b_Mo_readMember 15 = .ok (.invokevirtual 144, 3) := by decide +kernel
theorem d_Mo_readMember_18 : decode b_Mo_readMember 18 = .ok (.aload_n 0, 1) := by decide +kernel
theorem d_Mo_readMember_19 : decode b_Mo_readMember 19 = .ok (.getfield 131, 3) := by decide +kernel
theorem d_Mo_readMember_22 : decode b_Mo_readMember 22 = .ok (.ifCond .ne 12, 3) := by decide +kernel
theorem d_Mo_readMember_25 : decode b_Mo_readMember 25 = .ok (.aload_n 0, 1) := by decide +kernel
theorem d_Mo_readMember_26 : decode b_Mo_readMember 26 = .ok (.bipush 59, 2) := by decide +kernel
theorem d_Mo_readMember_28 : decode b_Mo_readMember 28 = .ok (.invokevirtual 141, 3) := by decide +kernel
theorem d_Mo_readMember_31 : decode b_Mo_readMember 31 = .ok (.ifCond .eq 4, 3) := by decide +kernel
theorem d_Mo_readMember_34 : decode b_Mo_readMember 34 = .ok (.return_, 1) := by decide +kernel
theorem d_Mo_readMember_35 : decode b_Mo_readMember 35 = .ok (.aload_n 0, 1) := by decide +kernel
theorem d_Mo_readMember_36 : decode b_Mo_readMember 36 = .ok (.bipush 40, 2) := by decide +kernel
theorem d_Mo_readMember_38 : decode b_Mo_readMember 38 = .ok (.invokevirtual 138, 3) := by decide +kernel
theorem d_Mo_readMember_41 : decode b_Mo_readMember 41 = .ok (.ifCond .ne 9, 3) := by decide +kernel
theorem d_Mo_readMember_44 : decode b_Mo_readMember 44 = .ok (.aload_n 0, 1) := by decide +kernel
theorem d_Mo_readMember_45 : decode b_Mo_readMember 45 = .ok (.iconst 1, 1) := by decide +kernel
theorem d_Mo_readMember_46 : decode b_Mo_readMember 46 = .ok (.putfield 131, 3) := by decide +kernel
theorem d_Mo_readMember_49 : decode b_Mo_readMember 49 = .ok (.return_, 1) := by decide +kernel
theorem d_Mo_readMember_50 : decode b_Mo_readMember 50 = .ok (.aload_n 0, 1) := by decide +kernel
theorem d_Mo_readMember_51 : decode b_Mo_readMember 51 = .ok (.getfield 29, 3) := by decide +kernel
theorem d_Mo_readMember_54 : decode b_Mo_readMember 54 = .ok (.iload_n 2, 1) := by decide +kernel
theorem d_Mo_readMember_55 : decode b_Mo_readMember 55 = .ok (.bipush 6, 2) := by decide +kernel
theorem d_Mo_readMember_57 : decode b_Mo_readMember 57 = .ok (.iastore, 1) := by decide +kernel
theorem d_Mo_readMember_58 : decode b_Mo_readMember 58 = .ok (.aload_n 0, 1) := by decide +kernel
theorem d_Mo_readMember_59 : decode b_Mo_readMember 59 = .ok (.dup, 1) := by decide +kernel
theorem d_Mo_readMember_60 : decode b_Mo_readMember 60 = .ok (.getfield 135, 3) := by decide +kernel
theorem d_Mo_readMember_63 : decode b_Mo_readMember 63 = .ok (.iconst 1, 1) := by decide +kernel
theorem d_Mo_readMember_64 : decode b_Mo_readMember 64 = .ok (.iadd, 1) := by decide +kernel
theorem d_Mo_readMember_65 : decode b_Mo_readMember 65 = .ok (.putfield 135, 3) := by decide +kernel
theorem d_Mo_readMember_68 : decode b_Mo_readMember 68 = .ok (.aload_n 0, 1) := by decide +kernel
theorem d_Mo_readMember_69 : decode b_Mo_readMember 69 = .ok (.iload_n 1, 1) := by decide +kernel
theorem d_Mo_readMember_70 : decode b_Mo_readMember 70 = .ok (.iload_n 2, 1) := by decide +kernel
theorem d_Mo_readMember_71 : decode b_Mo_readMember 71 = .ok (.invokevirtual 174, 3) := by decide +kernel
theorem d_Mo_readMember_74 : decode b_Mo_readMember 74 = .ok (.aload_n 0, 1) := by decide +kernel
theorem d_Mo_readMember_75 : decode b_Mo_readMember 75 = .ok (.bipush 123, 2) := by decide +kernel
theorem d_Mo_readMember_77 : decode b_Mo_readMember 77 = .ok (.invokevirtual 163, 3) := by decide +kernel
theorem d_Mo_readMember_80 : decode b_Mo_readMember 80 = .ok (.aload_n 0, 1) := by decide +kernel
theorem d_Mo_readMember_81 : decode b_Mo_readMember 81 = .ok (.getfield 131, 3) := by decide +kernel
theorem d_Mo_readMember_84 : decode b_Mo_readMember 84 = .ok (.ifCond .ne 21, 3) := by decide +kernel
theorem d_Mo_readMember_87 : decode b_Mo_readMember 87 = .ok (.aload_n 0, 1) := by decide +kernel
theorem d_Mo_readMember_88 : decode b_Mo_readMember 88 = .ok (.bipush 125, 2) := by decide +kernel
theorem d_Mo_readMember_90 : decode b_Mo_readMember 90 = .ok (.invokevirtual 138, 3) := by decide +kernel
theorem d_Mo_readMember_93 : decode b_Mo_readMember 93 = .ok (.ifCond .ne 12, 3) := by decide +kernel
theorem d_Mo_readMember_96 : decode b_Mo_readMember 96 = .ok (.aload_n 0, 1) := by decide +kernel
theorem d_Mo_readMember_97 : decode b_Mo_readMember 97 = .ok (.iload_n 1, 1) := by decide +kernel
theorem d_Mo_readMember_98 : decode b_Mo_readMember 98 = .ok (.iload_n 2, 1) := by decide +kernel
theorem d_Mo_readMember_99 : decode b_Mo_readMember 99 = .ok (.invokevirtual 177, 3) := by decide +kernel
theorem d_Mo_readMember_102 : decode b_Mo_readMember 102 = .ok (.goto (-22), 3) := by decide +kernel
theorem d_Mo_readMember_105 : decode b_Mo_readMember 105 = .ok (.aload_n 0, 1) := by decide +kernel
theorem d_Mo_readMember_106 : decode b_Mo_readMember 106 = .ok (.bipush 125, 2) := by decide +kernel
theorem d_Mo_readMember_108 : decode b_Mo_readMember 108 = .ok (.invokevirtual 163, 3) := by decide +kernel
theorem d_Mo_readMember_111 : decode b_Mo_readMember 111 = .ok (.return_, 1) := by decide +kernel
abbrev y_Mo_file : MethodName := ⟨"LanguageServerModel", "file", "()V"⟩
abbrev b_Mo_file : ByteArray := prog_13_method_28_code
theorem d_Mo_file_0 : decode b_Mo_file 0 = .ok (.aload_n 0, 1) := by decide +kernel
theorem d_Mo_file_1 : decode b_Mo_file 1 = .ok (.iconst 0, 1) := by decide +kernel
theorem d_Mo_file_2 : decode b_Mo_file 2 = .ok (.putfield 180, 3) := by decide +kernel
theorem d_Mo_file_5 : decode b_Mo_file 5 = .ok (.aload_n 0, 1) := by decide +kernel
theorem d_Mo_file_6 : decode b_Mo_file 6 = .ok (.getfield 131, 3) := by decide +kernel
theorem d_Mo_file_9 : decode b_Mo_file 9 = .ok (.ifCond .ne 136, 3) := by decide +kernel
theorem d_Mo_file_12 : decode b_Mo_file 12 = .ok (.aload_n 0, 1) := by decide +kernel
theorem d_Mo_file_13 : decode b_Mo_file 13 = .ok (.getfield 16, 3) := by decide +kernel
theorem d_Mo_file_16 : decode b_Mo_file 16 = .ok (.aload_n 0, 1) := by decide +kernel
theorem d_Mo_file_17 : decode b_Mo_file 17 = .ok (.getfield 135, 3) := by decide +kernel
theorem d_Mo_file_20 : decode b_Mo_file 20 = .ok (.iaload, 1) := by decide +kernel
theorem d_Mo_file_21 : decode b_Mo_file 21 = .ok (.ifCond .eq 124, 3) := by decide +kernel
theorem d_Mo_file_24 : decode b_Mo_file 24 = .ok (.aload_n 0, 1) := by decide +kernel
theorem d_Mo_file_25 : decode b_Mo_file 25 = .ok (.iconst 4, 1) := by decide +kernel
theorem d_Mo_file_26 : decode b_Mo_file 26 = .ok (.invokevirtual 163, 3) := by decide +kernel
theorem d_Mo_file_29 : decode b_Mo_file 29 = .ok (.aload_n 0, 1) := by decide +kernel
theorem d_Mo_file_30 : decode b_Mo_file 30 = .ok (.getfield 41, 3) := by decide +kernel
theorem d_Mo_file_33 : decode b_Mo_file 33 = .ok (.aload_n 0, 1) := by decide +kernel
theorem d_Mo_file_34 : decode b_Mo_file 34 = .ok (.getfield 180, 3) := by decide +kernel
theorem d_Mo_file_37 : decode b_Mo_file 37 = .ok (.aload_n 0, 1) := by decide +kernel
theorem d_Mo_file_38 : decode b_Mo_file 38 = .ok (.getfield 135, 3) := by decide +kernel
theorem d_Mo_file_41 : decode b_Mo_file 41 = .ok (.iastore, 1) := by decide +kernel
theorem d_Mo_file_42 : decode b_Mo_file 42 = .ok (.aload_n 0, 1) := by decide +kernel
theorem d_Mo_file_43 : decode b_Mo_file 43 = .ok (.iconst 1, 1) := by decide +kernel
theorem d_Mo_file_44 : decode b_Mo_file 44 = .ok (.aload_n 0, 1) := by decide +kernel
theorem d_Mo_file_45 : decode b_Mo_file 45 = .ok (.getfield 180, 3) := by decide +kernel
theorem d_Mo_file_48 : decode b_Mo_file 48 = .ok (.iconst (-1), 1) := by decide +kernel
theorem d_Mo_file_49 : decode b_Mo_file 49 = .ok (.invokevirtual 144, 3) := by decide +kernel
theorem d_Mo_file_52 : decode b_Mo_file 52 = .ok (.aload_n 0, 1) := by decide +kernel
theorem d_Mo_file_53 : decode b_Mo_file 53 = .ok (.getfield 44, 3) := by decide +kernel
theorem d_Mo_file_56 : decode b_Mo_file 56 = .ok (.aload_n 0, 1) := by decide +kernel
theorem d_Mo_file_57 : decode b_Mo_file 57 = .ok (.getfield 180, 3) := by decide +kernel
theorem d_Mo_file_60 : decode b_Mo_file 60 = .ok (.iconst (-1), 1) := by decide +kernel
theorem d_Mo_file_61 : decode b_Mo_file 61 = .ok (.iastore, 1) := by decide +kernel
theorem d_Mo_file_62 : decode b_Mo_file 62 = .ok (.aload_n 0, 1) := by decide +kernel
theorem d_Mo_file_63 : decode b_Mo_file 63 = .ok (.iconst 5, 1) := by decide +kernel
theorem d_Mo_file_64 : decode b_Mo_file 64 = .ok (.invokevirtual 141, 3) := by decide +kernel
theorem d_Mo_file_67 : decode b_Mo_file 67 = .ok (.ifCond .eq 26, 3) := by decide +kernel
theorem d_Mo_file_70 : decode b_Mo_file 70 = .ok (.aload_n 0, 1) := by decide +kernel
theorem d_Mo_file_71 : decode b_Mo_file 71 = .ok (.getfield 44, 3) := by decide +kernel
theorem d_Mo_file_74 : decode b_Mo_file 74 = .ok (.aload_n 0, 1) := by decide +kernel
theorem d_Mo_file_75 : decode b_Mo_file 75 = .ok (.getfield 180, 3) := by decide +kernel
theorem d_Mo_file_78 : decode b_Mo_file 78 = .ok (.aload_n 0, 1) := by decide +kernel
theorem d_Mo_file_79 : decode b_Mo_file 79 = .ok (.getfield 135, 3) := by decide +kernel
theorem d_Mo_file_82 : decode b_Mo_file 82 = .ok (.iastore, 1) := by decide +kernel
theorem d_Mo_file_83 : decode b_Mo_file 83 = .ok (.aload_n 0, 1) := by decide +kernel
theorem d_Mo_file_84 : decode b_Mo_file 84 = .ok (.iconst 3, 1) := by decide +kernel
theorem d_Mo_file_85 : decode b_Mo_file 85 = .ok (.aload_n 0, 1) := by decide +kernel
theorem d_Mo_file_86 : decode b_Mo_file 86 = .ok (.getfield 180, 3) := by decide +kernel
theorem d_Mo_file_89 : decode b_Mo_file 89 = .ok (.iconst (-1), 1) := by decide +kernel
theorem d_Mo_file_90 : decode b_Mo_file 90 = .ok (.invokevirtual 144, 3) := by decide +kernel
theorem d_Mo_file_93 : decode b_Mo_file 93 = .ok (.aload_n 0, 1) := by decide +kernel
theorem d_Mo_file_94 : decode b_Mo_file 94 = .ok (.bipush 123, 2) := by decide +kernel
theorem d_Mo_file_96 : decode b_Mo_file 96 = .ok (.invokevirtual 163, 3) := by decide +kernel
theorem d_Mo_file_99 : decode b_Mo_file 99 = .ok (.aload_n 0, 1) := by decide +kernel
theorem d_Mo_file_100 : decode b_Mo_file 100 = .ok (.getfield 131, 3) := by decide +kernel
theorem d_Mo_file_103 : decode b_Mo_file 103 = .ok (.ifCond .ne 23, 3) := by decide +kernel
theorem d_Mo_file_106 : decode b_Mo_file 106 = .ok (.aload_n 0, 1) := by decide +kernel
theorem d_Mo_file_107 : decode b_Mo_file 107 = .ok (.bipush 125, 2) := by decide +kernel
theorem d_Mo_file_109 : decode b_Mo_file 109 = .ok (.invokevirtual 138, 3) := by decide +kernel
theorem d_Mo_file_112 : decode b_Mo_file 112 = .ok (.ifCond .ne 14, 3) := by decide +kernel
theorem d_Mo_file_115 : decode b_Mo_file 115 = .ok (.aload_n 0, 1) := by decide +kernel
theorem d_Mo_file_116 : decode b_Mo_file 116 = .ok (.aload_n 0, 1) := by decide +kernel
theorem d_Mo_file_117 : decode b_Mo_file 117 = .ok (.getfield 180, 3) := by decide +kernel
theorem d_Mo_file_120 : decode b_Mo_file 120 = .ok (.invokevirtual 183, 3) := by decide +kernel
theorem d_Mo_file_123 : decode b_Mo_file 123 = .ok (.goto (-24), 3) := by decide +kernel
theorem d_Mo_file_126 : decode b_Mo_file 126 = .ok (.aload_n 0, 1) := by decide +kernel
theorem d_Mo_file_127 : decode b_Mo_file 127 = .ok (.bipush 125, 2) := by decide +kernel
theorem d_Mo_file_129 : decode b_Mo_file 129 = .ok (.invokevirtual 163, 3) := by decide +kernel
theorem d_Mo_file_132 : decode b_Mo_file 132 = .ok (.aload_n 0, 1) := by decide +kernel
theorem d_Mo_file_133 : decode b_Mo_file 133 = .ok (.dup, 1) := by decide +kernel
theorem d_Mo_file_134 : decode b_Mo_file 134 = .ok (.getfield 180, 3) := by decide +kernel
theorem d_Mo_file_137 : decode b_Mo_file 137 = .ok (.iconst 1, 1) := by decide +kernel
theorem d_Mo_file_138 : decode b_Mo_file 138 = .ok (.iadd, 1) := by decide +kernel
theorem d_Mo_file_139 : decode b_Mo_file 139 = .ok (.putfield 180, 3) := by decide +kernel
theorem d_Mo_file_142 : decode b_Mo_file 142 = .ok (.goto (-137), 3) := by decide +kernel
theorem d_Mo_file_145 : decode b_Mo_file 145 = .ok (.return_, 1) := by decide +kernel
abbrev y_Mo_classOf : MethodName := ⟨"LanguageServerModel", "classOf", "(I)I"⟩
abbrev b_Mo_classOf : ByteArray := prog_13_method_29_code
theorem d_Mo_classOf_0 : decode b_Mo_classOf 0 = .ok (.iconst 0, 1) := by decide +kernel
theorem d_Mo_classOf_1 : decode b_Mo_classOf 1 = .ok (.istore_n 2, 1) := by decide +kernel
theorem d_Mo_classOf_2 : decode b_Mo_classOf 2 = .ok (.iload_n 2, 1) := by decide +kernel
theorem d_Mo_classOf_3 : decode b_Mo_classOf 3 = .ok (.aload_n 0, 1) := by decide +kernel
theorem d_Mo_classOf_4 : decode b_Mo_classOf 4 = .ok (.getfield 180, 3) := by decide +kernel
theorem d_Mo_classOf_7 : decode b_Mo_classOf 7 = .ok (.if_icmp .ge 32, 3) := by decide +kernel
theorem d_Mo_classOf_10 : decode b_Mo_classOf 10 = .ok (.aload_n 0, 1) := by decide +kernel
theorem d_Mo_classOf_11 : decode b_Mo_classOf 11 = .ok (.getfield 19, 3) := by decide +kernel
theorem d_Mo_classOf_14 : decode b_Mo_classOf 14 = .ok (.aload_n 0, 1) := by decide +kernel
theorem d_Mo_classOf_15 : decode b_Mo_classOf 15 = .ok (.getfield 41, 3) := by decide +kernel
theorem d_Mo_classOf_18 : decode b_Mo_classOf 18 = .ok (.iload_n 2, 1) := by decide +kernel
theorem d_Mo_classOf_19 : decode b_Mo_classOf 19 = .ok (.iaload, 1) := by decide +kernel
theorem d_Mo_classOf_20 : decode b_Mo_classOf 20 = .ok (.laload, 1) := by decide +kernel
theorem d_Mo_classOf_21 : decode b_Mo_classOf 21 = .ok (.aload_n 0, 1) := by decide +kernel
theorem d_Mo_classOf_22 : decode b_Mo_classOf 22 = .ok (.getfield 19, 3) := by decide +kernel
theorem d_Mo_classOf_25 : decode b_Mo_classOf 25 = .ok (.iload_n 1, 1) := by decide +kernel
theorem d_Mo_classOf_26 : decode b_Mo_classOf 26 = .ok (.laload, 1) := by decide +kernel
theorem d_Mo_classOf_27 : decode b_Mo_classOf 27 = .ok (.lcmp, 1) := by decide +kernel
theorem d_Mo_classOf_28 : decode b_Mo_classOf 28 = .ok (.ifCond .ne 5, 3) := by decide +kernel
theorem d_Mo_classOf_31 : decode b_Mo_classOf 31 = .ok (.iload_n 2, 1) := by decide +kernel
theorem d_Mo_classOf_32 : decode b_Mo_classOf 32 = .ok (.ireturn, 1) := by decide +kernel
theorem d_Mo_classOf_33 : decode b_Mo_classOf 33 = .ok (.iinc 2 1, 3) := by decide +kernel
theorem d_Mo_classOf_36 : decode b_Mo_classOf 36 = .ok (.goto (-34), 3) := by decide +kernel
theorem d_Mo_classOf_39 : decode b_Mo_classOf 39 = .ok (.bipush (-2), 2) := by decide +kernel
theorem d_Mo_classOf_41 : decode b_Mo_classOf 41 = .ok (.ireturn, 1) := by decide +kernel
abbrev y_Mo_above : MethodName := ⟨"LanguageServerModel", "above", "(I)I"⟩
abbrev b_Mo_above : ByteArray := prog_13_method_30_code
theorem d_Mo_above_0 : decode b_Mo_above 0 = .ok (.aload_n 0, 1) := by decide +kernel
theorem d_Mo_above_1 : decode b_Mo_above 1 = .ok (.getfield 44, 3) := by decide +kernel
theorem d_Mo_above_4 : decode b_Mo_above 4 = .ok (.iload_n 1, 1) := by decide +kernel
theorem d_Mo_above_5 : decode b_Mo_above 5 = .ok (.iaload, 1) := by decide +kernel
theorem d_Mo_above_6 : decode b_Mo_above 6 = .ok (.ifCond .ge 5, 3) := by decide +kernel
theorem d_Mo_above_9 : decode b_Mo_above 9 = .ok (.iconst (-1), 1) := by decide +kernel
theorem d_Mo_above_10 : decode b_Mo_above 10 = .ok (.ireturn, 1) := by decide +kernel
theorem d_Mo_above_11 : decode b_Mo_above 11 = .ok (.aload_n 0, 1) := by decide +kernel
theorem d_Mo_above_12 : decode b_Mo_above 12 = .ok (.aload_n 0, 1) := by decide +kernel
theorem d_Mo_above_13 : decode b_Mo_above 13 = .ok (.getfield 44, 3) := by decide +kernel
theorem d_Mo_above_16 : decode b_Mo_above 16 = .ok (.iload_n 1, 1) := by decide +kernel
theorem d_Mo_above_17 : decode b_Mo_above 17 = .ok (.iaload, 1) := by decide +kernel
theorem d_Mo_above_18 : decode b_Mo_above 18 = .ok (.invokevirtual 186, 3) := by decide +kernel
theorem d_Mo_above_21 : decode b_Mo_above 21 = .ok (.istore_n 2, 1) := by decide +kernel
theorem d_Mo_above_22 : decode b_Mo_above 22 = .ok (.iload_n 2, 1) := by decide +kernel
theorem d_Mo_above_23 : decode b_Mo_above 23 = .ok (.bipush (-2), 2) := by decide +kernel
theorem d_Mo_above_25 : decode b_Mo_above 25 = .ok (.if_icmp .ne 7, 3) := by decide +kernel
theorem d_Mo_above_28 : decode b_Mo_above 28 = .ok (.iconst (-1), 1) := by decide +kernel
theorem d_Mo_above_29 : decode b_Mo_above 29 = .ok (.goto 4, 3) := by decide +kernel
theorem d_Mo_above_32 : decode b_Mo_above 32 = .ok (.iload_n 2, 1) := by decide +kernel
theorem d_Mo_above_33 : decode b_Mo_above 33 = .ok (.ireturn, 1) := by decide +kernel
abbrev y_Mo_circles : MethodName := ⟨"LanguageServerModel", "circles", "(I)Z"⟩
abbrev b_Mo_circles : ByteArray := prog_13_method_31_code
theorem d_Mo_circles_0 : decode b_Mo_circles 0 = .ok (.aload_n 0, 1) := by decide +kernel
theorem d_Mo_circles_1 : decode b_Mo_circles 1 = .ok (.iload_n 1, 1) := by decide +kernel
theorem d_Mo_circles_2 : decode b_Mo_circles 2 = .ok (.invokevirtual 189, 3) := by decide +kernel
theorem d_Mo_circles_5 : decode b_Mo_circles 5 = .ok (.istore_n 2, 1) := by decide +kernel
theorem d_Mo_circles_6 : decode b_Mo_circles 6 = .ok (.iconst 0, 1) := by decide +kernel
theorem d_Mo_circles_7 : decode b_Mo_circles 7 = .ok (.istore_n 3, 1) := by decide +kernel
theorem d_Mo_circles_8 : decode b_Mo_circles 8 = .ok (.iload_n 3, 1) := by decide +kernel
theorem d_Mo_circles_9 : decode b_Mo_circles 9 = .ok (.bipush 40, 2) := by decide +kernel
theorem d_Mo_circles_11 : decode b_Mo_circles 11 = .ok (.if_icmp .ge 26, 3) := by decide +kernel
theorem d_Mo_circles_14 : decode b_Mo_circles 14 = .ok (.iload_n 2, 1) := by decide +kernel
theorem d_Mo_circles_15 : decode b_Mo_circles 15 = .ok (.ifCond .lt 22, 3) := by decide +kernel
theorem d_Mo_circles_18 : decode b_Mo_circles 18 = .ok (.iload_n 2, 1) := by decide +kernel
theorem d_Mo_circles_19 : decode b_Mo_circles 19 = .ok (.iload_n 1, 1) := by decide +kernel
theorem d_Mo_circles_20 : decode b_Mo_circles 20 = .ok (.if_icmp .ne 5, 3) := by decide +kernel
theorem d_Mo_circles_23 : decode b_Mo_circles 23 = .ok (.iconst 1, 1) := by decide +kernel
theorem d_Mo_circles_24 : decode b_Mo_circles 24 = .ok (.ireturn, 1) := by decide +kernel
theorem d_Mo_circles_25 : decode b_Mo_circles 25 = .ok (.aload_n 0, 1) := by decide +kernel
theorem d_Mo_circles_26 : decode b_Mo_circles 26 = .ok (.iload_n 2, 1) := by decide +kernel
theorem d_Mo_circles_27 : decode b_Mo_circles 27 = .ok (.invokevirtual 189, 3) := by decide +kernel
theorem d_Mo_circles_30 : decode b_Mo_circles 30 = .ok (.istore_n 2, 1) := by decide +kernel
theorem d_Mo_circles_31 : decode b_Mo_circles 31 = .ok (.iinc 3 1, 3) := by decide +kernel
theorem d_Mo_circles_34 : decode b_Mo_circles 34 = .ok (.goto (-26), 3) := by decide +kernel
theorem d_Mo_circles_37 : decode b_Mo_circles 37 = .ok (.iconst 0, 1) := by decide +kernel
theorem d_Mo_circles_38 : decode b_Mo_circles 38 = .ok (.ireturn, 1) := by decide +kernel
abbrev y_Mo_parent : MethodName := ⟨"LanguageServerModel", "parent", "(I)I"⟩
abbrev b_Mo_parent : ByteArray := prog_13_method_32_code
theorem d_Mo_parent_0 : decode b_Mo_parent 0 = .ok (.aload_n 0, 1) := by decide +kernel
theorem d_Mo_parent_1 : decode b_Mo_parent 1 = .ok (.iload_n 1, 1) := by decide +kernel
theorem d_Mo_parent_2 : decode b_Mo_parent 2 = .ok (.invokevirtual 192, 3) := by decide +kernel
theorem d_Mo_parent_5 : decode b_Mo_parent 5 = .ok (.ifCond .eq 7, 3) := by decide +kernel
theorem d_Mo_parent_8 : decode b_Mo_parent 8 = .ok (.iconst (-1), 1) := by decide +kernel
theorem d_Mo_parent_9 : decode b_Mo_parent 9 = .ok (.goto 8, 3) := by decide +kernel
theorem d_Mo_parent_12 : decode b_Mo_parent 12 = .ok (.aload_n 0, 1) := by decide +kernel
theorem d_Mo_parent_13 : decode b_Mo_parent 13 = .ok (.iload_n 1, 1) := by decide +kernel
theorem d_Mo_parent_14 : decode b_Mo_parent 14 = .ok (.invokevirtual 189, 3) := by decide +kernel
theorem d_Mo_parent_17 : decode b_Mo_parent 17 = .ok (.ireturn, 1) := by decide +kernel
abbrev y_Mo_declares : MethodName := ⟨"LanguageServerModel", "declares", "(I)Z"⟩
abbrev b_Mo_declares : ByteArray := prog_13_method_33_code
theorem d_Mo_declares_0 : decode b_Mo_declares 0 = .ok (.iload_n 0, 1) := by decide +kernel
theorem d_Mo_declares_1 : decode b_Mo_declares 1 = .ok (.iconst 5, 1) := by decide +kernel
theorem d_Mo_declares_2 : decode b_Mo_declares 2 = .ok (.if_icmp .eq 9, 3) := by decide +kernel
theorem d_Mo_declares_5 : decode b_Mo_declares 5 = .ok (.iload_n 0, 1) := by decide +kernel
theorem d_Mo_declares_6 : decode b_Mo_declares 6 = .ok (.bipush 6, 2) := by decide +kernel
theorem d_Mo_declares_8 : decode b_Mo_declares 8 = .ok (.if_icmp .ne 7, 3) := by decide +kernel
theorem d_Mo_declares_11 : decode b_Mo_declares 11 = .ok (.iconst 1, 1) := by decide +kernel
theorem d_Mo_declares_12 : decode b_Mo_declares 12 = .ok (.goto 4, 3) := by decide +kernel
theorem d_Mo_declares_15 : decode b_Mo_declares 15 = .ok (.iconst 0, 1) := by decide +kernel
theorem d_Mo_declares_16 : decode b_Mo_declares 16 = .ok (.ireturn, 1) := by decide +kernel
abbrev y_Mo_find : MethodName := ⟨"LanguageServerModel", "find", "(IJ)I"⟩
abbrev b_Mo_find : ByteArray := prog_13_method_34_code
theorem d_Mo_find_0 : decode b_Mo_find 0 = .ok (.iload_n 1, 1) := by decide +kernel
theorem d_Mo_find_1 : decode b_Mo_find 1 = .ok (.istore 4, 2) := by decide +kernel
theorem d_Mo_find_3 : decode b_Mo_find 3 = .ok (.iload 4, 2) := by decide +kernel
theorem d_Mo_find_5 : decode b_Mo_find 5 = .ok (.ifCond .lt 72, 3) := by decide +kernel
theorem d_Mo_find_8 : decode b_Mo_find 8 = .ok (.iconst 0, 1) := by decide +kernel
theorem d_Mo_find_9 : decode b_Mo_find 9 = .ok (.istore 5, 2) := by decide +kernel
theorem d_Mo_find_11 : decode b_Mo_find 11 = .ok (.iload 5, 2) := by decide +kernel
theorem d_Mo_find_13 : decode b_Mo_find 13 = .ok (.aload_n 0, 1) := by decide +kernel
theorem d_Mo_find_14 : decode b_Mo_find 14 = .ok (.getfield 118, 3) := by decide +kernel
theorem d_Mo_find_17 : decode b_Mo_find 17 = .ok (.if_icmp .ge 49, 3) := by decide +kernel
theorem d_Mo_find_20 : decode b_Mo_find 20 = .ok (.aload_n 0, 1) := by decide +kernel
theorem d_Mo_find_21 : decode b_Mo_find 21 = .ok (.getfield 29, 3) := by decide +kernel
theorem d_Mo_find_24 : decode b_Mo_find 24 = .ok (.iload 5, 2) := by decide +kernel
theorem d_Mo_find_26 : decode b_Mo_find 26 = .ok (.iaload, 1) := by decide +kernel
theorem d_Mo_find_27 : decode b_Mo_find 27 = .ok (.invokestatic 195, 3) := by decide +kernel
theorem d_Mo_find_30 : decode b_Mo_find 30 = .ok (.ifCond .eq 30, 3) := by decide +kernel
theorem d_Mo_find_33 : decode b_Mo_find 33 = .ok (.aload_n 0, 1) := by decide +kernel
theorem d_Mo_find_34 : decode b_Mo_find 34 = .ok (.getfield 32, 3) := by decide +kernel
theorem d_Mo_find_37 : decode b_Mo_find 37 = .ok (.iload 5, 2) := by decide +kernel
theorem d_Mo_find_39 : decode b_Mo_find 39 = .ok (.iaload, 1) := by decide +kernel
theorem d_Mo_find_40 : decode b_Mo_find 40 = .ok (.iload 4, 2) := by decide +kernel
theorem d_Mo_find_42 : decode b_Mo_find 42 = .ok (.if_icmp .ne 18, 3) := by decide +kernel
theorem d_Mo_find_45 : decode b_Mo_find 45 = .ok (.aload_n 0, 1) := by decide +kernel
theorem d_Mo_find_46 : decode b_Mo_find 46 = .ok (.getfield 19, 3) := by decide +kernel
theorem d_Mo_find_49 : decode b_Mo_find 49 = .ok (.iload 5, 2) := by decide +kernel
theorem d_Mo_find_51 : decode b_Mo_find 51 = .ok (.laload, 1) := by decide +kernel
theorem d_Mo_find_52 : decode b_Mo_find 52 = .ok (.lload_n 2, 1) := by decide +kernel
theorem d_Mo_find_53 : decode b_Mo_find 53 = .ok (.lcmp, 1) := by decide +kernel
theorem d_Mo_find_54 : decode b_Mo_find 54 = .ok (.ifCond .ne 6, 3) := by decide +kernel
theorem d_Mo_find_57 : decode b_Mo_find 57 = .ok (.iload 5, 2) := by decide +kernel
theorem d_Mo_find_59 : decode b_Mo_find 59 = .ok (.ireturn, 1) := by decide +kernel
theorem d_Mo_find_60 : decode b_Mo_find 60 = .ok (.iinc 5 1, 3) := by decide +kernel
theorem d_Mo_find_63 : decode b_Mo_find 63 = .ok (.goto (-52), 3) := by decide +kernel
theorem d_Mo_find_66 : decode b_Mo_find 66 = .ok (.aload_n 0, 1) := by decide +kernel
theorem d_Mo_find_67 : decode b_Mo_find 67 = .ok (.iload 4, 2) := by decide +kernel
theorem d_Mo_find_69 : decode b_Mo_find 69 = .ok (.invokevirtual 198, 3) := by decide +kernel
theorem d_Mo_find_72 : decode b_Mo_find 72 = .ok (.istore 4, 2) := by decide +kernel
theorem d_Mo_find_74 : decode b_Mo_find 74 = .ok (.goto (-71), 3) := by decide +kernel
theorem d_Mo_find_77 : decode b_Mo_find 77 = .ok (.iconst (-1), 1) := by decide +kernel
theorem d_Mo_find_78 : decode b_Mo_find 78 = .ok (.ireturn, 1) := by decide +kernel
abbrev y_Mo_declared : MethodName := ⟨"LanguageServerModel", "declared", "(I)I"⟩
abbrev b_Mo_declared : ByteArray := prog_13_method_35_code
theorem d_Mo_declared_0 : decode b_Mo_declared 0 = .ok (.aload_n 0, 1) := by decide +kernel
theorem d_Mo_declared_1 : decode b_Mo_declared 1 = .ok (.getfield 16, 3) := by decide +kernel
theorem d_Mo_declared_4 : decode b_Mo_declared 4 = .ok (.iload_n 1, 1) := by decide +kernel
theorem d_Mo_declared_5 : decode b_Mo_declared 5 = .ok (.iconst 1, 1) := by decide +kernel
theorem d_Mo_declared_6 : decode b_Mo_declared 6 = .ok (.isub, 1) := by decide +kernel
theorem d_Mo_declared_7 : decode b_Mo_declared 7 = .ok (.iaload, 1) := by decide +kernel
theorem d_Mo_declared_8 : decode b_Mo_declared 8 = .ok (.iconst 3, 1) := by decide +kernel
theorem d_Mo_declared_9 : decode b_Mo_declared 9 = .ok (.if_icmp .ne 7, 3) := by decide +kernel
theorem d_Mo_declared_12 : decode b_Mo_declared 12 = .ok (.iconst (-1), 1) := by decide +kernel
theorem d_Mo_declared_13 : decode b_Mo_declared 13 = .ok (.goto 10, 3) := by decide +kernel
theorem d_Mo_declared_16 : decode b_Mo_declared 16 = .ok (.aload_n 0, 1) := by decide +kernel
theorem d_Mo_declared_17 : decode b_Mo_declared 17 = .ok (.iload_n 1, 1) := by decide +kernel
theorem d_Mo_declared_18 : decode b_Mo_declared 18 = .ok (.iconst 1, 1) := by decide +kernel
theorem d_Mo_declared_19 : decode b_Mo_declared 19 = .ok (.isub, 1) := by decide +kernel
theorem d_Mo_declared_20 : decode b_Mo_declared 20 = .ok (.invokevirtual 186, 3) := by decide +kernel
theorem d_Mo_declared_23 : decode b_Mo_declared 23 = .ok (.ireturn, 1) := by decide +kernel
abbrev y_Mo_locl : MethodName := ⟨"LanguageServerModel", "local", "(II)I"⟩
abbrev b_Mo_locl : ByteArray := prog_13_method_36_code
theorem d_Mo_locl_0 : decode b_Mo_locl 0 = .ok (.iconst 0, 1) := by decide +kernel
theorem d_Mo_locl_1 : decode b_Mo_locl 1 = .ok (.istore_n 3, 1) := by decide +kernel
theorem d_Mo_locl_2 : decode b_Mo_locl 2 = .ok (.iload_n 3, 1) := by decide +kernel
theorem d_Mo_locl_3 : decode b_Mo_locl 3 = .ok (.iload_n 2, 1) := by decide +kernel
theorem d_Mo_locl_4 : decode b_Mo_locl 4 = .ok (.if_icmp .ge 79, 3) := by decide +kernel
theorem d_Mo_locl_7 : decode b_Mo_locl 7 = .ok (.aload_n 0, 1) := by decide +kernel
theorem d_Mo_locl_8 : decode b_Mo_locl 8 = .ok (.getfield 29, 3) := by decide +kernel
theorem d_Mo_locl_11 : decode b_Mo_locl 11 = .ok (.iload_n 3, 1) := by decide +kernel
theorem d_Mo_locl_12 : decode b_Mo_locl 12 = .ok (.iaload, 1) := by decide +kernel
theorem d_Mo_locl_13 : decode b_Mo_locl 13 = .ok (.bipush 7, 2) := by decide +kernel
theorem d_Mo_locl_15 : decode b_Mo_locl 15 = .ok (.if_icmp .eq 14, 3) := by decide +kernel
theorem d_Mo_locl_18 : decode b_Mo_locl 18 = .ok (.aload_n 0, 1) := by decide +kernel
theorem d_Mo_locl_19 : decode b_Mo_locl 19 = .ok (.getfield 29, 3) := by decide +kernel
theorem d_Mo_locl_22 : decode b_Mo_locl 22 = .ok (.iload_n 3, 1) := by decide +kernel
theorem d_Mo_locl_23 : decode b_Mo_locl 23 = .ok (.iaload, 1) := by decide +kernel
theorem d_Mo_locl_24 : decode b_Mo_locl 24 = .ok (.bipush 8, 2) := by decide +kernel
theorem d_Mo_locl_26 : decode b_Mo_locl 26 = .ok (.if_icmp .ne 51, 3) := by decide +kernel
theorem d_Mo_locl_29 : decode b_Mo_locl 29 = .ok (.aload_n 0, 1) := by decide +kernel
theorem d_Mo_locl_30 : decode b_Mo_locl 30 = .ok (.getfield 35, 3) := by decide +kernel
theorem d_Mo_locl_33 : decode b_Mo_locl 33 = .ok (.iload_n 3, 1) := by decide +kernel
theorem d_Mo_locl_34 : decode b_Mo_locl 34 = .ok (.iaload, 1) := by decide +kernel
theorem d_Mo_locl_35 : decode b_Mo_locl 35 = .ok (.aload_n 0, 1) := by decide +kernel
theorem d_Mo_locl_36 : decode b_Mo_locl 36 = .ok (.getfield 35, 3) := by decide +kernel
theorem d_Mo_locl_39 : decode b_Mo_locl 39 = .ok (.iload_n 1, 1) := by decide +kernel
theorem d_Mo_locl_40 : decode b_Mo_locl 40 = .ok (.iaload, 1) := by decide +kernel
theorem d_Mo_locl_41 : decode b_Mo_locl 41 = .ok (.if_icmp .ne 36, 3) := by decide +kernel
theorem d_Mo_locl_44 : decode b_Mo_locl 44 = .ok (.aload_n 0, 1) := by decide +kernel
theorem d_Mo_locl_45 : decode b_Mo_locl 45 = .ok (.getfield 32, 3) := by decide +kernel
theorem d_Mo_locl_48 : decode b_Mo_locl 48 = .ok (.iload_n 3, 1) := by decide +kernel
theorem d_Mo_locl_49 : decode b_Mo_locl 49 = .ok (.iaload, 1) := by decide +kernel
theorem d_Mo_locl_50 : decode b_Mo_locl 50 = .ok (.aload_n 0, 1) := by decide +kernel
theorem d_Mo_locl_51 : decode b_Mo_locl 51 = .ok (.getfield 32, 3) := by decide +kernel
theorem d_Mo_locl_54 : decode b_Mo_locl 54 = .ok (.iload_n 1, 1) := by decide +kernel
theorem d_Mo_locl_55 : decode b_Mo_locl 55 = .ok (.iaload, 1) := by decide +kernel
theorem d_Mo_locl_56 : decode b_Mo_locl 56 = .ok (.if_icmp .ne 21, 3) := by decide +kernel
theorem d_Mo_locl_59 : decode b_Mo_locl 59 = .ok (.aload_n 0, 1) := by decide +kernel
theorem d_Mo_locl_60 : decode b_Mo_locl 60 = .ok (.getfield 19, 3) := by decide +kernel
theorem d_Mo_locl_63 : decode b_Mo_locl 63 = .ok (.iload_n 3, 1) := by decide +kernel
theorem d_Mo_locl_64 : decode b_Mo_locl 64 = .ok (.laload, 1) := by decide +kernel
theorem d_Mo_locl_65 : decode b_Mo_locl 65 = .ok (.aload_n 0, 1) := by decide +kernel
theorem d_Mo_locl_66 : decode b_Mo_locl 66 = .ok (.getfield 19, 3) := by decide +kernel
theorem d_Mo_locl_69 : decode b_Mo_locl 69 = .ok (.iload_n 1, 1) := by decide +kernel
theorem d_Mo_locl_70 : decode b_Mo_locl 70 = .ok (.laload, 1) := by decide +kernel
theorem d_Mo_locl_71 : decode b_Mo_locl 71 = .ok (.lcmp, 1) := by decide +kernel
theorem d_Mo_locl_72 : decode b_Mo_locl 72 = .ok (.ifCond .ne 5, 3) := by decide +kernel
theorem d_Mo_locl_75 : decode b_Mo_locl 75 = .ok (.iload_n 3, 1) := by decide +kernel
theorem d_Mo_locl_76 : decode b_Mo_locl 76 = .ok (.ireturn, 1) := by decide +kernel
theorem d_Mo_locl_77 : decode b_Mo_locl 77 = .ok (.iinc 3 1, 3) := by decide +kernel
theorem d_Mo_locl_80 : decode b_Mo_locl 80 = .ok (.goto (-78), 3) := by decide +kernel
theorem d_Mo_locl_83 : decode b_Mo_locl 83 = .ok (.iconst (-1), 1) := by decide +kernel
theorem d_Mo_locl_84 : decode b_Mo_locl 84 = .ok (.ireturn, 1) := by decide +kernel
abbrev y_Mo_note : MethodName := ⟨"LanguageServerModel", "note", "(II)V"⟩
abbrev b_Mo_note : ByteArray := prog_13_method_37_code
theorem d_Mo_note_0 : decode b_Mo_note 0 = .ok (.aload_n 0, 1) := by decide +kernel
theorem d_Mo_note_1 : decode b_Mo_note 1 = .ok (.getfield 47, 3) := by decide +kernel
theorem d_Mo_note_4 : decode b_Mo_note 4 = .ok (.iload_n 1, 1) := by decide +kernel
theorem d_Mo_note_5 : decode b_Mo_note 5 = .ok (.dup2, 1) := by decide +kernel
theorem d_Mo_note_6 : decode b_Mo_note 6 = .ok (.iaload, 1) := by decide +kernel
theorem d_Mo_note_7 : decode b_Mo_note 7 = .ok (.iconst 1, 1) := by decide +kernel
theorem d_Mo_note_8 : decode b_Mo_note 8 = .ok (.iload_n 2, 1) := by decide +kernel
theorem d_Mo_note_9 : decode b_Mo_note 9 = .ok (.ishl, 1) := by decide +kernel
theorem d_Mo_note_10 : decode b_Mo_note 10 = .ok (.ior, 1) := by decide +kernel
theorem d_Mo_note_11 : decode b_Mo_note 11 = .ok (.iastore, 1) := by decide +kernel
theorem d_Mo_note_12 : decode b_Mo_note 12 = .ok (.return_, 1) := by decide +kernel
