abbrev y_Parser_assign : MethodName := ⟨"LanguageServer$Parser", "assign", "(III)I"⟩
abbrev b_Parser_assign : ByteArray := prog_6_method_20_code
theorem d_Parser_assign_0 : decode b_Parser_assign 0 = .ok (.aload_n 0, 1) := by decide +kernel
theorem d_Parser_assign_1 : decode b_Parser_assign 1 = .ok (.getfield 19, 3) := by decide +kernel
theorem d_Parser_assign_4 : decode b_Parser_assign 4 = .ok (.getfield 107, 3) := by decide +kernel
theorem d_Parser_assign_7 : decode b_Parser_assign 7 = .ok (.iload_n 1, 1) := by decide +kernel
theorem d_Parser_assign_8 : decode b_Parser_assign 8 = .ok (.iload_n 2, 1) := by decide +kernel
theorem d_Parser_assign_9 : decode b_Parser_assign 9 = .ok (.iastore, 1) := by decide +kernel
theorem d_Parser_assign_10 : decode b_Parser_assign 10 = .ok (.iload_n 3, 1) := by decide +kernel
theorem d_Parser_assign_11 : decode b_Parser_assign 11 = .ok (.ireturn, 1) := by decide +kernel
abbrev y_Parser_name : MethodName := ⟨"LanguageServer$Parser", "name", "(IIII)I"⟩
abbrev b_Parser_name : ByteArray := prog_6_method_18_code
theorem d_Parser_name_0 : decode b_Parser_name 0 = .ok (.iload_n 2, 1) := by decide +kernel
theorem d_Parser_name_1 : decode b_Parser_name 1 = .ok (.iconst 1, 1) := by decide +kernel
theorem d_Parser_name_2 : decode b_Parser_name 2 = .ok (.if_icmp .ne 14, 3) := by decide +kernel
theorem d_Parser_name_5 : decode b_Parser_name 5 = .ok (.aload_n 0, 1) := by decide +kernel
theorem d_Parser_name_6 : decode b_Parser_name 6 = .ok (.iload_n 1, 1) := by decide +kernel
theorem d_Parser_name_7 : decode b_Parser_name 7 = .ok (.iload_n 3, 1) := by decide +kernel
theorem d_Parser_name_8 : decode b_Parser_name 8 = .ok (.iload 4, 2) := by decide +kernel
theorem d_Parser_name_10 : decode b_Parser_name 10 = .ok (.invokevirtual 113, 3) := by decide +kernel
theorem d_Parser_name_13 : decode b_Parser_name 13 = .ok (.goto 4, 3) := by decide +kernel
theorem d_Parser_name_16 : decode b_Parser_name 16 = .ok (.iconst 0, 1) := by decide +kernel
theorem d_Parser_name_17 : decode b_Parser_name 17 = .ok (.ireturn, 1) := by decide +kernel
abbrev y_Parser_className : MethodName := ⟨"LanguageServer$Parser", "className", "(II)I"⟩
abbrev b_Parser_className : ByteArray := prog_6_method_4_code
theorem d_Parser_className_0 : decode b_Parser_className 0 = .ok (.iload_n 2, 1) := by decide +kernel
theorem d_Parser_className_1 : decode b_Parser_className 1 = .ok (.iconst 1, 1) := by decide +kernel
theorem d_Parser_className_2 : decode b_Parser_className 2 = .ok (.if_icmp .ne 11, 3) := by decide +kernel
theorem d_Parser_className_5 : decode b_Parser_className 5 = .ok (.aload_n 0, 1) := by decide +kernel
theorem d_Parser_className_6 : decode b_Parser_className 6 = .ok (.getfield 19, 3) := by decide +kernel
theorem d_Parser_className_9 : decode b_Parser_className 9 = .ok (.iload_n 1, 1) := by decide +kernel
theorem d_Parser_className_10 : decode b_Parser_className 10 = .ok (.invokevirtual 104, 3) := by decide +kernel
theorem d_Parser_className_13 : decode b_Parser_className 13 = .ok (.aload_n 0, 1) := by decide +kernel
theorem d_Parser_className_14 : decode b_Parser_className 14 = .ok (.iload_n 1, 1) := by decide +kernel
theorem d_Parser_className_15 : decode b_Parser_className 15 = .ok (.iload_n 2, 1) := by decide +kernel
theorem d_Parser_className_16 : decode b_Parser_className 16 = .ok (.iconst 1, 1) := by decide +kernel
theorem d_Parser_className_17 : decode b_Parser_className 17 = .ok (.iconst 3, 1) := by decide +kernel
theorem d_Parser_className_18 : decode b_Parser_className 18 = .ok (.invokevirtual 90, 3) := by decide +kernel
theorem d_Parser_className_21 : decode b_Parser_className 21 = .ok (.ireturn, 1) := by decide +kernel
abbrev y_Parser_typeName : MethodName := ⟨"LanguageServer$Parser", "typeName", "(III)I"⟩
abbrev b_Parser_typeName : ByteArray := prog_6_method_19_code
theorem d_Parser_typeName_0 : decode b_Parser_typeName 0 = .ok (.iload_n 2, 1) := by decide +kernel
theorem d_Parser_typeName_1 : decode b_Parser_typeName 1 = .ok (.iconst 5, 1) := by decide +kernel
theorem d_Parser_typeName_2 : decode b_Parser_typeName 2 = .ok (.if_icmp .ne 5, 3) := by decide +kernel
theorem d_Parser_typeName_5 : decode b_Parser_typeName 5 = .ok (.iload_n 3, 1) := by decide +kernel
theorem d_Parser_typeName_6 : decode b_Parser_typeName 6 = .ok (.ireturn, 1) := by decide +kernel
theorem d_Parser_typeName_7 : decode b_Parser_typeName 7 = .ok (.iload_n 2, 1) := by decide +kernel
theorem d_Parser_typeName_8 : decode b_Parser_typeName 8 = .ok (.iconst 1, 1) := by decide +kernel
theorem d_Parser_typeName_9 : decode b_Parser_typeName 9 = .ok (.if_icmp .ne 14, 3) := by decide +kernel
theorem d_Parser_typeName_12 : decode b_Parser_typeName 12 = .ok (.aload_n 0, 1) := by decide +kernel
theorem d_Parser_typeName_13 : decode b_Parser_typeName 13 = .ok (.iload_n 1, 1) := by decide +kernel
theorem d_Parser_typeName_14 : decode b_Parser_typeName 14 = .ok (.bipush 7, 2) := by decide +kernel
theorem d_Parser_typeName_16 : decode b_Parser_typeName 16 = .ok (.iload_n 3, 1) := by decide +kernel
theorem d_Parser_typeName_17 : decode b_Parser_typeName 17 = .ok (.invokevirtual 113, 3) := by decide +kernel
theorem d_Parser_typeName_20 : decode b_Parser_typeName 20 = .ok (.goto 4, 3) := by decide +kernel
theorem d_Parser_typeName_23 : decode b_Parser_typeName 23 = .ok (.iconst 0, 1) := by decide +kernel
theorem d_Parser_typeName_24 : decode b_Parser_typeName 24 = .ok (.ireturn, 1) := by decide +kernel
abbrev y_Parser_memberTail : MethodName := ⟨"LanguageServer$Parser", "memberTail", "(I)I"⟩
abbrev b_Parser_memberTail : ByteArray := prog_6_method_5_code
theorem d_Parser_memberTail_0 : decode b_Parser_memberTail 0 = .ok (.iload_n 1, 1) := by decide +kernel
theorem d_Parser_memberTail_1 : decode b_Parser_memberTail 1 = .ok (.bipush 40, 2) := by decide +kernel
theorem d_Parser_memberTail_3 : decode b_Parser_memberTail 3 = .ok (.if_icmp .eq 12, 3) := by decide +kernel
theorem d_Parser_memberTail_6 : decode b_Parser_memberTail 6 = .ok (.iload_n 1, 1) := by decide +kernel
theorem d_Parser_memberTail_7 : decode b_Parser_memberTail 7 = .ok (.bipush 59, 2) := by decide +kernel
theorem d_Parser_memberTail_9 : decode b_Parser_memberTail 9 = .ok (.bipush 6, 2) := by decide +kernel
theorem d_Parser_memberTail_11 : decode b_Parser_memberTail 11 = .ok (.invokestatic 84, 3) := by decide +kernel
theorem d_Parser_memberTail_14 : decode b_Parser_memberTail 14 = .ok (.ireturn, 1) := by decide +kernel
theorem d_Parser_memberTail_15 : decode b_Parser_memberTail 15 = .ok (.aload_n 0, 1) := by decide +kernel
theorem d_Parser_memberTail_16 : decode b_Parser_memberTail 16 = .ok (.getfield 19, 3) := by decide +kernel
theorem d_Parser_memberTail_19 : decode b_Parser_memberTail 19 = .ok (.getfield 107, 3) := by decide +kernel
theorem d_Parser_memberTail_22 : decode b_Parser_memberTail 22 = .ok (.aload_n 0, 1) := by decide +kernel
theorem d_Parser_memberTail_23 : decode b_Parser_memberTail 23 = .ok (.getfield 97, 3) := by decide +kernel
theorem d_Parser_memberTail_26 : decode b_Parser_memberTail 26 = .ok (.iconst 3, 1) := by decide +kernel
theorem d_Parser_memberTail_27 : decode b_Parser_memberTail 27 = .ok (.iastore, 1) := by decide +kernel
theorem d_Parser_memberTail_28 : decode b_Parser_memberTail 28 = .ok (.bipush 9, 2) := by decide +kernel
theorem d_Parser_memberTail_30 : decode b_Parser_memberTail 30 = .ok (.ireturn, 1) := by decide +kernel
abbrev y_Parser_nextInClass : MethodName := ⟨"LanguageServer$Parser", "nextInClass", "(II)I"⟩
abbrev b_Parser_nextInClass : ByteArray := prog_6_method_3_code
theorem d_Parser_nextInClass_0 : decode b_Parser_nextInClass 0 = .ok (.aload_n 0, 1) := by decide +kernel
theorem d_Parser_nextInClass_1 : decode b_Parser_nextInClass 1 = .ok (.getfield 39, 3) := by decide +kernel
theorem d_Parser_nextInClass_4 : decode b_Parser_nextInClass 4 = .ok (.tableswitch 133 1 7 #[44, 55, 62, 80, 90, 99, 118], 44) := by decide +kernel
theorem d_Parser_nextInClass_48 : decode b_Parser_nextInClass 48 = .ok (.iload_n 2, 1) := by decide +kernel
theorem d_Parser_nextInClass_49 : decode b_Parser_nextInClass 49 = .ok (.iconst 3, 1) := by decide +kernel
theorem d_Parser_nextInClass_50 : decode b_Parser_nextInClass 50 = .ok (.if_icmp .ne 7, 3) := by decide +kernel
theorem d_Parser_nextInClass_53 : decode b_Parser_nextInClass 53 = .ok (.iconst 2, 1) := by decide +kernel
theorem d_Parser_nextInClass_54 : decode b_Parser_nextInClass 54 = .ok (.goto 4, 3) := by decide +kernel
theorem d_Parser_nextInClass_57 : decode b_Parser_nextInClass 57 = .ok (.iconst 0, 1) := by decide +kernel
theorem d_Parser_nextInClass_58 : decode b_Parser_nextInClass 58 = .ok (.ireturn, 1) := by decide +kernel
theorem d_Parser_nextInClass_59 : decode b_Parser_nextInClass 59 = .ok (.aload_n 0, 1) := by decide +kernel
theorem d_Parser_nextInClass_60 : decode b_Parser_nextInClass 60 = .ok (.iload_n 1, 1) := by decide +kernel
theorem d_Parser_nextInClass_61 : decode b_Parser_nextInClass 61 = .ok (.iload_n 2, 1) := by decide +kernel
theorem d_Parser_nextInClass_62 : decode b_Parser_nextInClass 62 = .ok (.invokevirtual 81, 3) := by decide +kernel
theorem d_Parser_nextInClass_65 : decode b_Parser_nextInClass 65 = .ok (.ireturn, 1) := by decide +kernel
theorem d_Parser_nextInClass_66 : decode b_Parser_nextInClass 66 = .ok (.iload_n 2, 1) := by decide +kernel
theorem d_Parser_nextInClass_67 : decode b_Parser_nextInClass 67 = .ok (.iconst 4, 1) := by decide +kernel
theorem d_Parser_nextInClass_68 : decode b_Parser_nextInClass 68 = .ok (.if_icmp .ne 7, 3) := by decide +kernel
theorem d_Parser_nextInClass_71 : decode b_Parser_nextInClass 71 = .ok (.iconst 4, 1) := by decide +kernel
theorem d_Parser_nextInClass_72 : decode b_Parser_nextInClass 72 = .ok (.goto 11, 3) := by decide +kernel
theorem d_Parser_nextInClass_75 : decode b_Parser_nextInClass 75 = .ok (.iload_n 2, 1) := by decide +kernel
theorem d_Parser_nextInClass_76 : decode b_Parser_nextInClass 76 = .ok (.bipush 123, 2) := by decide +kernel
theorem d_Parser_nextInClass_78 : decode b_Parser_nextInClass 78 = .ok (.bipush 6, 2) := by decide +kernel
theorem d_Parser_nextInClass_80 : decode b_Parser_nextInClass 80 = .ok (.invokestatic 84, 3) := by decide +kernel
theorem d_Parser_nextInClass_83 : decode b_Parser_nextInClass 83 = .ok (.ireturn, 1) := by decide +kernel
theorem d_Parser_nextInClass_84 : decode b_Parser_nextInClass 84 = .ok (.aload_n 0, 1) := by decide +kernel
theorem d_Parser_nextInClass_85 : decode b_Parser_nextInClass 85 = .ok (.iload_n 1, 1) := by decide +kernel
theorem d_Parser_nextInClass_86 : decode b_Parser_nextInClass 86 = .ok (.iload_n 2, 1) := by decide +kernel
theorem d_Parser_nextInClass_87 : decode b_Parser_nextInClass 87 = .ok (.bipush 6, 2) := by decide +kernel
theorem d_Parser_nextInClass_89 : decode b_Parser_nextInClass 89 = .ok (.iconst 5, 1) := by decide +kernel
theorem d_Parser_nextInClass_90 : decode b_Parser_nextInClass 90 = .ok (.invokevirtual 90, 3) := by decide +kernel
theorem d_Parser_nextInClass_93 : decode b_Parser_nextInClass 93 = .ok (.ireturn, 1) := by decide +kernel
theorem d_Parser_nextInClass_94 : decode b_Parser_nextInClass 94 = .ok (.iload_n 2, 1) := by decide +kernel
theorem d_Parser_nextInClass_95 : decode b_Parser_nextInClass 95 = .ok (.bipush 123, 2) := by decide +kernel
theorem d_Parser_nextInClass_97 : decode b_Parser_nextInClass 97 = .ok (.bipush 6, 2) := by decide +kernel
theorem d_Parser_nextInClass_99 : decode b_Parser_nextInClass 99 = .ok (.invokestatic 84, 3) := by decide +kernel
theorem d_Parser_nextInClass_102 : decode b_Parser_nextInClass 102 = .ok (.ireturn, 1) := by decide +kernel
theorem d_Parser_nextInClass_103 : decode b_Parser_nextInClass 103 = .ok (.iload_n 2, 1) := by decide +kernel
theorem d_Parser_nextInClass_104 : decode b_Parser_nextInClass 104 = .ok (.bipush 125, 2) := by decide +kernel
theorem d_Parser_nextInClass_106 : decode b_Parser_nextInClass 106 = .ok (.if_icmp .ne 7, 3) := by decide +kernel
theorem d_Parser_nextInClass_109 : decode b_Parser_nextInClass 109 = .ok (.iconst 1, 1) := by decide +kernel
theorem d_Parser_nextInClass_110 : decode b_Parser_nextInClass 110 = .ok (.goto 11, 3) := by decide +kernel
theorem d_Parser_nextInClass_113 : decode b_Parser_nextInClass 113 = .ok (.aload_n 0, 1) := by decide +kernel
theorem d_Parser_nextInClass_114 : decode b_Parser_nextInClass 114 = .ok (.iload_n 1, 1) := by decide +kernel
theorem d_Parser_nextInClass_115 : decode b_Parser_nextInClass 115 = .ok (.iload_n 2, 1) := by decide +kernel
theorem d_Parser_nextInClass_116 : decode b_Parser_nextInClass 116 = .ok (.bipush 7, 2) := by decide +kernel
theorem d_Parser_nextInClass_118 : decode b_Parser_nextInClass 118 = .ok (.invokevirtual 94, 3) := by decide +kernel
theorem d_Parser_nextInClass_121 : decode b_Parser_nextInClass 121 = .ok (.ireturn, 1) := by decide +kernel
theorem d_Parser_nextInClass_122 : decode b_Parser_nextInClass 122 = .ok (.aload_n 0, 1) := by decide +kernel
theorem d_Parser_nextInClass_123 : decode b_Parser_nextInClass 123 = .ok (.iload_n 1, 1) := by decide +kernel
theorem d_Parser_nextInClass_124 : decode b_Parser_nextInClass 124 = .ok (.putfield 97, 3) := by decide +kernel
theorem d_Parser_nextInClass_127 : decode b_Parser_nextInClass 127 = .ok (.aload_n 0, 1) := by decide +kernel
theorem d_Parser_nextInClass_128 : decode b_Parser_nextInClass 128 = .ok (.iload_n 1, 1) := by decide +kernel
theorem d_Parser_nextInClass_129 : decode b_Parser_nextInClass 129 = .ok (.iload_n 2, 1) := by decide +kernel
theorem d_Parser_nextInClass_130 : decode b_Parser_nextInClass 130 = .ok (.iconst 2, 1) := by decide +kernel
theorem d_Parser_nextInClass_131 : decode b_Parser_nextInClass 131 = .ok (.bipush 8, 2) := by decide +kernel
theorem d_Parser_nextInClass_133 : decode b_Parser_nextInClass 133 = .ok (.invokevirtual 90, 3) := by decide +kernel
theorem d_Parser_nextInClass_136 : decode b_Parser_nextInClass 136 = .ok (.ireturn, 1) := by decide +kernel
theorem d_Parser_nextInClass_137 : decode b_Parser_nextInClass 137 = .ok (.aload_n 0, 1) := by decide +kernel
theorem d_Parser_nextInClass_138 : decode b_Parser_nextInClass 138 = .ok (.iload_n 2, 1) := by decide +kernel
theorem d_Parser_nextInClass_139 : decode b_Parser_nextInClass 139 = .ok (.invokevirtual 100, 3) := by decide +kernel
theorem d_Parser_nextInClass_142 : decode b_Parser_nextInClass 142 = .ok (.ireturn, 1) := by decide +kernel
abbrev y_Parser_nextInHead : MethodName := ⟨"LanguageServer$Parser", "nextInHead", "(II)I"⟩
abbrev b_Parser_nextInHead : ByteArray := prog_6_method_6_code
theorem d_Parser_nextInHead_0 : decode b_Parser_nextInHead 0 = .ok (.aload_n 0, 1) := by decide +kernel
theorem d_Parser_nextInHead_1 : decode b_Parser_nextInHead 1 = .ok (.getfield 39, 3) := by decide +kernel
theorem d_Parser_nextInHead_4 : decode b_Parser_nextInHead 4 = .ok (.tableswitch 107 9 12 #[32, 52, 61, 87], 32) := by decide +kernel
theorem d_Parser_nextInHead_36 : decode b_Parser_nextInHead 36 = .ok (.iload_n 2, 1) := by decide +kernel
theorem d_Parser_nextInHead_37 : decode b_Parser_nextInHead 37 = .ok (.bipush 41, 2) := by decide +kernel
theorem d_Parser_nextInHead_39 : decode b_Parser_nextInHead 39 = .ok (.if_icmp .ne 8, 3) := by decide +kernel
theorem d_Parser_nextInHead_42 : decode b_Parser_nextInHead 42 = .ok (.bipush 13, 2) := by decide +kernel
theorem d_Parser_nextInHead_44 : decode b_Parser_nextInHead 44 = .ok (.goto 11, 3) := by decide +kernel
theorem d_Parser_nextInHead_47 : decode b_Parser_nextInHead 47 = .ok (.aload_n 0, 1) := by decide +kernel
theorem d_Parser_nextInHead_48 : decode b_Parser_nextInHead 48 = .ok (.iload_n 1, 1) := by decide +kernel
theorem d_Parser_nextInHead_49 : decode b_Parser_nextInHead 49 = .ok (.iload_n 2, 1) := by decide +kernel
theorem d_Parser_nextInHead_50 : decode b_Parser_nextInHead 50 = .ok (.bipush 11, 2) := by decide +kernel
theorem d_Parser_nextInHead_52 : decode b_Parser_nextInHead 52 = .ok (.invokevirtual 94, 3) := by decide +kernel
theorem d_Parser_nextInHead_55 : decode b_Parser_nextInHead 55 = .ok (.ireturn, 1) := by decide +kernel
theorem d_Parser_nextInHead_56 : decode b_Parser_nextInHead 56 = .ok (.aload_n 0, 1) := by decide +kernel
theorem d_Parser_nextInHead_57 : decode b_Parser_nextInHead 57 = .ok (.iload_n 1, 1) := by decide +kernel
theorem d_Parser_nextInHead_58 : decode b_Parser_nextInHead 58 = .ok (.iload_n 2, 1) := by decide +kernel
theorem d_Parser_nextInHead_59 : decode b_Parser_nextInHead 59 = .ok (.bipush 11, 2) := by decide +kernel
theorem d_Parser_nextInHead_61 : decode b_Parser_nextInHead 61 = .ok (.invokevirtual 94, 3) := by decide +kernel
theorem d_Parser_nextInHead_64 : decode b_Parser_nextInHead 64 = .ok (.ireturn, 1) := by decide +kernel
theorem d_Parser_nextInHead_65 : decode b_Parser_nextInHead 65 = .ok (.aload_n 0, 1) := by decide +kernel
theorem d_Parser_nextInHead_66 : decode b_Parser_nextInHead 66 = .ok (.getfield 19, 3) := by decide +kernel
theorem d_Parser_nextInHead_69 : decode b_Parser_nextInHead 69 = .ok (.getfield 110, 3) := by decide +kernel
theorem d_Parser_nextInHead_72 : decode b_Parser_nextInHead 72 = .ok (.aload_n 0, 1) := by decide +kernel
theorem d_Parser_nextInHead_73 : decode b_Parser_nextInHead 73 = .ok (.getfield 97, 3) := by decide +kernel
theorem d_Parser_nextInHead_76 : decode b_Parser_nextInHead 76 = .ok (.dup2, 1) := by decide +kernel
theorem d_Parser_nextInHead_77 : decode b_Parser_nextInHead 77 = .ok (.iaload, 1) := by decide +kernel
theorem d_Parser_nextInHead_78 : decode b_Parser_nextInHead 78 = .ok (.iconst 1, 1) := by decide +kernel
theorem d_Parser_nextInHead_79 : decode b_Parser_nextInHead 79 = .ok (.iadd, 1) := by decide +kernel
theorem d_Parser_nextInHead_80 : decode b_Parser_nextInHead 80 = .ok (.iastore, 1) := by decide +kernel
theorem d_Parser_nextInHead_81 : decode b_Parser_nextInHead 81 = .ok (.aload_n 0, 1) := by decide +kernel
theorem d_Parser_nextInHead_82 : decode b_Parser_nextInHead 82 = .ok (.iload_n 1, 1) := by decide +kernel
theorem d_Parser_nextInHead_83 : decode b_Parser_nextInHead 83 = .ok (.iload_n 2, 1) := by decide +kernel
theorem d_Parser_nextInHead_84 : decode b_Parser_nextInHead 84 = .ok (.iconst 4, 1) := by decide +kernel
theorem d_Parser_nextInHead_85 : decode b_Parser_nextInHead 85 = .ok (.bipush 12, 2) := by decide +kernel
theorem d_Parser_nextInHead_87 : decode b_Parser_nextInHead 87 = .ok (.invokevirtual 90, 3) := by decide +kernel
theorem d_Parser_nextInHead_90 : decode b_Parser_nextInHead 90 = .ok (.ireturn, 1) := by decide +kernel
theorem d_Parser_nextInHead_91 : decode b_Parser_nextInHead 91 = .ok (.iload_n 2, 1) := by decide +kernel
theorem d_Parser_nextInHead_92 : decode b_Parser_nextInHead 92 = .ok (.bipush 44, 2) := by decide +kernel
theorem d_Parser_nextInHead_94 : decode b_Parser_nextInHead 94 = .ok (.if_icmp .ne 8, 3) := by decide +kernel
theorem d_Parser_nextInHead_97 : decode b_Parser_nextInHead 97 = .ok (.bipush 10, 2) := by decide +kernel
theorem d_Parser_nextInHead_99 : decode b_Parser_nextInHead 99 = .ok (.goto 11, 3) := by decide +kernel
theorem d_Parser_nextInHead_102 : decode b_Parser_nextInHead 102 = .ok (.iload_n 2, 1) := by decide +kernel
theorem d_Parser_nextInHead_103 : decode b_Parser_nextInHead 103 = .ok (.bipush 41, 2) := by decide +kernel
theorem d_Parser_nextInHead_105 : decode b_Parser_nextInHead 105 = .ok (.bipush 13, 2) := by decide +kernel
theorem d_Parser_nextInHead_107 : decode b_Parser_nextInHead 107 = .ok (.invokestatic 84, 3) := by decide +kernel
theorem d_Parser_nextInHead_110 : decode b_Parser_nextInHead 110 = .ok (.ireturn, 1) := by decide +kernel
theorem d_Parser_nextInHead_111 : decode b_Parser_nextInHead 111 = .ok (.iload_n 2, 1) := by decide +kernel
theorem d_Parser_nextInHead_112 : decode b_Parser_nextInHead 112 = .ok (.bipush 123, 2) := by decide +kernel
theorem d_Parser_nextInHead_114 : decode b_Parser_nextInHead 114 = .ok (.if_icmp .ne 15, 3) := by decide +kernel
theorem d_Parser_nextInHead_117 : decode b_Parser_nextInHead 117 = .ok (.aload_n 0, 1) := by decide +kernel
theorem d_Parser_nextInHead_118 : decode b_Parser_nextInHead 118 = .ok (.iload_n 1, 1) := by decide +kernel
theorem d_Parser_nextInHead_119 : decode b_Parser_nextInHead 119 = .ok (.bipush 15, 2) := by decide +kernel
theorem d_Parser_nextInHead_121 : decode b_Parser_nextInHead 121 = .ok (.bipush 14, 2) := by decide +kernel
theorem d_Parser_nextInHead_123 : decode b_Parser_nextInHead 123 = .ok (.invokevirtual 113, 3) := by decide +kernel
theorem d_Parser_nextInHead_126 : decode b_Parser_nextInHead 126 = .ok (.goto 4, 3) := by decide +kernel
theorem d_Parser_nextInHead_129 : decode b_Parser_nextInHead 129 = .ok (.iconst 0, 1) := by decide +kernel
theorem d_Parser_nextInHead_130 : decode b_Parser_nextInHead 130 = .ok (.ireturn, 1) := by decide +kernel
abbrev y_Parser_opn : MethodName := ⟨"LanguageServer$Parser", "open", "(II)I"⟩
abbrev b_Parser_opn : ByteArray := prog_6_method_15_code
theorem d_Parser_opn_0 : decode b_Parser_opn 0 = .ok (.aload_n 0, 1) := by decide +kernel
theorem d_Parser_opn_1 : decode b_Parser_opn 1 = .ok (.getfield 35, 3) := by decide +kernel
theorem d_Parser_opn_4 : decode b_Parser_opn 4 = .ok (.bipush 8, 2) := by decide +kernel
theorem d_Parser_opn_6 : decode b_Parser_opn 6 = .ok (.if_icmp .lt 5, 3) := by decide +kernel
theorem d_Parser_opn_9 : decode b_Parser_opn 9 = .ok (.iconst 0, 1) := by decide +kernel
theorem d_Parser_opn_10 : decode b_Parser_opn 10 = .ok (.ireturn, 1) := by decide +kernel
theorem d_Parser_opn_11 : decode b_Parser_opn 11 = .ok (.aload_n 0, 1) := by decide +kernel
theorem d_Parser_opn_12 : decode b_Parser_opn 12 = .ok (.getfield 9, 3) := by decide +kernel
theorem d_Parser_opn_15 : decode b_Parser_opn 15 = .ok (.aload_n 0, 1) := by decide +kernel
theorem d_Parser_opn_16 : decode b_Parser_opn 16 = .ok (.getfield 35, 3) := by decide +kernel
theorem d_Parser_opn_19 : decode b_Parser_opn 19 = .ok (.iload_n 1, 1) := by decide +kernel
theorem d_Parser_opn_20 : decode b_Parser_opn 20 = .ok (.iastore, 1) := by decide +kernel
theorem d_Parser_opn_21 : decode b_Parser_opn 21 = .ok (.aload_n 0, 1) := by decide +kernel
theorem d_Parser_opn_22 : decode b_Parser_opn 22 = .ok (.dup, 1) := by decide +kernel
theorem d_Parser_opn_23 : decode b_Parser_opn 23 = .ok (.getfield 35, 3) := by decide +kernel
theorem d_Parser_opn_26 : decode b_Parser_opn 26 = .ok (.iconst 1, 1) := by decide +kernel
theorem d_Parser_opn_27 : decode b_Parser_opn 27 = .ok (.iadd, 1) := by decide +kernel
theorem d_Parser_opn_28 : decode b_Parser_opn 28 = .ok (.putfield 35, 3) := by decide +kernel
theorem d_Parser_opn_31 : decode b_Parser_opn 31 = .ok (.iload_n 2, 1) := by decide +kernel
theorem d_Parser_opn_32 : decode b_Parser_opn 32 = .ok (.ireturn, 1) := by decide +kernel
abbrev y_Parser_operand : MethodName := ⟨"LanguageServer$Parser", "operand", "(II)I"⟩
abbrev b_Parser_operand : ByteArray := prog_6_method_10_code
theorem d_Parser_operand_0 : decode b_Parser_operand 0 = .ok (.iload_n 2, 1) := by decide +kernel
theorem d_Parser_operand_1 : decode b_Parser_operand 1 = .ok (.lookupswitch 103 #[(1, 51), (2, 61), (7, 81), (8, 71), (40, 84)], 51) := by decide +kernel
theorem d_Parser_operand_52 : decode b_Parser_operand 52 = .ok (.aload_n 0, 1) := by decide +kernel
theorem d_Parser_operand_53 : decode b_Parser_operand 53 = .ok (.iload_n 1, 1) := by decide +kernel
theorem d_Parser_operand_54 : decode b_Parser_operand 54 = .ok (.bipush 9, 2) := by decide +kernel
theorem d_Parser_operand_56 : decode b_Parser_operand 56 = .ok (.bipush 20, 2) := by decide +kernel
theorem d_Parser_operand_58 : decode b_Parser_operand 58 = .ok (.invokevirtual 113, 3) := by decide +kernel
theorem d_Parser_operand_61 : decode b_Parser_operand 61 = .ok (.ireturn, 1) := by decide +kernel
theorem d_Parser_operand_62 : decode b_Parser_operand 62 = .ok (.aload_n 0, 1) := by decide +kernel
theorem d_Parser_operand_63 : decode b_Parser_operand 63 = .ok (.iload_n 1, 1) := by decide +kernel
theorem d_Parser_operand_64 : decode b_Parser_operand 64 = .ok (.bipush 13, 2) := by decide +kernel
theorem d_Parser_operand_66 : decode b_Parser_operand 66 = .ok (.bipush 22, 2) := by decide +kernel
theorem d_Parser_operand_68 : decode b_Parser_operand 68 = .ok (.invokevirtual 113, 3) := by decide +kernel
theorem d_Parser_operand_71 : decode b_Parser_operand 71 = .ok (.ireturn, 1) := by decide +kernel
theorem d_Parser_operand_72 : decode b_Parser_operand 72 = .ok (.aload_n 0, 1) := by decide +kernel
theorem d_Parser_operand_73 : decode b_Parser_operand 73 = .ok (.iload_n 1, 1) := by decide +kernel
theorem d_Parser_operand_74 : decode b_Parser_operand 74 = .ok (.bipush 14, 2) := by decide +kernel
theorem d_Parser_operand_76 : decode b_Parser_operand 76 = .ok (.bipush 22, 2) := by decide +kernel
theorem d_Parser_operand_78 : decode b_Parser_operand 78 = .ok (.invokevirtual 113, 3) := by decide +kernel
theorem d_Parser_operand_81 : decode b_Parser_operand 81 = .ok (.ireturn, 1) := by decide +kernel
theorem d_Parser_operand_82 : decode b_Parser_operand 82 = .ok (.bipush 18, 2) := by decide +kernel
theorem d_Parser_operand_84 : decode b_Parser_operand 84 = .ok (.ireturn, 1) := by decide +kernel
theorem d_Parser_operand_85 : decode b_Parser_operand 85 = .ok (.aload_n 0, 1) := by decide +kernel
theorem d_Parser_operand_86 : decode b_Parser_operand 86 = .ok (.getfield 19, 3) := by decide +kernel
theorem d_Parser_operand_89 : decode b_Parser_operand 89 = .ok (.getfield 107, 3) := by decide +kernel
theorem d_Parser_operand_92 : decode b_Parser_operand 92 = .ok (.iload_n 1, 1) := by decide +kernel
theorem d_Parser_operand_93 : decode b_Parser_operand 93 = .ok (.bipush 21, 2) := by decide +kernel
theorem d_Parser_operand_95 : decode b_Parser_operand 95 = .ok (.iastore, 1) := by decide +kernel
theorem d_Parser_operand_96 : decode b_Parser_operand 96 = .ok (.aload_n 0, 1) := by decide +kernel
theorem d_Parser_operand_97 : decode b_Parser_operand 97 = .ok (.iconst (-1), 1) := by decide +kernel
theorem d_Parser_operand_98 : decode b_Parser_operand 98 = .ok (.bipush 17, 2) := by decide +kernel
theorem d_Parser_operand_100 : decode b_Parser_operand 100 = .ok (.invokevirtual 135, 3) := by decide +kernel
theorem d_Parser_operand_103 : decode b_Parser_operand 103 = .ok (.ireturn, 1) := by decide +kernel
theorem d_Parser_operand_104 : decode b_Parser_operand 104 = .ok (.iconst 0, 1) := by decide +kernel
theorem d_Parser_operand_105 : decode b_Parser_operand 105 = .ok (.ireturn, 1) := by decide +kernel
abbrev y_Parser_statement : MethodName := ⟨"LanguageServer$Parser", "statement", "(II)I"⟩
abbrev b_Parser_statement : ByteArray := prog_6_method_8_code
theorem d_Parser_statement_0 : decode b_Parser_statement 0 = .ok (.iload_n 2, 1) := by decide +kernel
theorem d_Parser_statement_1 : decode b_Parser_statement 1 = .ok (.iconst 1, 1) := by decide +kernel
theorem d_Parser_statement_2 : decode b_Parser_statement 2 = .ok (.if_icmp .ne 35, 3) := by decide +kernel
theorem d_Parser_statement_5 : decode b_Parser_statement 5 = .ok (.iload_n 1, 1) := by decide +kernel
theorem d_Parser_statement_6 : decode b_Parser_statement 6 = .ok (.iconst 1, 1) := by decide +kernel
theorem d_Parser_statement_7 : decode b_Parser_statement 7 = .ok (.iadd, 1) := by decide +kernel
theorem d_Parser_statement_8 : decode b_Parser_statement 8 = .ok (.aload_n 0, 1) := by decide +kernel
theorem d_Parser_statement_9 : decode b_Parser_statement 9 = .ok (.getfield 15, 3) := by decide +kernel
theorem d_Parser_statement_12 : decode b_Parser_statement 12 = .ok (.getfield 42, 3) := by decide +kernel
theorem d_Parser_statement_15 : decode b_Parser_statement 15 = .ok (.if_icmp .ge 22, 3) := by decide +kernel
theorem d_Parser_statement_18 : decode b_Parser_statement 18 = .ok (.aload_n 0, 1) := by decide +kernel
theorem d_Parser_statement_19 : decode b_Parser_statement 19 = .ok (.getfield 15, 3) := by decide +kernel
theorem d_Parser_statement_22 : decode b_Parser_statement 22 = .ok (.getfield 47, 3) := by decide +kernel
theorem d_Parser_statement_25 : decode b_Parser_statement 25 = .ok (.iload_n 1, 1) := by decide +kernel
theorem d_Parser_statement_26 : decode b_Parser_statement 26 = .ok (.iconst 1, 1) := by decide +kernel
theorem d_Parser_statement_27 : decode b_Parser_statement 27 = .ok (.iadd, 1) := by decide +kernel
theorem d_Parser_statement_28 : decode b_Parser_statement 28 = .ok (.iaload, 1) := by decide +kernel
theorem d_Parser_statement_29 : decode b_Parser_statement 29 = .ok (.iconst 1, 1) := by decide +kernel
theorem d_Parser_statement_30 : decode b_Parser_statement 30 = .ok (.if_icmp .ne 7, 3) := by decide +kernel
theorem d_Parser_statement_33 : decode b_Parser_statement 33 = .ok (.iconst 1, 1) := by decide +kernel
theorem d_Parser_statement_34 : decode b_Parser_statement 34 = .ok (.goto 4, 3) := by decide +kernel
theorem d_Parser_statement_37 : decode b_Parser_statement 37 = .ok (.iconst 0, 1) := by decide +kernel
theorem d_Parser_statement_38 : decode b_Parser_statement 38 = .ok (.istore_n 3, 1) := by decide +kernel
theorem d_Parser_statement_39 : decode b_Parser_statement 39 = .ok (.aload_n 0, 1) := by decide +kernel
theorem d_Parser_statement_40 : decode b_Parser_statement 40 = .ok (.iconst 0, 1) := by decide +kernel
theorem d_Parser_statement_41 : decode b_Parser_statement 41 = .ok (.putfield 119, 3) := by decide +kernel
theorem d_Parser_statement_44 : decode b_Parser_statement 44 = .ok (.iload_n 2, 1) := by decide +kernel
theorem d_Parser_statement_45 : decode b_Parser_statement 45 = .ok (.bipush 125, 2) := by decide +kernel
theorem d_Parser_statement_47 : decode b_Parser_statement 47 = .ok (.if_icmp .ne 6, 3) := by decide +kernel
theorem d_Parser_statement_50 : decode b_Parser_statement 50 = .ok (.bipush 6, 2) := by decide +kernel
theorem d_Parser_statement_52 : decode b_Parser_statement 52 = .ok (.ireturn, 1) := by decide +kernel
theorem d_Parser_statement_53 : decode b_Parser_statement 53 = .ok (.iload_n 2, 1) := by decide +kernel
theorem d_Parser_statement_54 : decode b_Parser_statement 54 = .ok (.iconst 5, 1) := by decide +kernel
theorem d_Parser_statement_55 : decode b_Parser_statement 55 = .ok (.if_icmp .eq 7, 3) := by decide +kernel
theorem d_Parser_statement_58 : decode b_Parser_statement 58 = .ok (.iload_n 3, 1) := by decide +kernel
theorem d_Parser_statement_59 : decode b_Parser_statement 59 = .ok (.ifCond .eq 12, 3) := by decide +kernel
theorem d_Parser_statement_62 : decode b_Parser_statement 62 = .ok (.aload_n 0, 1) := by decide +kernel
theorem d_Parser_statement_63 : decode b_Parser_statement 63 = .ok (.iload_n 1, 1) := by decide +kernel
theorem d_Parser_statement_64 : decode b_Parser_statement 64 = .ok (.iload_n 2, 1) := by decide +kernel
theorem d_Parser_statement_65 : decode b_Parser_statement 65 = .ok (.bipush 15, 2) := by decide +kernel
theorem d_Parser_statement_67 : decode b_Parser_statement 67 = .ok (.invokevirtual 94, 3) := by decide +kernel
theorem d_Parser_statement_70 : decode b_Parser_statement 70 = .ok (.ireturn, 1) := by decide +kernel
theorem d_Parser_statement_71 : decode b_Parser_statement 71 = .ok (.iload_n 2, 1) := by decide +kernel
theorem d_Parser_statement_72 : decode b_Parser_statement 72 = .ok (.bipush 6, 2) := by decide +kernel
theorem d_Parser_statement_74 : decode b_Parser_statement 74 = .ok (.if_icmp .ne 13, 3) := by decide +kernel
theorem d_Parser_statement_77 : decode b_Parser_statement 77 = .ok (.aload_n 0, 1) := by decide +kernel
theorem d_Parser_statement_78 : decode b_Parser_statement 78 = .ok (.iload_n 1, 1) := by decide +kernel
theorem d_Parser_statement_79 : decode b_Parser_statement 79 = .ok (.bipush 16, 2) := by decide +kernel
theorem d_Parser_statement_81 : decode b_Parser_statement 81 = .ok (.bipush 17, 2) := by decide +kernel
theorem d_Parser_statement_83 : decode b_Parser_statement 83 = .ok (.invokevirtual 113, 3) := by decide +kernel
theorem d_Parser_statement_86 : decode b_Parser_statement 86 = .ok (.ireturn, 1) := by decide +kernel
theorem d_Parser_statement_87 : decode b_Parser_statement 87 = .ok (.aload_n 0, 1) := by decide +kernel
theorem d_Parser_statement_88 : decode b_Parser_statement 88 = .ok (.iconst 1, 1) := by decide +kernel
theorem d_Parser_statement_89 : decode b_Parser_statement 89 = .ok (.putfield 119, 3) := by decide +kernel
theorem d_Parser_statement_92 : decode b_Parser_statement 92 = .ok (.aload_n 0, 1) := by decide +kernel
theorem d_Parser_statement_93 : decode b_Parser_statement 93 = .ok (.iload_n 1, 1) := by decide +kernel
theorem d_Parser_statement_94 : decode b_Parser_statement 94 = .ok (.iload_n 2, 1) := by decide +kernel
theorem d_Parser_statement_95 : decode b_Parser_statement 95 = .ok (.invokevirtual 123, 3) := by decide +kernel
theorem d_Parser_statement_98 : decode b_Parser_statement 98 = .ok (.ireturn, 1) := by decide +kernel
abbrev y_Parser_nextInBody : MethodName := ⟨"LanguageServer$Parser", "nextInBody", "(II)I"⟩
abbrev b_Parser_nextInBody : ByteArray := prog_6_method_7_code
theorem d_Parser_nextInBody_0 : decode b_Parser_nextInBody 0 = .ok (.aload_n 0, 1) := by decide +kernel
theorem d_Parser_nextInBody_1 : decode b_Parser_nextInBody 1 = .ok (.getfield 39, 3) := by decide +kernel
theorem d_Parser_nextInBody_4 : decode b_Parser_nextInBody 4 = .ok (.lookupswitch 45 #[(14, 28), (15, 35)], 28) := by decide +kernel
theorem d_Parser_nextInBody_32 : decode b_Parser_nextInBody 32 = .ok (.aload_n 0, 1) := by decide +kernel
theorem d_Parser_nextInBody_33 : decode b_Parser_nextInBody 33 = .ok (.iload_n 1, 1) := by decide +kernel
theorem d_Parser_nextInBody_34 : decode b_Parser_nextInBody 34 = .ok (.iload_n 2, 1) := by decide +kernel
theorem d_Parser_nextInBody_35 : decode b_Parser_nextInBody 35 = .ok (.invokevirtual 116, 3) := by decide +kernel
theorem d_Parser_nextInBody_38 : decode b_Parser_nextInBody 38 = .ok (.ireturn, 1) := by decide +kernel
theorem d_Parser_nextInBody_39 : decode b_Parser_nextInBody 39 = .ok (.aload_n 0, 1) := by decide +kernel
theorem d_Parser_nextInBody_40 : decode b_Parser_nextInBody 40 = .ok (.iload_n 1, 1) := by decide +kernel
theorem d_Parser_nextInBody_41 : decode b_Parser_nextInBody 41 = .ok (.iload_n 2, 1) := by decide +kernel
theorem d_Parser_nextInBody_42 : decode b_Parser_nextInBody 42 = .ok (.iconst 5, 1) := by decide +kernel
theorem d_Parser_nextInBody_43 : decode b_Parser_nextInBody 43 = .ok (.bipush 16, 2) := by decide +kernel
theorem d_Parser_nextInBody_45 : decode b_Parser_nextInBody 45 = .ok (.invokevirtual 90, 3) := by decide +kernel
theorem d_Parser_nextInBody_48 : decode b_Parser_nextInBody 48 = .ok (.ireturn, 1) := by decide +kernel
theorem d_Parser_nextInBody_49 : decode b_Parser_nextInBody 49 = .ok (.iload_n 2, 1) := by decide +kernel
theorem d_Parser_nextInBody_50 : decode b_Parser_nextInBody 50 = .ok (.bipush 61, 2) := by decide +kernel
theorem d_Parser_nextInBody_52 : decode b_Parser_nextInBody 52 = .ok (.if_icmp .ne 15, 3) := by decide +kernel
theorem d_Parser_nextInBody_55 : decode b_Parser_nextInBody 55 = .ok (.aload_n 0, 1) := by decide +kernel
theorem d_Parser_nextInBody_56 : decode b_Parser_nextInBody 56 = .ok (.iload_n 1, 1) := by decide +kernel
theorem d_Parser_nextInBody_57 : decode b_Parser_nextInBody 57 = .ok (.bipush 17, 2) := by decide +kernel
theorem d_Parser_nextInBody_59 : decode b_Parser_nextInBody 59 = .ok (.bipush 17, 2) := by decide +kernel
theorem d_Parser_nextInBody_61 : decode b_Parser_nextInBody 61 = .ok (.invokevirtual 113, 3) := by decide +kernel
theorem d_Parser_nextInBody_64 : decode b_Parser_nextInBody 64 = .ok (.goto 4, 3) := by decide +kernel
theorem d_Parser_nextInBody_67 : decode b_Parser_nextInBody 67 = .ok (.iconst 0, 1) := by decide +kernel
theorem d_Parser_nextInBody_68 : decode b_Parser_nextInBody 68 = .ok (.ireturn, 1) := by decide +kernel
abbrev y_Parser_opnArguments : MethodName := ⟨"LanguageServer$Parser", "openArguments", "(I)I"⟩
abbrev b_Parser_opnArguments : ByteArray := prog_6_method_11_code
theorem d_Parser_opnArguments_0 : decode b_Parser_opnArguments 0 = .ok (.iload_n 1, 1) := by decide +kernel
theorem d_Parser_opnArguments_1 : decode b_Parser_opnArguments 1 = .ok (.iconst 1, 1) := by decide +kernel
theorem d_Parser_opnArguments_2 : decode b_Parser_opnArguments 2 = .ok (.isub, 1) := by decide +kernel
theorem d_Parser_opnArguments_3 : decode b_Parser_opnArguments 3 = .ok (.istore_n 2, 1) := by decide +kernel
theorem d_Parser_opnArguments_4 : decode b_Parser_opnArguments 4 = .ok (.iload_n 2, 1) := by decide +kernel
theorem d_Parser_opnArguments_5 : decode b_Parser_opnArguments 5 = .ok (.ifCond .ge 5, 3) := by decide +kernel
theorem d_Parser_opnArguments_8 : decode b_Parser_opnArguments 8 = .ok (.iconst 0, 1) := by decide +kernel
theorem d_Parser_opnArguments_9 : decode b_Parser_opnArguments 9 = .ok (.ireturn, 1) := by decide +kernel
theorem d_Parser_opnArguments_10 : decode b_Parser_opnArguments 10 = .ok (.aload_n 0, 1) := by decide +kernel
theorem d_Parser_opnArguments_11 : decode b_Parser_opnArguments 11 = .ok (.getfield 19, 3) := by decide +kernel
theorem d_Parser_opnArguments_14 : decode b_Parser_opnArguments 14 = .ok (.getfield 107, 3) := by decide +kernel
theorem d_Parser_opnArguments_17 : decode b_Parser_opnArguments 17 = .ok (.iload_n 2, 1) := by decide +kernel
theorem d_Parser_opnArguments_18 : decode b_Parser_opnArguments 18 = .ok (.aload_n 0, 1) := by decide +kernel
theorem d_Parser_opnArguments_19 : decode b_Parser_opnArguments 19 = .ok (.getfield 19, 3) := by decide +kernel
theorem d_Parser_opnArguments_22 : decode b_Parser_opnArguments 22 = .ok (.getfield 107, 3) := by decide +kernel
theorem d_Parser_opnArguments_25 : decode b_Parser_opnArguments 25 = .ok (.iload_n 2, 1) := by decide +kernel
theorem d_Parser_opnArguments_26 : decode b_Parser_opnArguments 26 = .ok (.iaload, 1) := by decide +kernel
theorem d_Parser_opnArguments_27 : decode b_Parser_opnArguments 27 = .ok (.bipush 9, 2) := by decide +kernel
theorem d_Parser_opnArguments_29 : decode b_Parser_opnArguments 29 = .ok (.if_icmp .ne 8, 3) := by decide +kernel
theorem d_Parser_opnArguments_32 : decode b_Parser_opnArguments 32 = .ok (.bipush 10, 2) := by decide +kernel
theorem d_Parser_opnArguments_34 : decode b_Parser_opnArguments 34 = .ok (.goto 5, 3) := by decide +kernel
theorem d_Parser_opnArguments_37 : decode b_Parser_opnArguments 37 = .ok (.bipush 12, 2) := by decide +kernel
theorem d_Parser_opnArguments_39 : decode b_Parser_opnArguments 39 = .ok (.iastore, 1) := by decide +kernel
theorem d_Parser_opnArguments_40 : decode b_Parser_opnArguments 40 = .ok (.aload_n 0, 1) := by decide +kernel
theorem d_Parser_opnArguments_41 : decode b_Parser_opnArguments 41 = .ok (.getfield 19, 3) := by decide +kernel
theorem d_Parser_opnArguments_44 : decode b_Parser_opnArguments 44 = .ok (.getfield 107, 3) := by decide +kernel
theorem d_Parser_opnArguments_47 : decode b_Parser_opnArguments 47 = .ok (.iload_n 1, 1) := by decide +kernel
theorem d_Parser_opnArguments_48 : decode b_Parser_opnArguments 48 = .ok (.bipush 22, 2) := by decide +kernel
theorem d_Parser_opnArguments_50 : decode b_Parser_opnArguments 50 = .ok (.iastore, 1) := by decide +kernel
theorem d_Parser_opnArguments_51 : decode b_Parser_opnArguments 51 = .ok (.aload_n 0, 1) := by decide +kernel
theorem d_Parser_opnArguments_52 : decode b_Parser_opnArguments 52 = .ok (.iload_n 2, 1) := by decide +kernel
theorem d_Parser_opnArguments_53 : decode b_Parser_opnArguments 53 = .ok (.bipush 21, 2) := by decide +kernel
theorem d_Parser_opnArguments_55 : decode b_Parser_opnArguments 55 = .ok (.invokevirtual 135, 3) := by decide +kernel
theorem d_Parser_opnArguments_58 : decode b_Parser_opnArguments 58 = .ok (.ireturn, 1) := by decide +kernel
abbrev y_Parser_countArgument : MethodName := ⟨"LanguageServer$Parser", "countArgument", "()Z"⟩
abbrev b_Parser_countArgument : ByteArray := prog_6_method_17_code
theorem d_Parser_countArgument_0 : decode b_Parser_countArgument 0 = .ok (.aload_n 0, 1) := by decide +kernel
theorem d_Parser_countArgument_1 : decode b_Parser_countArgument 1 = .ok (.getfield 35, 3) := by decide +kernel
theorem d_Parser_countArgument_4 : decode b_Parser_countArgument 4 = .ok (.ifCond .ne 7, 3) := by decide +kernel
theorem d_Parser_countArgument_7 : decode b_Parser_countArgument 7 = .ok (.iconst (-1), 1) := by decide +kernel
theorem d_Parser_countArgument_8 : decode b_Parser_countArgument 8 = .ok (.goto 14, 3) := by decide +kernel
theorem d_Parser_countArgument_11 : decode b_Parser_countArgument 11 = .ok (.aload_n 0, 1) := by decide +kernel
theorem d_Parser_countArgument_12 : decode b_Parser_countArgument 12 = .ok (.getfield 9, 3) := by decide +kernel
theorem d_Parser_countArgument_15 : decode b_Parser_countArgument 15 = .ok (.aload_n 0, 1) := by decide +kernel
theorem d_Parser_countArgument_16 : decode b_Parser_countArgument 16 = .ok (.getfield 35, 3) := by decide +kernel
theorem d_Parser_countArgument_19 : decode b_Parser_countArgument 19 = .ok (.iconst 1, 1) := by decide +kernel
theorem d_Parser_countArgument_20 : decode b_Parser_countArgument 20 = .ok (.isub, 1) := by decide +kernel
theorem d_Parser_countArgument_21 : decode b_Parser_countArgument 21 = .ok (.iaload, 1) := by decide +kernel
theorem d_Parser_countArgument_22 : decode b_Parser_countArgument 22 = .ok (.istore_n 1, 1) := by decide +kernel
theorem d_Parser_countArgument_23 : decode b_Parser_countArgument 23 = .ok (.iload_n 1, 1) := by decide +kernel
theorem d_Parser_countArgument_24 : decode b_Parser_countArgument 24 = .ok (.iconst (-1), 1) := by decide +kernel
theorem d_Parser_countArgument_25 : decode b_Parser_countArgument 25 = .ok (.if_icmp .ne 5, 3) := by decide +kernel
theorem d_Parser_countArgument_28 : decode b_Parser_countArgument 28 = .ok (.iconst 0, 1) := by decide +kernel
theorem d_Parser_countArgument_29 : decode b_Parser_countArgument 29 = .ok (.ireturn, 1) := by decide +kernel
theorem d_Parser_countArgument_30 : decode b_Parser_countArgument 30 = .ok (.aload_n 0, 1) := by decide +kernel
theorem d_Parser_countArgument_31 : decode b_Parser_countArgument 31 = .ok (.getfield 19, 3) := by decide +kernel
theorem d_Parser_countArgument_34 : decode b_Parser_countArgument 34 = .ok (.getfield 110, 3) := by decide +kernel
theorem d_Parser_countArgument_37 : decode b_Parser_countArgument 37 = .ok (.iload_n 1, 1) := by decide +kernel
theorem d_Parser_countArgument_38 : decode b_Parser_countArgument 38 = .ok (.dup2, 1) := by decide +kernel
theorem d_Parser_countArgument_39 : decode b_Parser_countArgument 39 = .ok (.iaload, 1) := by decide +kernel
theorem d_Parser_countArgument_40 : decode b_Parser_countArgument 40 = .ok (.iconst 1, 1) := by decide +kernel
theorem d_Parser_countArgument_41 : decode b_Parser_countArgument 41 = .ok (.iadd, 1) := by decide +kernel
theorem d_Parser_countArgument_42 : decode b_Parser_countArgument 42 = .ok (.iastore, 1) := by decide +kernel
theorem d_Parser_countArgument_43 : decode b_Parser_countArgument 43 = .ok (.iconst 1, 1) := by decide +kernel
theorem d_Parser_countArgument_44 : decode b_Parser_countArgument 44 = .ok (.ireturn, 1) := by decide +kernel
abbrev y_Parser_close : MethodName := ⟨"LanguageServer$Parser", "close", "(I)I"⟩
abbrev b_Parser_close : ByteArray := prog_6_method_16_code
theorem d_Parser_close_0 : decode b_Parser_close 0 = .ok (.aload_n 0, 1) := by decide +kernel
theorem d_Parser_close_1 : decode b_Parser_close 1 = .ok (.getfield 35, 3) := by decide +kernel
theorem d_Parser_close_4 : decode b_Parser_close 4 = .ok (.ifCond .ne 5, 3) := by decide +kernel
theorem d_Parser_close_7 : decode b_Parser_close 7 = .ok (.iconst 0, 1) := by decide +kernel
theorem d_Parser_close_8 : decode b_Parser_close 8 = .ok (.ireturn, 1) := by decide +kernel
theorem d_Parser_close_9 : decode b_Parser_close 9 = .ok (.aload_n 0, 1) := by decide +kernel
theorem d_Parser_close_10 : decode b_Parser_close 10 = .ok (.dup, 1) := by decide +kernel
theorem d_Parser_close_11 : decode b_Parser_close 11 = .ok (.getfield 35, 3) := by decide +kernel
theorem d_Parser_close_14 : decode b_Parser_close 14 = .ok (.iconst 1, 1) := by decide +kernel
theorem d_Parser_close_15 : decode b_Parser_close 15 = .ok (.isub, 1) := by decide +kernel
theorem d_Parser_close_16 : decode b_Parser_close 16 = .ok (.putfield 35, 3) := by decide +kernel
theorem d_Parser_close_19 : decode b_Parser_close 19 = .ok (.aload_n 0, 1) := by decide +kernel
theorem d_Parser_close_20 : decode b_Parser_close 20 = .ok (.iload_n 1, 1) := by decide +kernel
theorem d_Parser_close_21 : decode b_Parser_close 21 = .ok (.bipush 24, 2) := by decide +kernel
theorem d_Parser_close_23 : decode b_Parser_close 23 = .ok (.bipush 22, 2) := by decide +kernel
theorem d_Parser_close_25 : decode b_Parser_close 25 = .ok (.invokevirtual 113, 3) := by decide +kernel
theorem d_Parser_close_28 : decode b_Parser_close 28 = .ok (.ireturn, 1) := by decide +kernel
abbrev y_Parser_equalsSign : MethodName := ⟨"LanguageServer$Parser", "equalsSign", "(I)I"⟩
abbrev b_Parser_equalsSign : ByteArray := prog_6_method_14_code
theorem d_Parser_equalsSign_0 : decode b_Parser_equalsSign 0 = .ok (.aload_n 0, 1) := by decide +kernel
theorem d_Parser_equalsSign_1 : decode b_Parser_equalsSign 1 = .ok (.getfield 35, 3) := by decide +kernel
theorem d_Parser_equalsSign_4 : decode b_Parser_equalsSign 4 = .ok (.ifCond .ne 10, 3) := by decide +kernel
theorem d_Parser_equalsSign_7 : decode b_Parser_equalsSign 7 = .ok (.aload_n 0, 1) := by decide +kernel
theorem d_Parser_equalsSign_8 : decode b_Parser_equalsSign 8 = .ok (.getfield 119, 3) := by decide +kernel
theorem d_Parser_equalsSign_11 : decode b_Parser_equalsSign 11 = .ok (.ifCond .ne 5, 3) := by decide +kernel
theorem d_Parser_equalsSign_14 : decode b_Parser_equalsSign 14 = .ok (.iconst 0, 1) := by decide +kernel
theorem d_Parser_equalsSign_15 : decode b_Parser_equalsSign 15 = .ok (.ireturn, 1) := by decide +kernel
theorem d_Parser_equalsSign_16 : decode b_Parser_equalsSign 16 = .ok (.aload_n 0, 1) := by decide +kernel
theorem d_Parser_equalsSign_17 : decode b_Parser_equalsSign 17 = .ok (.iconst 0, 1) := by decide +kernel
theorem d_Parser_equalsSign_18 : decode b_Parser_equalsSign 18 = .ok (.putfield 119, 3) := by decide +kernel
theorem d_Parser_equalsSign_21 : decode b_Parser_equalsSign 21 = .ok (.aload_n 0, 1) := by decide +kernel
theorem d_Parser_equalsSign_22 : decode b_Parser_equalsSign 22 = .ok (.iload_n 1, 1) := by decide +kernel
theorem d_Parser_equalsSign_23 : decode b_Parser_equalsSign 23 = .ok (.bipush 18, 2) := by decide +kernel
theorem d_Parser_equalsSign_25 : decode b_Parser_equalsSign 25 = .ok (.bipush 17, 2) := by decide +kernel
theorem d_Parser_equalsSign_27 : decode b_Parser_equalsSign 27 = .ok (.invokevirtual 113, 3) := by decide +kernel
theorem d_Parser_equalsSign_30 : decode b_Parser_equalsSign 30 = .ok (.ireturn, 1) := by decide +kernel
abbrev y_Parser_tail : MethodName := ⟨"LanguageServer$Parser", "tail", "(II)I"⟩
abbrev b_Parser_tail : ByteArray := prog_6_method_13_code
theorem d_Parser_tail_0 : decode b_Parser_tail 0 = .ok (.iload_n 2, 1) := by decide +kernel
theorem d_Parser_tail_1 : decode b_Parser_tail 1 = .ok (.lookupswitch 126 #[(41, 93), (43, 62), (44, 72), (46, 59), (59, 105), (61, 99)], 59) := by decide +kernel
theorem d_Parser_tail_60 : decode b_Parser_tail 60 = .ok (.bipush 19, 2) := by decide +kernel
theorem d_Parser_tail_62 : decode b_Parser_tail 62 = .ok (.ireturn, 1) := by decide +kernel
theorem d_Parser_tail_63 : decode b_Parser_tail 63 = .ok (.aload_n 0, 1) := by decide +kernel
theorem d_Parser_tail_64 : decode b_Parser_tail 64 = .ok (.iload_n 1, 1) := by decide +kernel
theorem d_Parser_tail_65 : decode b_Parser_tail 65 = .ok (.bipush 20, 2) := by decide +kernel
theorem d_Parser_tail_67 : decode b_Parser_tail 67 = .ok (.bipush 17, 2) := by decide +kernel
theorem d_Parser_tail_69 : decode b_Parser_tail 69 = .ok (.invokevirtual 113, 3) := by decide +kernel
theorem d_Parser_tail_72 : decode b_Parser_tail 72 = .ok (.ireturn, 1) := by decide +kernel
theorem d_Parser_tail_73 : decode b_Parser_tail 73 = .ok (.aload_n 0, 1) := by decide +kernel
theorem d_Parser_tail_74 : decode b_Parser_tail 74 = .ok (.invokevirtual 141, 3) := by decide +kernel
theorem d_Parser_tail_77 : decode b_Parser_tail 77 = .ok (.ifCond .eq 15, 3) := by decide +kernel
theorem d_Parser_tail_80 : decode b_Parser_tail 80 = .ok (.aload_n 0, 1) := by decide +kernel
theorem d_Parser_tail_81 : decode b_Parser_tail 81 = .ok (.iload_n 1, 1) := by decide +kernel
theorem d_Parser_tail_82 : decode b_Parser_tail 82 = .ok (.bipush 23, 2) := by decide +kernel
theorem d_Parser_tail_84 : decode b_Parser_tail 84 = .ok (.bipush 17, 2) := by decide +kernel
theorem d_Parser_tail_86 : decode b_Parser_tail 86 = .ok (.invokevirtual 113, 3) := by decide +kernel
theorem d_Parser_tail_89 : decode b_Parser_tail 89 = .ok (.goto 4, 3) := by decide +kernel
theorem d_Parser_tail_92 : decode b_Parser_tail 92 = .ok (.iconst 0, 1) := by decide +kernel
theorem d_Parser_tail_93 : decode b_Parser_tail 93 = .ok (.ireturn, 1) := by decide +kernel
theorem d_Parser_tail_94 : decode b_Parser_tail 94 = .ok (.aload_n 0, 1) := by decide +kernel
theorem d_Parser_tail_95 : decode b_Parser_tail 95 = .ok (.iload_n 1, 1) := by decide +kernel
theorem d_Parser_tail_96 : decode b_Parser_tail 96 = .ok (.invokevirtual 138, 3) := by decide +kernel
theorem d_Parser_tail_99 : decode b_Parser_tail 99 = .ok (.ireturn, 1) := by decide +kernel
theorem d_Parser_tail_100 : decode b_Parser_tail 100 = .ok (.aload_n 0, 1) := by decide +kernel
theorem d_Parser_tail_101 : decode b_Parser_tail 101 = .ok (.iload_n 1, 1) := by decide +kernel
theorem d_Parser_tail_102 : decode b_Parser_tail 102 = .ok (.invokevirtual 145, 3) := by decide +kernel
theorem d_Parser_tail_105 : decode b_Parser_tail 105 = .ok (.ireturn, 1) := by decide +kernel
theorem d_Parser_tail_106 : decode b_Parser_tail 106 = .ok (.aload_n 0, 1) := by decide +kernel
theorem d_Parser_tail_107 : decode b_Parser_tail 107 = .ok (.getfield 35, 3) := by decide +kernel
theorem d_Parser_tail_110 : decode b_Parser_tail 110 = .ok (.ifCond .ne 15, 3) := by decide +kernel
theorem d_Parser_tail_113 : decode b_Parser_tail 113 = .ok (.aload_n 0, 1) := by decide +kernel
theorem d_Parser_tail_114 : decode b_Parser_tail 114 = .ok (.iload_n 1, 1) := by decide +kernel
theorem d_Parser_tail_115 : decode b_Parser_tail 115 = .ok (.bipush 19, 2) := by decide +kernel
theorem d_Parser_tail_117 : decode b_Parser_tail 117 = .ok (.bipush 14, 2) := by decide +kernel
theorem d_Parser_tail_119 : decode b_Parser_tail 119 = .ok (.invokevirtual 113, 3) := by decide +kernel
theorem d_Parser_tail_122 : decode b_Parser_tail 122 = .ok (.goto 4, 3) := by decide +kernel
theorem d_Parser_tail_125 : decode b_Parser_tail 125 = .ok (.iconst 0, 1) := by decide +kernel
theorem d_Parser_tail_126 : decode b_Parser_tail 126 = .ok (.ireturn, 1) := by decide +kernel
theorem d_Parser_tail_127 : decode b_Parser_tail 127 = .ok (.iconst 0, 1) := by decide +kernel
theorem d_Parser_tail_128 : decode b_Parser_tail 128 = .ok (.ireturn, 1) := by decide +kernel
abbrev y_Parser_firstArgument : MethodName := ⟨"LanguageServer$Parser", "firstArgument", "(II)I"⟩
abbrev b_Parser_firstArgument : ByteArray := prog_6_method_12_code
theorem d_Parser_firstArgument_0 : decode b_Parser_firstArgument 0 = .ok (.iload_n 2, 1) := by decide +kernel
theorem d_Parser_firstArgument_1 : decode b_Parser_firstArgument 1 = .ok (.bipush 41, 2) := by decide +kernel
theorem d_Parser_firstArgument_3 : decode b_Parser_firstArgument 3 = .ok (.if_icmp .ne 9, 3) := by decide +kernel
theorem d_Parser_firstArgument_6 : decode b_Parser_firstArgument 6 = .ok (.aload_n 0, 1) := by decide +kernel
theorem d_Parser_firstArgument_7 : decode b_Parser_firstArgument 7 = .ok (.iload_n 1, 1) := by decide +kernel
theorem d_Parser_firstArgument_8 : decode b_Parser_firstArgument 8 = .ok (.invokevirtual 138, 3) := by decide +kernel
theorem d_Parser_firstArgument_11 : decode b_Parser_firstArgument 11 = .ok (.ireturn, 1) := by decide +kernel
theorem d_Parser_firstArgument_12 : decode b_Parser_firstArgument 12 = .ok (.aload_n 0, 1) := by decide +kernel
theorem d_Parser_firstArgument_13 : decode b_Parser_firstArgument 13 = .ok (.invokevirtual 141, 3) := by decide +kernel
theorem d_Parser_firstArgument_16 : decode b_Parser_firstArgument 16 = .ok (.pop, 1) := by decide +kernel
theorem d_Parser_firstArgument_17 : decode b_Parser_firstArgument 17 = .ok (.aload_n 0, 1) := by decide +kernel
theorem d_Parser_firstArgument_18 : decode b_Parser_firstArgument 18 = .ok (.iload_n 1, 1) := by decide +kernel
theorem d_Parser_firstArgument_19 : decode b_Parser_firstArgument 19 = .ok (.iload_n 2, 1) := by decide +kernel
theorem d_Parser_firstArgument_20 : decode b_Parser_firstArgument 20 = .ok (.invokevirtual 123, 3) := by decide +kernel
theorem d_Parser_firstArgument_23 : decode b_Parser_firstArgument 23 = .ok (.ireturn, 1) := by decide +kernel
abbrev y_Parser_nextInExpression : MethodName := ⟨"LanguageServer$Parser", "nextInExpression", "(II)I"⟩
abbrev b_Parser_nextInExpression : ByteArray := prog_6_method_9_code
theorem d_Parser_nextInExpression_0 : decode b_Parser_nextInExpression 0 = .ok (.aload_n 0, 1) := by decide +kernel
theorem d_Parser_nextInExpression_1 : decode b_Parser_nextInExpression 1 = .ok (.getfield 39, 3) := by decide +kernel
theorem d_Parser_nextInExpression_4 : decode b_Parser_nextInExpression 4 = .ok (.tableswitch 93 17 21 #[36, 43, 54, 65, 86], 36) := by decide +kernel
theorem d_Parser_nextInExpression_40 : decode b_Parser_nextInExpression 40 = .ok (.aload_n 0, 1) := by decide +kernel
theorem d_Parser_nextInExpression_41 : decode b_Parser_nextInExpression 41 = .ok (.iload_n 1, 1) := by decide +kernel
theorem d_Parser_nextInExpression_42 : decode b_Parser_nextInExpression 42 = .ok (.iload_n 2, 1) := by decide +kernel
theorem d_Parser_nextInExpression_43 : decode b_Parser_nextInExpression 43 = .ok (.invokevirtual 123, 3) := by decide +kernel
theorem d_Parser_nextInExpression_46 : decode b_Parser_nextInExpression 46 = .ok (.ireturn, 1) := by decide +kernel
theorem d_Parser_nextInExpression_47 : decode b_Parser_nextInExpression 47 = .ok (.aload_n 0, 1) := by decide +kernel
theorem d_Parser_nextInExpression_48 : decode b_Parser_nextInExpression 48 = .ok (.iload_n 1, 1) := by decide +kernel
theorem d_Parser_nextInExpression_49 : decode b_Parser_nextInExpression 49 = .ok (.iload_n 2, 1) := by decide +kernel
theorem d_Parser_nextInExpression_50 : decode b_Parser_nextInExpression 50 = .ok (.bipush 8, 2) := by decide +kernel
theorem d_Parser_nextInExpression_52 : decode b_Parser_nextInExpression 52 = .ok (.bipush 22, 2) := by decide +kernel
theorem d_Parser_nextInExpression_54 : decode b_Parser_nextInExpression 54 = .ok (.invokevirtual 90, 3) := by decide +kernel
theorem d_Parser_nextInExpression_57 : decode b_Parser_nextInExpression 57 = .ok (.ireturn, 1) := by decide +kernel
theorem d_Parser_nextInExpression_58 : decode b_Parser_nextInExpression 58 = .ok (.aload_n 0, 1) := by decide +kernel
theorem d_Parser_nextInExpression_59 : decode b_Parser_nextInExpression 59 = .ok (.iload_n 1, 1) := by decide +kernel
theorem d_Parser_nextInExpression_60 : decode b_Parser_nextInExpression 60 = .ok (.iload_n 2, 1) := by decide +kernel
theorem d_Parser_nextInExpression_61 : decode b_Parser_nextInExpression 61 = .ok (.bipush 11, 2) := by decide +kernel
theorem d_Parser_nextInExpression_63 : decode b_Parser_nextInExpression 63 = .ok (.bipush 20, 2) := by decide +kernel
theorem d_Parser_nextInExpression_65 : decode b_Parser_nextInExpression 65 = .ok (.invokevirtual 90, 3) := by decide +kernel
theorem d_Parser_nextInExpression_68 : decode b_Parser_nextInExpression 68 = .ok (.ireturn, 1) := by decide +kernel
theorem d_Parser_nextInExpression_69 : decode b_Parser_nextInExpression 69 = .ok (.iload_n 2, 1) := by decide +kernel
theorem d_Parser_nextInExpression_70 : decode b_Parser_nextInExpression 70 = .ok (.bipush 40, 2) := by decide +kernel
theorem d_Parser_nextInExpression_72 : decode b_Parser_nextInExpression 72 = .ok (.if_icmp .ne 11, 3) := by decide +kernel
theorem d_Parser_nextInExpression_75 : decode b_Parser_nextInExpression 75 = .ok (.aload_n 0, 1) := by decide +kernel
theorem d_Parser_nextInExpression_76 : decode b_Parser_nextInExpression 76 = .ok (.iload_n 1, 1) := by decide +kernel
theorem d_Parser_nextInExpression_77 : decode b_Parser_nextInExpression 77 = .ok (.invokevirtual 126, 3) := by decide +kernel
theorem d_Parser_nextInExpression_80 : decode b_Parser_nextInExpression 80 = .ok (.goto 9, 3) := by decide +kernel
theorem d_Parser_nextInExpression_83 : decode b_Parser_nextInExpression 83 = .ok (.aload_n 0, 1) := by decide +kernel
theorem d_Parser_nextInExpression_84 : decode b_Parser_nextInExpression 84 = .ok (.iload_n 1, 1) := by decide +kernel
theorem d_Parser_nextInExpression_85 : decode b_Parser_nextInExpression 85 = .ok (.iload_n 2, 1) := by decide +kernel
theorem d_Parser_nextInExpression_86 : decode b_Parser_nextInExpression 86 = .ok (.invokevirtual 129, 3) := by decide +kernel
theorem d_Parser_nextInExpression_89 : decode b_Parser_nextInExpression 89 = .ok (.ireturn, 1) := by decide +kernel
theorem d_Parser_nextInExpression_90 : decode b_Parser_nextInExpression 90 = .ok (.aload_n 0, 1) := by decide +kernel
theorem d_Parser_nextInExpression_91 : decode b_Parser_nextInExpression 91 = .ok (.iload_n 1, 1) := by decide +kernel
theorem d_Parser_nextInExpression_92 : decode b_Parser_nextInExpression 92 = .ok (.iload_n 2, 1) := by decide +kernel
theorem d_Parser_nextInExpression_93 : decode b_Parser_nextInExpression 93 = .ok (.invokevirtual 132, 3) := by decide +kernel
theorem d_Parser_nextInExpression_96 : decode b_Parser_nextInExpression 96 = .ok (.ireturn, 1) := by decide +kernel
theorem d_Parser_nextInExpression_97 : decode b_Parser_nextInExpression 97 = .ok (.aload_n 0, 1) := by decide +kernel
theorem d_Parser_nextInExpression_98 : decode b_Parser_nextInExpression 98 = .ok (.iload_n 1, 1) := by decide +kernel
theorem d_Parser_nextInExpression_99 : decode b_Parser_nextInExpression 99 = .ok (.iload_n 2, 1) := by decide +kernel
theorem d_Parser_nextInExpression_100 : decode b_Parser_nextInExpression 100 = .ok (.invokevirtual 129, 3) := by decide +kernel
theorem d_Parser_nextInExpression_103 : decode b_Parser_nextInExpression 103 = .ok (.ireturn, 1) := by decide +kernel
abbrev y_Parser_parse : MethodName := ⟨"LanguageServer$Parser", "parse", "()V"⟩
abbrev b_Parser_parse : ByteArray := prog_6_method_2_code
theorem d_Parser_parse_0 : decode b_Parser_parse 0 = .ok (.aload_n 0, 1) := by decide +kernel
theorem d_Parser_parse_1 : decode b_Parser_parse 1 = .ok (.getfield 19, 3) := by decide +kernel
theorem d_Parser_parse_4 : decode b_Parser_parse 4 = .ok (.invokevirtual 27, 3) := by decide +kernel
theorem d_Parser_parse_7 : decode b_Parser_parse 7 = .ok (.aload_n 0, 1) := by decide +kernel
theorem d_Parser_parse_8 : decode b_Parser_parse 8 = .ok (.getfield 23, 3) := by decide +kernel
theorem d_Parser_parse_11 : decode b_Parser_parse 11 = .ok (.invokevirtual 32, 3) := by decide +kernel
theorem d_Parser_parse_14 : decode b_Parser_parse 14 = .ok (.aload_n 0, 1) := by decide +kernel
theorem d_Parser_parse_15 : decode b_Parser_parse 15 = .ok (.iconst 0, 1) := by decide +kernel
theorem d_Parser_parse_16 : decode b_Parser_parse 16 = .ok (.putfield 35, 3) := by decide +kernel
theorem d_Parser_parse_19 : decode b_Parser_parse 19 = .ok (.aload_n 0, 1) := by decide +kernel
theorem d_Parser_parse_20 : decode b_Parser_parse 20 = .ok (.iconst 1, 1) := by decide +kernel
theorem d_Parser_parse_21 : decode b_Parser_parse 21 = .ok (.putfield 39, 3) := by decide +kernel
theorem d_Parser_parse_24 : decode b_Parser_parse 24 = .ok (.iconst 0, 1) := by decide +kernel
theorem d_Parser_parse_25 : decode b_Parser_parse 25 = .ok (.istore_n 1, 1) := by decide +kernel
theorem d_Parser_parse_26 : decode b_Parser_parse 26 = .ok (.iload_n 1, 1) := by decide +kernel
theorem d_Parser_parse_27 : decode b_Parser_parse 27 = .ok (.aload_n 0, 1) := by decide +kernel
theorem d_Parser_parse_28 : decode b_Parser_parse 28 = .ok (.getfield 15, 3) := by decide +kernel
theorem d_Parser_parse_31 : decode b_Parser_parse 31 = .ok (.getfield 42, 3) := by decide +kernel
theorem d_Parser_parse_34 : decode b_Parser_parse 34 = .ok (.if_icmp .ge 127, 3) := by decide +kernel
theorem d_Parser_parse_37 : decode b_Parser_parse 37 = .ok (.aload_n 0, 1) := by decide +kernel
theorem d_Parser_parse_38 : decode b_Parser_parse 38 = .ok (.getfield 15, 3) := by decide +kernel
theorem d_Parser_parse_41 : decode b_Parser_parse 41 = .ok (.getfield 47, 3) := by decide +kernel
theorem d_Parser_parse_44 : decode b_Parser_parse 44 = .ok (.iload_n 1, 1) := by decide +kernel
theorem d_Parser_parse_45 : decode b_Parser_parse 45 = .ok (.iaload, 1) := by decide +kernel
theorem d_Parser_parse_46 : decode b_Parser_parse 46 = .ok (.istore_n 2, 1) := by decide +kernel
theorem d_Parser_parse_47 : decode b_Parser_parse 47 = .ok (.aload_n 0, 1) := by decide +kernel
theorem d_Parser_parse_48 : decode b_Parser_parse 48 = .ok (.getfield 39, 3) := by decide +kernel
theorem d_Parser_parse_51 : decode b_Parser_parse 51 = .ok (.bipush 8, 2) := by decide +kernel
theorem d_Parser_parse_53 : decode b_Parser_parse 53 = .ok (.if_icmp .gt 16, 3) := by decide +kernel
theorem d_Parser_parse_56 : decode b_Parser_parse 56 = .ok (.aload_n 0, 1) := by decide +kernel
theorem d_Parser_parse_57 : decode b_Parser_parse 57 = .ok (.aload_n 0, 1) := by decide +kernel
theorem d_Parser_parse_58 : decode b_Parser_parse 58 = .ok (.iload_n 1, 1) := by decide +kernel
theorem d_Parser_parse_59 : decode b_Parser_parse 59 = .ok (.iload_n 2, 1) := by decide +kernel
theorem d_Parser_parse_60 : decode b_Parser_parse 60 = .ok (.invokevirtual 50, 3) := by decide +kernel
theorem d_Parser_parse_63 : decode b_Parser_parse 63 = .ok (.putfield 39, 3) := by decide +kernel
theorem d_Parser_parse_66 : decode b_Parser_parse 66 = .ok (.goto 57, 3) := by decide +kernel
theorem d_Parser_parse_69 : decode b_Parser_parse 69 = .ok (.aload_n 0, 1) := by decide +kernel
theorem d_Parser_parse_70 : decode b_Parser_parse 70 = .ok (.getfield 39, 3) := by decide +kernel
theorem d_Parser_parse_73 : decode b_Parser_parse 73 = .ok (.bipush 13, 2) := by decide +kernel
theorem d_Parser_parse_75 : decode b_Parser_parse 75 = .ok (.if_icmp .gt 16, 3) := by decide +kernel
theorem d_Parser_parse_78 : decode b_Parser_parse 78 = .ok (.aload_n 0, 1) := by decide +kernel
theorem d_Parser_parse_79 : decode b_Parser_parse 79 = .ok (.aload_n 0, 1) := by decide +kernel
theorem d_Parser_parse_80 : decode b_Parser_parse 80 = .ok (.iload_n 1, 1) := by decide +kernel
theorem d_Parser_parse_81 : decode b_Parser_parse 81 = .ok (.iload_n 2, 1) := by decide +kernel
theorem d_Parser_parse_82 : decode b_Parser_parse 82 = .ok (.invokevirtual 54, 3) := by decide +kernel
theorem d_Parser_parse_85 : decode b_Parser_parse 85 = .ok (.putfield 39, 3) := by decide +kernel
theorem d_Parser_parse_88 : decode b_Parser_parse 88 = .ok (.goto 35, 3) := by decide +kernel
theorem d_Parser_parse_91 : decode b_Parser_parse 91 = .ok (.aload_n 0, 1) := by decide +kernel
theorem d_Parser_parse_92 : decode b_Parser_parse 92 = .ok (.getfield 39, 3) := by decide +kernel
theorem d_Parser_parse_95 : decode b_Parser_parse 95 = .ok (.bipush 16, 2) := by decide +kernel
theorem d_Parser_parse_97 : decode b_Parser_parse 97 = .ok (.if_icmp .gt 16, 3) := by decide +kernel
theorem d_Parser_parse_100 : decode b_Parser_parse 100 = .ok (.aload_n 0, 1) := by decide +kernel
theorem d_Parser_parse_101 : decode b_Parser_parse 101 = .ok (.aload_n 0, 1) := by decide +kernel
theorem d_Parser_parse_102 : decode b_Parser_parse 102 = .ok (.iload_n 1, 1) := by decide +kernel
theorem d_Parser_parse_103 : decode b_Parser_parse 103 = .ok (.iload_n 2, 1) := by decide +kernel
theorem d_Parser_parse_104 : decode b_Parser_parse 104 = .ok (.invokevirtual 57, 3) := by decide +kernel
theorem d_Parser_parse_107 : decode b_Parser_parse 107 = .ok (.putfield 39, 3) := by decide +kernel
theorem d_Parser_parse_110 : decode b_Parser_parse 110 = .ok (.goto 13, 3) := by decide +kernel
theorem d_Parser_parse_113 : decode b_Parser_parse 113 = .ok (.aload_n 0, 1) := by decide +kernel
theorem d_Parser_parse_114 : decode b_Parser_parse 114 = .ok (.aload_n 0, 1) := by decide +kernel
theorem d_Parser_parse_115 : decode b_Parser_parse 115 = .ok (.iload_n 1, 1) := by decide +kernel
theorem d_Parser_parse_116 : decode b_Parser_parse 116 = .ok (.iload_n 2, 1) := by decide +kernel
theorem d_Parser_parse_117 : decode b_Parser_parse 117 = .ok (.invokevirtual 60, 3) := by decide +kernel
theorem d_Parser_parse_120 : decode b_Parser_parse 120 = .ok (.putfield 39, 3) := by decide +kernel
theorem d_Parser_parse_123 : decode b_Parser_parse 123 = .ok (.aload_n 0, 1) := by decide +kernel
theorem d_Parser_parse_124 : decode b_Parser_parse 124 = .ok (.getfield 39, 3) := by decide +kernel
theorem d_Parser_parse_127 : decode b_Parser_parse 127 = .ok (.ifCond .ne 28, 3) := by decide +kernel
theorem d_Parser_parse_130 : decode b_Parser_parse 130 = .ok (.aload_n 0, 1) := by decide +kernel
theorem d_Parser_parse_131 : decode b_Parser_parse 131 = .ok (.getfield 19, 3) := by decide +kernel
theorem d_Parser_parse_134 : decode b_Parser_parse 134 = .ok (.iload_n 1, 1) := by decide +kernel
theorem d_Parser_parse_135 : decode b_Parser_parse 135 = .ok (.invokevirtual 63, 3) := by decide +kernel
theorem d_Parser_parse_138 : decode b_Parser_parse 138 = .ok (.aload_n 0, 1) := by decide +kernel
theorem d_Parser_parse_139 : decode b_Parser_parse 139 = .ok (.getfield 23, 3) := by decide +kernel
theorem d_Parser_parse_142 : decode b_Parser_parse 142 = .ok (.aload_n 0, 1) := by decide +kernel
theorem d_Parser_parse_143 : decode b_Parser_parse 143 = .ok (.getfield 15, 3) := by decide +kernel
theorem d_Parser_parse_146 : decode b_Parser_parse 146 = .ok (.getfield 67, 3) := by decide +kernel
theorem d_Parser_parse_149 : decode b_Parser_parse 149 = .ok (.iload_n 1, 1) := by decide +kernel
theorem d_Parser_parse_150 : decode b_Parser_parse 150 = .ok (.iaload, 1) := by decide +kernel
theorem d_Parser_parse_151 : decode b_Parser_parse 151 = .ok (.invokevirtual 70, 3) := by decide +kernel
theorem d_Parser_parse_154 : decode b_Parser_parse 154 = .ok (.return_, 1) := by decide +kernel
theorem d_Parser_parse_155 : decode b_Parser_parse 155 = .ok (.iinc 1 1, 3) := by decide +kernel
theorem d_Parser_parse_158 : decode b_Parser_parse 158 = .ok (.goto (-132), 3) := by decide +kernel
theorem d_Parser_parse_161 : decode b_Parser_parse 161 = .ok (.aload_n 0, 1) := by decide +kernel
theorem d_Parser_parse_162 : decode b_Parser_parse 162 = .ok (.getfield 39, 3) := by decide +kernel
theorem d_Parser_parse_165 : decode b_Parser_parse 165 = .ok (.iconst 1, 1) := by decide +kernel
theorem d_Parser_parse_166 : decode b_Parser_parse 166 = .ok (.if_icmp .eq 52, 3) := by decide +kernel
theorem d_Parser_parse_169 : decode b_Parser_parse 169 = .ok (.aload_n 0, 1) := by decide +kernel
theorem d_Parser_parse_170 : decode b_Parser_parse 170 = .ok (.getfield 15, 3) := by decide +kernel
theorem d_Parser_parse_173 : decode b_Parser_parse 173 = .ok (.getfield 42, 3) := by decide +kernel
theorem d_Parser_parse_176 : decode b_Parser_parse 176 = .ok (.ifCond .le 42, 3) := by decide +kernel
theorem d_Parser_parse_179 : decode b_Parser_parse 179 = .ok (.aload_n 0, 1) := by decide +kernel
theorem d_Parser_parse_180 : decode b_Parser_parse 180 = .ok (.getfield 19, 3) := by decide +kernel
theorem d_Parser_parse_183 : decode b_Parser_parse 183 = .ok (.aload_n 0, 1) := by decide +kernel
theorem d_Parser_parse_184 : decode b_Parser_parse 184 = .ok (.getfield 15, 3) := by decide +kernel
theorem d_Parser_parse_187 : decode b_Parser_parse 187 = .ok (.getfield 42, 3) := by decide +kernel
theorem d_Parser_parse_190 : decode b_Parser_parse 190 = .ok (.invokevirtual 63, 3) := by decide +kernel
theorem d_Parser_parse_193 : decode b_Parser_parse 193 = .ok (.aload_n 0, 1) := by decide +kernel
theorem d_Parser_parse_194 : decode b_Parser_parse 194 = .ok (.getfield 23, 3) := by decide +kernel
theorem d_Parser_parse_197 : decode b_Parser_parse 197 = .ok (.aload_n 0, 1) := by decide +kernel
theorem d_Parser_parse_198 : decode b_Parser_parse 198 = .ok (.getfield 15, 3) := by decide +kernel
theorem d_Parser_parse_201 : decode b_Parser_parse 201 = .ok (.getfield 73, 3) := by decide +kernel
theorem d_Parser_parse_204 : decode b_Parser_parse 204 = .ok (.aload_n 0, 1) := by decide +kernel
theorem d_Parser_parse_205 : decode b_Parser_parse 205 = .ok (.getfield 15, 3) := by decide +kernel
theorem d_Parser_parse_208 : decode b_Parser_parse 208 = .ok (.getfield 42, 3) := by decide +kernel
theorem d_Parser_parse_211 : decode b_Parser_parse 211 = .ok (.iconst 1, 1) := by decide +kernel
theorem d_Parser_parse_212 : decode b_Parser_parse 212 = .ok (.isub, 1) := by decide +kernel
theorem d_Parser_parse_213 : decode b_Parser_parse 213 = .ok (.iaload, 1) := by decide +kernel
theorem d_Parser_parse_214 : decode b_Parser_parse 214 = .ok (.invokevirtual 70, 3) := by decide +kernel
theorem d_Parser_parse_217 : decode b_Parser_parse 217 = .ok (.return_, 1) := by decide +kernel
theorem d_Parser_parse_218 : decode b_Parser_parse 218 = .ok (.aload_n 0, 1) := by decide +kernel
theorem d_Parser_parse_219 : decode b_Parser_parse 219 = .ok (.getfield 19, 3) := by decide +kernel
theorem d_Parser_parse_222 : decode b_Parser_parse 222 = .ok (.aload_n 0, 1) := by decide +kernel
theorem d_Parser_parse_223 : decode b_Parser_parse 223 = .ok (.getfield 15, 3) := by decide +kernel
theorem d_Parser_parse_226 : decode b_Parser_parse 226 = .ok (.getfield 42, 3) := by decide +kernel
theorem d_Parser_parse_229 : decode b_Parser_parse 229 = .ok (.invokevirtual 76, 3) := by decide +kernel
theorem d_Parser_parse_232 : decode b_Parser_parse 232 = .ok (.return_, 1) := by decide +kernel
