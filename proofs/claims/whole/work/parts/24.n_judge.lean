abbrev y_Judge_enter : MethodName := ⟨"LanguageServer$Judge", "enter", "(II)V"⟩
abbrev b_Judge_enter : ByteArray := prog_4_method_3_code
theorem d_Judge_enter_0 : decode b_Judge_enter 0 = .ok (.iload_n 2, 1) := by decide +kernel
theorem d_Judge_enter_1 : decode b_Judge_enter 1 = .ok (.tableswitch 99 1 8 #[47, 99, 63, 99, 71, 99, 99, 79], 47) := by decide +kernel
theorem d_Judge_enter_48 : decode b_Judge_enter 48 = .ok (.aload_n 0, 1) := by decide +kernel
theorem d_Judge_enter_49 : decode b_Judge_enter 49 = .ok (.aload_n 0, 1) := by decide +kernel
theorem d_Judge_enter_50 : decode b_Judge_enter 50 = .ok (.getfield 35, 3) := by decide +kernel
theorem d_Judge_enter_53 : decode b_Judge_enter 53 = .ok (.getfield 70, 3) := by decide +kernel
theorem d_Judge_enter_56 : decode b_Judge_enter 56 = .ok (.iload_n 1, 1) := by decide +kernel
theorem d_Judge_enter_57 : decode b_Judge_enter 57 = .ok (.iaload, 1) := by decide +kernel
theorem d_Judge_enter_58 : decode b_Judge_enter 58 = .ok (.putfield 73, 3) := by decide +kernel
theorem d_Judge_enter_61 : decode b_Judge_enter 61 = .ok (.goto 39, 3) := by decide +kernel
theorem d_Judge_enter_64 : decode b_Judge_enter 64 = .ok (.aload_n 0, 1) := by decide +kernel
theorem d_Judge_enter_65 : decode b_Judge_enter 65 = .ok (.iload_n 1, 1) := by decide +kernel
theorem d_Judge_enter_66 : decode b_Judge_enter 66 = .ok (.putfield 76, 3) := by decide +kernel
theorem d_Judge_enter_69 : decode b_Judge_enter 69 = .ok (.goto 31, 3) := by decide +kernel
theorem d_Judge_enter_72 : decode b_Judge_enter 72 = .ok (.aload_n 0, 1) := by decide +kernel
theorem d_Judge_enter_73 : decode b_Judge_enter 73 = .ok (.iload_n 1, 1) := by decide +kernel
theorem d_Judge_enter_74 : decode b_Judge_enter 74 = .ok (.putfield 79, 3) := by decide +kernel
theorem d_Judge_enter_77 : decode b_Judge_enter 77 = .ok (.goto 23, 3) := by decide +kernel
theorem d_Judge_enter_80 : decode b_Judge_enter 80 = .ok (.aload_n 0, 1) := by decide +kernel
theorem d_Judge_enter_81 : decode b_Judge_enter 81 = .ok (.getfield 24, 3) := by decide +kernel
theorem d_Judge_enter_84 : decode b_Judge_enter 84 = .ok (.aload_n 0, 1) := by decide +kernel
theorem d_Judge_enter_85 : decode b_Judge_enter 85 = .ok (.getfield 43, 3) := by decide +kernel
theorem d_Judge_enter_88 : decode b_Judge_enter 88 = .ok (.aload_n 0, 1) := by decide +kernel
theorem d_Judge_enter_89 : decode b_Judge_enter 89 = .ok (.getfield 35, 3) := by decide +kernel
theorem d_Judge_enter_92 : decode b_Judge_enter 92 = .ok (.iload_n 1, 1) := by decide +kernel
theorem d_Judge_enter_93 : decode b_Judge_enter 93 = .ok (.invokevirtual 82, 3) := by decide +kernel
theorem d_Judge_enter_96 : decode b_Judge_enter 96 = .ok (.iastore, 1) := by decide +kernel
theorem d_Judge_enter_97 : decode b_Judge_enter 97 = .ok (.goto 3, 3) := by decide +kernel
theorem d_Judge_enter_100 : decode b_Judge_enter 100 = .ok (.return_, 1) := by decide +kernel
abbrev y_Judge_useVariable : MethodName := ⟨"LanguageServer$Judge", "useVariable", "(I)Z"⟩
abbrev b_Judge_useVariable : ByteArray := prog_4_method_5_code
theorem d_Judge_useVariable_0 : decode b_Judge_useVariable 0 = .ok (.aload_n 0, 1) := by decide +kernel
theorem d_Judge_useVariable_1 : decode b_Judge_useVariable 1 = .ok (.getfield 35, 3) := by decide +kernel
theorem d_Judge_useVariable_4 : decode b_Judge_useVariable 4 = .ok (.getfield 96, 3) := by decide +kernel
theorem d_Judge_useVariable_7 : decode b_Judge_useVariable 7 = .ok (.iload_n 1, 1) := by decide +kernel
theorem d_Judge_useVariable_8 : decode b_Judge_useVariable 8 = .ok (.aload_n 0, 1) := by decide +kernel
theorem d_Judge_useVariable_9 : decode b_Judge_useVariable 9 = .ok (.getfield 35, 3) := by decide +kernel
theorem d_Judge_useVariable_12 : decode b_Judge_useVariable 12 = .ok (.aload_n 0, 1) := by decide +kernel
theorem d_Judge_useVariable_13 : decode b_Judge_useVariable 13 = .ok (.getfield 76, 3) := by decide +kernel
theorem d_Judge_useVariable_16 : decode b_Judge_useVariable 16 = .ok (.aload_n 0, 1) := by decide +kernel
theorem d_Judge_useVariable_17 : decode b_Judge_useVariable 17 = .ok (.getfield 99, 3) := by decide +kernel
theorem d_Judge_useVariable_20 : decode b_Judge_useVariable 20 = .ok (.aload_n 0, 1) := by decide +kernel
theorem d_Judge_useVariable_21 : decode b_Judge_useVariable 21 = .ok (.getfield 31, 3) := by decide +kernel
theorem d_Judge_useVariable_24 : decode b_Judge_useVariable 24 = .ok (.getfield 102, 3) := by decide +kernel
theorem d_Judge_useVariable_27 : decode b_Judge_useVariable 27 = .ok (.iload_n 1, 1) := by decide +kernel
theorem d_Judge_useVariable_28 : decode b_Judge_useVariable 28 = .ok (.laload, 1) := by decide +kernel
theorem d_Judge_useVariable_29 : decode b_Judge_useVariable 29 = .ok (.bipush 48, 2) := by decide +kernel
theorem d_Judge_useVariable_31 : decode b_Judge_useVariable 31 = .ok (.invokevirtual 108, 3) := by decide +kernel
theorem d_Judge_useVariable_34 : decode b_Judge_useVariable 34 = .ok (.iastore, 1) := by decide +kernel
theorem d_Judge_useVariable_35 : decode b_Judge_useVariable 35 = .ok (.aload_n 0, 1) := by decide +kernel
theorem d_Judge_useVariable_36 : decode b_Judge_useVariable 36 = .ok (.getfield 35, 3) := by decide +kernel
theorem d_Judge_useVariable_39 : decode b_Judge_useVariable 39 = .ok (.getfield 96, 3) := by decide +kernel
theorem d_Judge_useVariable_42 : decode b_Judge_useVariable 42 = .ok (.iload_n 1, 1) := by decide +kernel
theorem d_Judge_useVariable_43 : decode b_Judge_useVariable 43 = .ok (.iaload, 1) := by decide +kernel
theorem d_Judge_useVariable_44 : decode b_Judge_useVariable 44 = .ok (.iconst (-1), 1) := by decide +kernel
theorem d_Judge_useVariable_45 : decode b_Judge_useVariable 45 = .ok (.if_icmp .eq 7, 3) := by decide +kernel
theorem d_Judge_useVariable_48 : decode b_Judge_useVariable 48 = .ok (.iconst 1, 1) := by decide +kernel
theorem d_Judge_useVariable_49 : decode b_Judge_useVariable 49 = .ok (.goto 4, 3) := by decide +kernel
theorem d_Judge_useVariable_52 : decode b_Judge_useVariable 52 = .ok (.iconst 0, 1) := by decide +kernel
theorem d_Judge_useVariable_53 : decode b_Judge_useVariable 53 = .ok (.ireturn, 1) := by decide +kernel
abbrev y_Judge_useMember : MethodName := ⟨"LanguageServer$Judge", "useMember", "(IIII)V"⟩
abbrev b_Judge_useMember : ByteArray := prog_4_method_6_code
theorem d_Judge_useMember_0 : decode b_Judge_useMember 0 = .ok (.iload_n 2, 1) := by decide +kernel
theorem d_Judge_useMember_1 : decode b_Judge_useMember 1 = .ok (.bipush (-2), 2) := by decide +kernel
theorem d_Judge_useMember_3 : decode b_Judge_useMember 3 = .ok (.if_icmp .ne 4, 3) := by decide +kernel
theorem d_Judge_useMember_6 : decode b_Judge_useMember 6 = .ok (.return_, 1) := by decide +kernel
theorem d_Judge_useMember_7 : decode b_Judge_useMember 7 = .ok (.aload_n 0, 1) := by decide +kernel
theorem d_Judge_useMember_8 : decode b_Judge_useMember 8 = .ok (.getfield 35, 3) := by decide +kernel
theorem d_Judge_useMember_11 : decode b_Judge_useMember 11 = .ok (.iload_n 2, 1) := by decide +kernel
theorem d_Judge_useMember_12 : decode b_Judge_useMember 12 = .ok (.aload_n 0, 1) := by decide +kernel
theorem d_Judge_useMember_13 : decode b_Judge_useMember 13 = .ok (.getfield 31, 3) := by decide +kernel
theorem d_Judge_useMember_16 : decode b_Judge_useMember 16 = .ok (.getfield 102, 3) := by decide +kernel
theorem d_Judge_useMember_19 : decode b_Judge_useMember 19 = .ok (.iload_n 1, 1) := by decide +kernel
theorem d_Judge_useMember_20 : decode b_Judge_useMember 20 = .ok (.laload, 1) := by decide +kernel
theorem d_Judge_useMember_21 : decode b_Judge_useMember 21 = .ok (.invokevirtual 112, 3) := by decide +kernel
theorem d_Judge_useMember_24 : decode b_Judge_useMember 24 = .ok (.istore 5, 2) := by decide +kernel
theorem d_Judge_useMember_26 : decode b_Judge_useMember 26 = .ok (.iload 5, 2) := by decide +kernel
theorem d_Judge_useMember_28 : decode b_Judge_useMember 28 = .ok (.iconst (-1), 1) := by decide +kernel
theorem d_Judge_useMember_29 : decode b_Judge_useMember 29 = .ok (.if_icmp .eq 17, 3) := by decide +kernel
theorem d_Judge_useMember_32 : decode b_Judge_useMember 32 = .ok (.aload_n 0, 1) := by decide +kernel
theorem d_Judge_useMember_33 : decode b_Judge_useMember 33 = .ok (.getfield 35, 3) := by decide +kernel
theorem d_Judge_useMember_36 : decode b_Judge_useMember 36 = .ok (.getfield 52, 3) := by decide +kernel
theorem d_Judge_useMember_39 : decode b_Judge_useMember 39 = .ok (.iload 5, 2) := by decide +kernel
theorem d_Judge_useMember_41 : decode b_Judge_useMember 41 = .ok (.iaload, 1) := by decide +kernel
theorem d_Judge_useMember_42 : decode b_Judge_useMember 42 = .ok (.iload_n 3, 1) := by decide +kernel
theorem d_Judge_useMember_43 : decode b_Judge_useMember 43 = .ok (.if_icmp .eq 14, 3) := by decide +kernel
theorem d_Judge_useMember_46 : decode b_Judge_useMember 46 = .ok (.aload_n 0, 1) := by decide +kernel
theorem d_Judge_useMember_47 : decode b_Judge_useMember 47 = .ok (.getfield 39, 3) := by decide +kernel
theorem d_Judge_useMember_50 : decode b_Judge_useMember 50 = .ok (.iload_n 1, 1) := by decide +kernel
theorem d_Judge_useMember_51 : decode b_Judge_useMember 51 = .ok (.iload 4, 2) := by decide +kernel
theorem d_Judge_useMember_53 : decode b_Judge_useMember 53 = .ok (.invokevirtual 116, 3) := by decide +kernel
theorem d_Judge_useMember_56 : decode b_Judge_useMember 56 = .ok (.return_, 1) := by decide +kernel
theorem d_Judge_useMember_57 : decode b_Judge_useMember 57 = .ok (.aload_n 0, 1) := by decide +kernel
theorem d_Judge_useMember_58 : decode b_Judge_useMember 58 = .ok (.getfield 35, 3) := by decide +kernel
theorem d_Judge_useMember_61 : decode b_Judge_useMember 61 = .ok (.getfield 96, 3) := by decide +kernel
theorem d_Judge_useMember_64 : decode b_Judge_useMember 64 = .ok (.iload_n 1, 1) := by decide +kernel
theorem d_Judge_useMember_65 : decode b_Judge_useMember 65 = .ok (.iload 5, 2) := by decide +kernel
theorem d_Judge_useMember_67 : decode b_Judge_useMember 67 = .ok (.iastore, 1) := by decide +kernel
theorem d_Judge_useMember_68 : decode b_Judge_useMember 68 = .ok (.iload_n 3, 1) := by decide +kernel
theorem d_Judge_useMember_69 : decode b_Judge_useMember 69 = .ok (.iconst 3, 1) := by decide +kernel
theorem d_Judge_useMember_70 : decode b_Judge_useMember 70 = .ok (.if_icmp .ne 35, 3) := by decide +kernel
theorem d_Judge_useMember_73 : decode b_Judge_useMember 73 = .ok (.aload_n 0, 1) := by decide +kernel
theorem d_Judge_useMember_74 : decode b_Judge_useMember 74 = .ok (.getfield 35, 3) := by decide +kernel
theorem d_Judge_useMember_77 : decode b_Judge_useMember 77 = .ok (.getfield 119, 3) := by decide +kernel
theorem d_Judge_useMember_80 : decode b_Judge_useMember 80 = .ok (.iload 5, 2) := by decide +kernel
theorem d_Judge_useMember_82 : decode b_Judge_useMember 82 = .ok (.iaload, 1) := by decide +kernel
theorem d_Judge_useMember_83 : decode b_Judge_useMember 83 = .ok (.aload_n 0, 1) := by decide +kernel
theorem d_Judge_useMember_84 : decode b_Judge_useMember 84 = .ok (.getfield 35, 3) := by decide +kernel
theorem d_Judge_useMember_87 : decode b_Judge_useMember 87 = .ok (.getfield 119, 3) := by decide +kernel
theorem d_Judge_useMember_90 : decode b_Judge_useMember 90 = .ok (.iload_n 1, 1) := by decide +kernel
theorem d_Judge_useMember_91 : decode b_Judge_useMember 91 = .ok (.iaload, 1) := by decide +kernel
theorem d_Judge_useMember_92 : decode b_Judge_useMember 92 = .ok (.if_icmp .eq 13, 3) := by decide +kernel
theorem d_Judge_useMember_95 : decode b_Judge_useMember 95 = .ok (.aload_n 0, 1) := by decide +kernel
theorem d_Judge_useMember_96 : decode b_Judge_useMember 96 = .ok (.getfield 39, 3) := by decide +kernel
theorem d_Judge_useMember_99 : decode b_Judge_useMember 99 = .ok (.iload_n 1, 1) := by decide +kernel
theorem d_Judge_useMember_100 : decode b_Judge_useMember 100 = .ok (.bipush 8, 2) := by decide +kernel
theorem d_Judge_useMember_102 : decode b_Judge_useMember 102 = .ok (.invokevirtual 116, 3) := by decide +kernel
theorem d_Judge_useMember_105 : decode b_Judge_useMember 105 = .ok (.return_, 1) := by decide +kernel
abbrev y_Judge_takeOperand : MethodName := ⟨"LanguageServer$Judge", "takeOperand", "(II)V"⟩
abbrev b_Judge_takeOperand : ByteArray := prog_4_method_4_code
theorem d_Judge_takeOperand_0 : decode b_Judge_takeOperand 0 = .ok (.iload_n 2, 1) := by decide +kernel
theorem d_Judge_takeOperand_1 : decode b_Judge_takeOperand 1 = .ok (.tableswitch 122 9 14 #[64, 87, 102, 122, 39, 50], 39) := by decide +kernel
theorem d_Judge_takeOperand_40 : decode b_Judge_takeOperand 40 = .ok (.aload_n 0, 1) := by decide +kernel
theorem d_Judge_takeOperand_41 : decode b_Judge_takeOperand 41 = .ok (.getfield 24, 3) := by decide +kernel
theorem d_Judge_takeOperand_44 : decode b_Judge_takeOperand 44 = .ok (.aload_n 0, 1) := by decide +kernel
theorem d_Judge_takeOperand_45 : decode b_Judge_takeOperand 45 = .ok (.getfield 43, 3) := by decide +kernel
theorem d_Judge_takeOperand_48 : decode b_Judge_takeOperand 48 = .ok (.iconst (-1), 1) := by decide +kernel
theorem d_Judge_takeOperand_49 : decode b_Judge_takeOperand 49 = .ok (.iastore, 1) := by decide +kernel
theorem d_Judge_takeOperand_50 : decode b_Judge_takeOperand 50 = .ok (.return_, 1) := by decide +kernel
theorem d_Judge_takeOperand_51 : decode b_Judge_takeOperand 51 = .ok (.aload_n 0, 1) := by decide +kernel
theorem d_Judge_takeOperand_52 : decode b_Judge_takeOperand 52 = .ok (.getfield 24, 3) := by decide +kernel
theorem d_Judge_takeOperand_55 : decode b_Judge_takeOperand 55 = .ok (.aload_n 0, 1) := by decide +kernel
theorem d_Judge_takeOperand_56 : decode b_Judge_takeOperand 56 = .ok (.getfield 43, 3) := by decide +kernel
theorem d_Judge_takeOperand_59 : decode b_Judge_takeOperand 59 = .ok (.aload_n 0, 1) := by decide +kernel
theorem d_Judge_takeOperand_60 : decode b_Judge_takeOperand 60 = .ok (.getfield 73, 3) := by decide +kernel
theorem d_Judge_takeOperand_63 : decode b_Judge_takeOperand 63 = .ok (.iastore, 1) := by decide +kernel
theorem d_Judge_takeOperand_64 : decode b_Judge_takeOperand 64 = .ok (.return_, 1) := by decide +kernel
theorem d_Judge_takeOperand_65 : decode b_Judge_takeOperand 65 = .ok (.aload_n 0, 1) := by decide +kernel
theorem d_Judge_takeOperand_66 : decode b_Judge_takeOperand 66 = .ok (.iload_n 1, 1) := by decide +kernel
theorem d_Judge_takeOperand_67 : decode b_Judge_takeOperand 67 = .ok (.invokevirtual 86, 3) := by decide +kernel
theorem d_Judge_takeOperand_70 : decode b_Judge_takeOperand 70 = .ok (.ifCond .ne 70, 3) := by decide +kernel
theorem d_Judge_takeOperand_73 : decode b_Judge_takeOperand 73 = .ok (.aload_n 0, 1) := by decide +kernel
theorem d_Judge_takeOperand_74 : decode b_Judge_takeOperand 74 = .ok (.iload_n 1, 1) := by decide +kernel
theorem d_Judge_takeOperand_75 : decode b_Judge_takeOperand 75 = .ok (.aload_n 0, 1) := by decide +kernel
theorem d_Judge_takeOperand_76 : decode b_Judge_takeOperand 76 = .ok (.getfield 73, 3) := by decide +kernel
theorem d_Judge_takeOperand_79 : decode b_Judge_takeOperand 79 = .ok (.iconst 2, 1) := by decide +kernel
theorem d_Judge_takeOperand_80 : decode b_Judge_takeOperand 80 = .ok (.bipush 6, 2) := by decide +kernel
theorem d_Judge_takeOperand_82 : decode b_Judge_takeOperand 82 = .ok (.invokevirtual 92, 3) := by decide +kernel
theorem d_Judge_takeOperand_85 : decode b_Judge_takeOperand 85 = .ok (.goto 55, 3) := by decide +kernel
theorem d_Judge_takeOperand_88 : decode b_Judge_takeOperand 88 = .ok (.aload_n 0, 1) := by decide +kernel
theorem d_Judge_takeOperand_89 : decode b_Judge_takeOperand 89 = .ok (.iload_n 1, 1) := by decide +kernel
theorem d_Judge_takeOperand_90 : decode b_Judge_takeOperand 90 = .ok (.aload_n 0, 1) := by decide +kernel
theorem d_Judge_takeOperand_91 : decode b_Judge_takeOperand 91 = .ok (.getfield 73, 3) := by decide +kernel
theorem d_Judge_takeOperand_94 : decode b_Judge_takeOperand 94 = .ok (.iconst 3, 1) := by decide +kernel
theorem d_Judge_takeOperand_95 : decode b_Judge_takeOperand 95 = .ok (.bipush 6, 2) := by decide +kernel
theorem d_Judge_takeOperand_97 : decode b_Judge_takeOperand 97 = .ok (.invokevirtual 92, 3) := by decide +kernel
theorem d_Judge_takeOperand_100 : decode b_Judge_takeOperand 100 = .ok (.goto 40, 3) := by decide +kernel
theorem d_Judge_takeOperand_103 : decode b_Judge_takeOperand 103 = .ok (.aload_n 0, 1) := by decide +kernel
theorem d_Judge_takeOperand_104 : decode b_Judge_takeOperand 104 = .ok (.iload_n 1, 1) := by decide +kernel
theorem d_Judge_takeOperand_105 : decode b_Judge_takeOperand 105 = .ok (.aload_n 0, 1) := by decide +kernel
theorem d_Judge_takeOperand_106 : decode b_Judge_takeOperand 106 = .ok (.getfield 24, 3) := by decide +kernel
theorem d_Judge_takeOperand_109 : decode b_Judge_takeOperand 109 = .ok (.aload_n 0, 1) := by decide +kernel
theorem d_Judge_takeOperand_110 : decode b_Judge_takeOperand 110 = .ok (.getfield 43, 3) := by decide +kernel
theorem d_Judge_takeOperand_113 : decode b_Judge_takeOperand 113 = .ok (.iaload, 1) := by decide +kernel
theorem d_Judge_takeOperand_114 : decode b_Judge_takeOperand 114 = .ok (.iconst 2, 1) := by decide +kernel
theorem d_Judge_takeOperand_115 : decode b_Judge_takeOperand 115 = .ok (.bipush 7, 2) := by decide +kernel
theorem d_Judge_takeOperand_117 : decode b_Judge_takeOperand 117 = .ok (.invokevirtual 92, 3) := by decide +kernel
theorem d_Judge_takeOperand_120 : decode b_Judge_takeOperand 120 = .ok (.goto 20, 3) := by decide +kernel
theorem d_Judge_takeOperand_123 : decode b_Judge_takeOperand 123 = .ok (.aload_n 0, 1) := by decide +kernel
theorem d_Judge_takeOperand_124 : decode b_Judge_takeOperand 124 = .ok (.iload_n 1, 1) := by decide +kernel
theorem d_Judge_takeOperand_125 : decode b_Judge_takeOperand 125 = .ok (.aload_n 0, 1) := by decide +kernel
theorem d_Judge_takeOperand_126 : decode b_Judge_takeOperand 126 = .ok (.getfield 24, 3) := by decide +kernel
theorem d_Judge_takeOperand_129 : decode b_Judge_takeOperand 129 = .ok (.aload_n 0, 1) := by decide +kernel
theorem d_Judge_takeOperand_130 : decode b_Judge_takeOperand 130 = .ok (.getfield 43, 3) := by decide +kernel
theorem d_Judge_takeOperand_133 : decode b_Judge_takeOperand 133 = .ok (.iaload, 1) := by decide +kernel
theorem d_Judge_takeOperand_134 : decode b_Judge_takeOperand 134 = .ok (.iconst 3, 1) := by decide +kernel
theorem d_Judge_takeOperand_135 : decode b_Judge_takeOperand 135 = .ok (.bipush 7, 2) := by decide +kernel
theorem d_Judge_takeOperand_137 : decode b_Judge_takeOperand 137 = .ok (.invokevirtual 92, 3) := by decide +kernel
theorem d_Judge_takeOperand_140 : decode b_Judge_takeOperand 140 = .ok (.aload_n 0, 1) := by decide +kernel
theorem d_Judge_takeOperand_141 : decode b_Judge_takeOperand 141 = .ok (.getfield 24, 3) := by decide +kernel
theorem d_Judge_takeOperand_144 : decode b_Judge_takeOperand 144 = .ok (.aload_n 0, 1) := by decide +kernel
theorem d_Judge_takeOperand_145 : decode b_Judge_takeOperand 145 = .ok (.getfield 43, 3) := by decide +kernel
theorem d_Judge_takeOperand_148 : decode b_Judge_takeOperand 148 = .ok (.aload_n 0, 1) := by decide +kernel
theorem d_Judge_takeOperand_149 : decode b_Judge_takeOperand 149 = .ok (.getfield 35, 3) := by decide +kernel
theorem d_Judge_takeOperand_152 : decode b_Judge_takeOperand 152 = .ok (.iload_n 1, 1) := by decide +kernel
theorem d_Judge_takeOperand_153 : decode b_Judge_takeOperand 153 = .ok (.invokevirtual 82, 3) := by decide +kernel
theorem d_Judge_takeOperand_156 : decode b_Judge_takeOperand 156 = .ok (.iastore, 1) := by decide +kernel
theorem d_Judge_takeOperand_157 : decode b_Judge_takeOperand 157 = .ok (.return_, 1) := by decide +kernel
abbrev y_Judge_begin : MethodName := ⟨"LanguageServer$Judge", "begin", "(I)V"⟩
abbrev b_Judge_begin : ByteArray := prog_4_method_13_code
theorem d_Judge_begin_0 : decode b_Judge_begin 0 = .ok (.aload_n 0, 1) := by decide +kernel
theorem d_Judge_begin_1 : decode b_Judge_begin 1 = .ok (.getfield 18, 3) := by decide +kernel
theorem d_Judge_begin_4 : decode b_Judge_begin 4 = .ok (.aload_n 0, 1) := by decide +kernel
theorem d_Judge_begin_5 : decode b_Judge_begin 5 = .ok (.getfield 43, 3) := by decide +kernel
theorem d_Judge_begin_8 : decode b_Judge_begin 8 = .ok (.iload_n 1, 1) := by decide +kernel
theorem d_Judge_begin_9 : decode b_Judge_begin 9 = .ok (.iastore, 1) := by decide +kernel
theorem d_Judge_begin_10 : decode b_Judge_begin 10 = .ok (.aload_n 0, 1) := by decide +kernel
theorem d_Judge_begin_11 : decode b_Judge_begin 11 = .ok (.getfield 21, 3) := by decide +kernel
theorem d_Judge_begin_14 : decode b_Judge_begin 14 = .ok (.aload_n 0, 1) := by decide +kernel
theorem d_Judge_begin_15 : decode b_Judge_begin 15 = .ok (.getfield 43, 3) := by decide +kernel
theorem d_Judge_begin_18 : decode b_Judge_begin 18 = .ok (.iload_n 1, 1) := by decide +kernel
theorem d_Judge_begin_19 : decode b_Judge_begin 19 = .ok (.iastore, 1) := by decide +kernel
theorem d_Judge_begin_20 : decode b_Judge_begin 20 = .ok (.aload_n 0, 1) := by decide +kernel
theorem d_Judge_begin_21 : decode b_Judge_begin 21 = .ok (.getfield 27, 3) := by decide +kernel
theorem d_Judge_begin_24 : decode b_Judge_begin 24 = .ok (.aload_n 0, 1) := by decide +kernel
theorem d_Judge_begin_25 : decode b_Judge_begin 25 = .ok (.getfield 43, 3) := by decide +kernel
theorem d_Judge_begin_28 : decode b_Judge_begin 28 = .ok (.iconst 0, 1) := by decide +kernel
theorem d_Judge_begin_29 : decode b_Judge_begin 29 = .ok (.bastore, 1) := by decide +kernel
theorem d_Judge_begin_30 : decode b_Judge_begin 30 = .ok (.return_, 1) := by decide +kernel
abbrev y_Judge_beginStatement : MethodName := ⟨"LanguageServer$Judge", "beginStatement", "(I)V"⟩
abbrev b_Judge_beginStatement : ByteArray := prog_4_method_8_code
theorem d_Judge_beginStatement_0 : decode b_Judge_beginStatement 0 = .ok (.aload_n 0, 1) := by decide +kernel
theorem d_Judge_beginStatement_1 : decode b_Judge_beginStatement 1 = .ok (.iload_n 1, 1) := by decide +kernel
theorem d_Judge_beginStatement_2 : decode b_Judge_beginStatement 2 = .ok (.putfield 99, 3) := by decide +kernel
theorem d_Judge_beginStatement_5 : decode b_Judge_beginStatement 5 = .ok (.aload_n 0, 1) := by decide +kernel
theorem d_Judge_beginStatement_6 : decode b_Judge_beginStatement 6 = .ok (.bipush (-2), 2) := by decide +kernel
theorem d_Judge_beginStatement_8 : decode b_Judge_beginStatement 8 = .ok (.putfield 126, 3) := by decide +kernel
theorem d_Judge_beginStatement_11 : decode b_Judge_beginStatement 11 = .ok (.aload_n 0, 1) := by decide +kernel
theorem d_Judge_beginStatement_12 : decode b_Judge_beginStatement 12 = .ok (.iload_n 1, 1) := by decide +kernel
theorem d_Judge_beginStatement_13 : decode b_Judge_beginStatement 13 = .ok (.invokevirtual 129, 3) := by decide +kernel
theorem d_Judge_beginStatement_16 : decode b_Judge_beginStatement 16 = .ok (.return_, 1) := by decide +kernel
abbrev y_Judge_checkTarget : MethodName := ⟨"LanguageServer$Judge", "checkTarget", "(I)V"⟩
abbrev b_Judge_checkTarget : ByteArray := prog_4_method_9_code
theorem d_Judge_checkTarget_0 : decode b_Judge_checkTarget 0 = .ok (.iload_n 1, 1) := by decide +kernel
theorem d_Judge_checkTarget_1 : decode b_Judge_checkTarget 1 = .ok (.ifCond .le 17, 3) := by decide +kernel
theorem d_Judge_checkTarget_4 : decode b_Judge_checkTarget 4 = .ok (.aload_n 0, 1) := by decide +kernel
theorem d_Judge_checkTarget_5 : decode b_Judge_checkTarget 5 = .ok (.getfield 35, 3) := by decide +kernel
theorem d_Judge_checkTarget_8 : decode b_Judge_checkTarget 8 = .ok (.getfield 52, 3) := by decide +kernel
theorem d_Judge_checkTarget_11 : decode b_Judge_checkTarget 11 = .ok (.iload_n 1, 1) := by decide +kernel
theorem d_Judge_checkTarget_12 : decode b_Judge_checkTarget 12 = .ok (.iconst 1, 1) := by decide +kernel
theorem d_Judge_checkTarget_13 : decode b_Judge_checkTarget 13 = .ok (.isub, 1) := by decide +kernel
theorem d_Judge_checkTarget_14 : decode b_Judge_checkTarget 14 = .ok (.iaload, 1) := by decide +kernel
theorem d_Judge_checkTarget_15 : decode b_Judge_checkTarget 15 = .ok (.goto 4, 3) := by decide +kernel
theorem d_Judge_checkTarget_18 : decode b_Judge_checkTarget 18 = .ok (.iconst 0, 1) := by decide +kernel
theorem d_Judge_checkTarget_19 : decode b_Judge_checkTarget 19 = .ok (.istore_n 2, 1) := by decide +kernel
theorem d_Judge_checkTarget_20 : decode b_Judge_checkTarget 20 = .ok (.aload_n 0, 1) := by decide +kernel
theorem d_Judge_checkTarget_21 : decode b_Judge_checkTarget 21 = .ok (.getfield 27, 3) := by decide +kernel
theorem d_Judge_checkTarget_24 : decode b_Judge_checkTarget 24 = .ok (.aload_n 0, 1) := by decide +kernel
theorem d_Judge_checkTarget_25 : decode b_Judge_checkTarget 25 = .ok (.getfield 43, 3) := by decide +kernel
theorem d_Judge_checkTarget_28 : decode b_Judge_checkTarget 28 = .ok (.baload, 1) := by decide +kernel
theorem d_Judge_checkTarget_29 : decode b_Judge_checkTarget 29 = .ok (.ifCond .ne 15, 3) := by decide +kernel
theorem d_Judge_checkTarget_32 : decode b_Judge_checkTarget 32 = .ok (.iload_n 2, 1) := by decide +kernel
theorem d_Judge_checkTarget_33 : decode b_Judge_checkTarget 33 = .ok (.bipush 9, 2) := by decide +kernel
theorem d_Judge_checkTarget_35 : decode b_Judge_checkTarget 35 = .ok (.if_icmp .eq 27, 3) := by decide +kernel
theorem d_Judge_checkTarget_38 : decode b_Judge_checkTarget 38 = .ok (.iload_n 2, 1) := by decide +kernel
theorem d_Judge_checkTarget_39 : decode b_Judge_checkTarget 39 = .ok (.bipush 11, 2) := by decide +kernel
theorem d_Judge_checkTarget_41 : decode b_Judge_checkTarget 41 = .ok (.if_icmp .eq 21, 3) := by decide +kernel
theorem d_Judge_checkTarget_44 : decode b_Judge_checkTarget 44 = .ok (.aload_n 0, 1) := by decide +kernel
theorem d_Judge_checkTarget_45 : decode b_Judge_checkTarget 45 = .ok (.getfield 39, 3) := by decide +kernel
theorem d_Judge_checkTarget_48 : decode b_Judge_checkTarget 48 = .ok (.aload_n 0, 1) := by decide +kernel
theorem d_Judge_checkTarget_49 : decode b_Judge_checkTarget 49 = .ok (.getfield 18, 3) := by decide +kernel
theorem d_Judge_checkTarget_52 : decode b_Judge_checkTarget 52 = .ok (.aload_n 0, 1) := by decide +kernel
theorem d_Judge_checkTarget_53 : decode b_Judge_checkTarget 53 = .ok (.getfield 43, 3) := by decide +kernel
theorem d_Judge_checkTarget_56 : decode b_Judge_checkTarget 56 = .ok (.iaload, 1) := by decide +kernel
theorem d_Judge_checkTarget_57 : decode b_Judge_checkTarget 57 = .ok (.bipush 10, 2) := by decide +kernel
theorem d_Judge_checkTarget_59 : decode b_Judge_checkTarget 59 = .ok (.invokevirtual 116, 3) := by decide +kernel
theorem d_Judge_checkTarget_62 : decode b_Judge_checkTarget 62 = .ok (.return_, 1) := by decide +kernel
abbrev y_Judge_want : MethodName := ⟨"LanguageServer$Judge", "want", "(III)V"⟩
abbrev b_Judge_want : ByteArray := prog_4_method_16_code
theorem d_Judge_want_0 : decode b_Judge_want 0 = .ok (.aload_n 0, 1) := by decide +kernel
theorem d_Judge_want_1 : decode b_Judge_want 1 = .ok (.getfield 35, 3) := by decide +kernel
theorem d_Judge_want_4 : decode b_Judge_want 4 = .ok (.iload_n 2, 1) := by decide +kernel
theorem d_Judge_want_5 : decode b_Judge_want 5 = .ok (.iload_n 3, 1) := by decide +kernel
theorem d_Judge_want_6 : decode b_Judge_want 6 = .ok (.invokevirtual 156, 3) := by decide +kernel
theorem d_Judge_want_9 : decode b_Judge_want 9 = .ok (.ifCond .ne 13, 3) := by decide +kernel
theorem d_Judge_want_12 : decode b_Judge_want 12 = .ok (.aload_n 0, 1) := by decide +kernel
theorem d_Judge_want_13 : decode b_Judge_want 13 = .ok (.getfield 39, 3) := by decide +kernel
theorem d_Judge_want_16 : decode b_Judge_want 16 = .ok (.iload_n 1, 1) := by decide +kernel
theorem d_Judge_want_17 : decode b_Judge_want 17 = .ok (.bipush 9, 2) := by decide +kernel
theorem d_Judge_want_19 : decode b_Judge_want 19 = .ok (.invokevirtual 116, 3) := by decide +kernel
theorem d_Judge_want_22 : decode b_Judge_want 22 = .ok (.return_, 1) := by decide +kernel
abbrev y_Judge_endExpression : MethodName := ⟨"LanguageServer$Judge", "endExpression", "()I"⟩
abbrev b_Judge_endExpression : ByteArray := prog_4_method_14_code
theorem d_Judge_endExpression_0 : decode b_Judge_endExpression 0 = .ok (.aload_n 0, 1) := by decide +kernel
theorem d_Judge_endExpression_1 : decode b_Judge_endExpression 1 = .ok (.getfield 27, 3) := by decide +kernel
theorem d_Judge_endExpression_4 : decode b_Judge_endExpression 4 = .ok (.aload_n 0, 1) := by decide +kernel
theorem d_Judge_endExpression_5 : decode b_Judge_endExpression 5 = .ok (.getfield 43, 3) := by decide +kernel
theorem d_Judge_endExpression_8 : decode b_Judge_endExpression 8 = .ok (.baload, 1) := by decide +kernel
theorem d_Judge_endExpression_9 : decode b_Judge_endExpression 9 = .ok (.ifCond .ne 13, 3) := by decide +kernel
theorem d_Judge_endExpression_12 : decode b_Judge_endExpression 12 = .ok (.aload_n 0, 1) := by decide +kernel
theorem d_Judge_endExpression_13 : decode b_Judge_endExpression 13 = .ok (.getfield 24, 3) := by decide +kernel
theorem d_Judge_endExpression_16 : decode b_Judge_endExpression 16 = .ok (.aload_n 0, 1) := by decide +kernel
theorem d_Judge_endExpression_17 : decode b_Judge_endExpression 17 = .ok (.getfield 43, 3) := by decide +kernel
theorem d_Judge_endExpression_20 : decode b_Judge_endExpression 20 = .ok (.iaload, 1) := by decide +kernel
theorem d_Judge_endExpression_21 : decode b_Judge_endExpression 21 = .ok (.ireturn, 1) := by decide +kernel
theorem d_Judge_endExpression_22 : decode b_Judge_endExpression 22 = .ok (.aload_n 0, 1) := by decide +kernel
theorem d_Judge_endExpression_23 : decode b_Judge_endExpression 23 = .ok (.aload_n 0, 1) := by decide +kernel
theorem d_Judge_endExpression_24 : decode b_Judge_endExpression 24 = .ok (.getfield 21, 3) := by decide +kernel
theorem d_Judge_endExpression_27 : decode b_Judge_endExpression 27 = .ok (.aload_n 0, 1) := by decide +kernel
theorem d_Judge_endExpression_28 : decode b_Judge_endExpression 28 = .ok (.getfield 43, 3) := by decide +kernel
theorem d_Judge_endExpression_31 : decode b_Judge_endExpression 31 = .ok (.iaload, 1) := by decide +kernel
theorem d_Judge_endExpression_32 : decode b_Judge_endExpression 32 = .ok (.aload_n 0, 1) := by decide +kernel
theorem d_Judge_endExpression_33 : decode b_Judge_endExpression 33 = .ok (.getfield 24, 3) := by decide +kernel
theorem d_Judge_endExpression_36 : decode b_Judge_endExpression 36 = .ok (.aload_n 0, 1) := by decide +kernel
theorem d_Judge_endExpression_37 : decode b_Judge_endExpression 37 = .ok (.getfield 43, 3) := by decide +kernel
theorem d_Judge_endExpression_40 : decode b_Judge_endExpression 40 = .ok (.iaload, 1) := by decide +kernel
theorem d_Judge_endExpression_41 : decode b_Judge_endExpression 41 = .ok (.iconst (-1), 1) := by decide +kernel
theorem d_Judge_endExpression_42 : decode b_Judge_endExpression 42 = .ok (.invokevirtual 139, 3) := by decide +kernel
theorem d_Judge_endExpression_45 : decode b_Judge_endExpression 45 = .ok (.iconst (-1), 1) := by decide +kernel
theorem d_Judge_endExpression_46 : decode b_Judge_endExpression 46 = .ok (.ireturn, 1) := by decide +kernel
abbrev y_Judge_takeStatementSign : MethodName := ⟨"LanguageServer$Judge", "takeStatementSign", "(II)V"⟩
abbrev b_Judge_takeStatementSign : ByteArray := prog_4_method_7_code
theorem d_Judge_takeStatementSign_0 : decode b_Judge_takeStatementSign 0 = .ok (.iload_n 2, 1) := by decide +kernel
theorem d_Judge_takeStatementSign_1 : decode b_Judge_takeStatementSign 1 = .ok (.tableswitch 116 15 18 #[31, 41, 67, 93], 31) := by decide +kernel
theorem d_Judge_takeStatementSign_32 : decode b_Judge_takeStatementSign 32 = .ok (.aload_n 0, 1) := by decide +kernel
theorem d_Judge_takeStatementSign_33 : decode b_Judge_takeStatementSign 33 = .ok (.iload_n 1, 1) := by decide +kernel
theorem d_Judge_takeStatementSign_34 : decode b_Judge_takeStatementSign 34 = .ok (.iconst 1, 1) := by decide +kernel
theorem d_Judge_takeStatementSign_35 : decode b_Judge_takeStatementSign 35 = .ok (.iadd, 1) := by decide +kernel
theorem d_Judge_takeStatementSign_36 : decode b_Judge_takeStatementSign 36 = .ok (.invokevirtual 122, 3) := by decide +kernel
theorem d_Judge_takeStatementSign_39 : decode b_Judge_takeStatementSign 39 = .ok (.goto 106, 3) := by decide +kernel
theorem d_Judge_takeStatementSign_42 : decode b_Judge_takeStatementSign 42 = .ok (.aload_n 0, 1) := by decide +kernel
theorem d_Judge_takeStatementSign_43 : decode b_Judge_takeStatementSign 43 = .ok (.aload_n 0, 1) := by decide +kernel
theorem d_Judge_takeStatementSign_44 : decode b_Judge_takeStatementSign 44 = .ok (.getfield 35, 3) := by decide +kernel
theorem d_Judge_takeStatementSign_47 : decode b_Judge_takeStatementSign 47 = .ok (.getfield 70, 3) := by decide +kernel
theorem d_Judge_takeStatementSign_50 : decode b_Judge_takeStatementSign 50 = .ok (.aload_n 0, 1) := by decide +kernel
theorem d_Judge_takeStatementSign_51 : decode b_Judge_takeStatementSign 51 = .ok (.getfield 76, 3) := by decide +kernel
theorem d_Judge_takeStatementSign_54 : decode b_Judge_takeStatementSign 54 = .ok (.iaload, 1) := by decide +kernel
theorem d_Judge_takeStatementSign_55 : decode b_Judge_takeStatementSign 55 = .ok (.putfield 126, 3) := by decide +kernel
theorem d_Judge_takeStatementSign_58 : decode b_Judge_takeStatementSign 58 = .ok (.aload_n 0, 1) := by decide +kernel
theorem d_Judge_takeStatementSign_59 : decode b_Judge_takeStatementSign 59 = .ok (.iload_n 1, 1) := by decide +kernel
theorem d_Judge_takeStatementSign_60 : decode b_Judge_takeStatementSign 60 = .ok (.iconst 1, 1) := by decide +kernel
theorem d_Judge_takeStatementSign_61 : decode b_Judge_takeStatementSign 61 = .ok (.iadd, 1) := by decide +kernel
theorem d_Judge_takeStatementSign_62 : decode b_Judge_takeStatementSign 62 = .ok (.invokevirtual 129, 3) := by decide +kernel
theorem d_Judge_takeStatementSign_65 : decode b_Judge_takeStatementSign 65 = .ok (.goto 80, 3) := by decide +kernel
theorem d_Judge_takeStatementSign_68 : decode b_Judge_takeStatementSign 68 = .ok (.aload_n 0, 1) := by decide +kernel
theorem d_Judge_takeStatementSign_69 : decode b_Judge_takeStatementSign 69 = .ok (.aload_n 0, 1) := by decide +kernel
theorem d_Judge_takeStatementSign_70 : decode b_Judge_takeStatementSign 70 = .ok (.getfield 35, 3) := by decide +kernel
theorem d_Judge_takeStatementSign_73 : decode b_Judge_takeStatementSign 73 = .ok (.getfield 70, 3) := by decide +kernel
theorem d_Judge_takeStatementSign_76 : decode b_Judge_takeStatementSign 76 = .ok (.aload_n 0, 1) := by decide +kernel
theorem d_Judge_takeStatementSign_77 : decode b_Judge_takeStatementSign 77 = .ok (.getfield 79, 3) := by decide +kernel
theorem d_Judge_takeStatementSign_80 : decode b_Judge_takeStatementSign 80 = .ok (.iaload, 1) := by decide +kernel
theorem d_Judge_takeStatementSign_81 : decode b_Judge_takeStatementSign 81 = .ok (.putfield 126, 3) := by decide +kernel
theorem d_Judge_takeStatementSign_84 : decode b_Judge_takeStatementSign 84 = .ok (.aload_n 0, 1) := by decide +kernel
theorem d_Judge_takeStatementSign_85 : decode b_Judge_takeStatementSign 85 = .ok (.iload_n 1, 1) := by decide +kernel
theorem d_Judge_takeStatementSign_86 : decode b_Judge_takeStatementSign 86 = .ok (.iconst 1, 1) := by decide +kernel
theorem d_Judge_takeStatementSign_87 : decode b_Judge_takeStatementSign 87 = .ok (.iadd, 1) := by decide +kernel
theorem d_Judge_takeStatementSign_88 : decode b_Judge_takeStatementSign 88 = .ok (.invokevirtual 129, 3) := by decide +kernel
theorem d_Judge_takeStatementSign_91 : decode b_Judge_takeStatementSign 91 = .ok (.goto 54, 3) := by decide +kernel
theorem d_Judge_takeStatementSign_94 : decode b_Judge_takeStatementSign 94 = .ok (.aload_n 0, 1) := by decide +kernel
theorem d_Judge_takeStatementSign_95 : decode b_Judge_takeStatementSign 95 = .ok (.iload_n 1, 1) := by decide +kernel
theorem d_Judge_takeStatementSign_96 : decode b_Judge_takeStatementSign 96 = .ok (.invokevirtual 132, 3) := by decide +kernel
theorem d_Judge_takeStatementSign_99 : decode b_Judge_takeStatementSign 99 = .ok (.aload_n 0, 1) := by decide +kernel
theorem d_Judge_takeStatementSign_100 : decode b_Judge_takeStatementSign 100 = .ok (.aload_n 0, 1) := by decide +kernel
theorem d_Judge_takeStatementSign_101 : decode b_Judge_takeStatementSign 101 = .ok (.invokevirtual 135, 3) := by decide +kernel
theorem d_Judge_takeStatementSign_104 : decode b_Judge_takeStatementSign 104 = .ok (.putfield 126, 3) := by decide +kernel
theorem d_Judge_takeStatementSign_107 : decode b_Judge_takeStatementSign 107 = .ok (.aload_n 0, 1) := by decide +kernel
theorem d_Judge_takeStatementSign_108 : decode b_Judge_takeStatementSign 108 = .ok (.iload_n 1, 1) := by decide +kernel
theorem d_Judge_takeStatementSign_109 : decode b_Judge_takeStatementSign 109 = .ok (.iconst 1, 1) := by decide +kernel
theorem d_Judge_takeStatementSign_110 : decode b_Judge_takeStatementSign 110 = .ok (.iadd, 1) := by decide +kernel
theorem d_Judge_takeStatementSign_111 : decode b_Judge_takeStatementSign 111 = .ok (.invokevirtual 129, 3) := by decide +kernel
theorem d_Judge_takeStatementSign_114 : decode b_Judge_takeStatementSign 114 = .ok (.goto 31, 3) := by decide +kernel
theorem d_Judge_takeStatementSign_117 : decode b_Judge_takeStatementSign 117 = .ok (.aload_n 0, 1) := by decide +kernel
theorem d_Judge_takeStatementSign_118 : decode b_Judge_takeStatementSign 118 = .ok (.aload_n 0, 1) := by decide +kernel
theorem d_Judge_takeStatementSign_119 : decode b_Judge_takeStatementSign 119 = .ok (.getfield 18, 3) := by decide +kernel
theorem d_Judge_takeStatementSign_122 : decode b_Judge_takeStatementSign 122 = .ok (.aload_n 0, 1) := by decide +kernel
theorem d_Judge_takeStatementSign_123 : decode b_Judge_takeStatementSign 123 = .ok (.getfield 43, 3) := by decide +kernel
theorem d_Judge_takeStatementSign_126 : decode b_Judge_takeStatementSign 126 = .ok (.iaload, 1) := by decide +kernel
theorem d_Judge_takeStatementSign_127 : decode b_Judge_takeStatementSign 127 = .ok (.aload_n 0, 1) := by decide +kernel
theorem d_Judge_takeStatementSign_128 : decode b_Judge_takeStatementSign 128 = .ok (.invokevirtual 135, 3) := by decide +kernel
theorem d_Judge_takeStatementSign_131 : decode b_Judge_takeStatementSign 131 = .ok (.aload_n 0, 1) := by decide +kernel
theorem d_Judge_takeStatementSign_132 : decode b_Judge_takeStatementSign 132 = .ok (.getfield 126, 3) := by decide +kernel
theorem d_Judge_takeStatementSign_135 : decode b_Judge_takeStatementSign 135 = .ok (.invokevirtual 139, 3) := by decide +kernel
theorem d_Judge_takeStatementSign_138 : decode b_Judge_takeStatementSign 138 = .ok (.aload_n 0, 1) := by decide +kernel
theorem d_Judge_takeStatementSign_139 : decode b_Judge_takeStatementSign 139 = .ok (.iload_n 1, 1) := by decide +kernel
theorem d_Judge_takeStatementSign_140 : decode b_Judge_takeStatementSign 140 = .ok (.iconst 1, 1) := by decide +kernel
theorem d_Judge_takeStatementSign_141 : decode b_Judge_takeStatementSign 141 = .ok (.iadd, 1) := by decide +kernel
theorem d_Judge_takeStatementSign_142 : decode b_Judge_takeStatementSign 142 = .ok (.invokevirtual 122, 3) := by decide +kernel
theorem d_Judge_takeStatementSign_145 : decode b_Judge_takeStatementSign 145 = .ok (.return_, 1) := by decide +kernel
abbrev y_Judge_opn : MethodName := ⟨"LanguageServer$Judge", "open", "(II)V"⟩
abbrev b_Judge_opn : ByteArray := prog_4_method_11_code
theorem d_Judge_opn_0 : decode b_Judge_opn 0 = .ok (.aload_n 0, 1) := by decide +kernel
theorem d_Judge_opn_1 : decode b_Judge_opn 1 = .ok (.getfield 43, 3) := by decide +kernel
theorem d_Judge_opn_4 : decode b_Judge_opn 4 = .ok (.iconst 1, 1) := by decide +kernel
theorem d_Judge_opn_5 : decode b_Judge_opn 5 = .ok (.iadd, 1) := by decide +kernel
theorem d_Judge_opn_6 : decode b_Judge_opn 6 = .ok (.bipush 9, 2) := by decide +kernel
theorem d_Judge_opn_8 : decode b_Judge_opn 8 = .ok (.if_icmp .ge 38, 3) := by decide +kernel
theorem d_Judge_opn_11 : decode b_Judge_opn 11 = .ok (.aload_n 0, 1) := by decide +kernel
theorem d_Judge_opn_12 : decode b_Judge_opn 12 = .ok (.dup, 1) := by decide +kernel
theorem d_Judge_opn_13 : decode b_Judge_opn 13 = .ok (.getfield 43, 3) := by decide +kernel
theorem d_Judge_opn_16 : decode b_Judge_opn 16 = .ok (.iconst 1, 1) := by decide +kernel
theorem d_Judge_opn_17 : decode b_Judge_opn 17 = .ok (.iadd, 1) := by decide +kernel
theorem d_Judge_opn_18 : decode b_Judge_opn 18 = .ok (.putfield 43, 3) := by decide +kernel
theorem d_Judge_opn_21 : decode b_Judge_opn 21 = .ok (.aload_n 0, 1) := by decide +kernel
theorem d_Judge_opn_22 : decode b_Judge_opn 22 = .ok (.getfield 11, 3) := by decide +kernel
theorem d_Judge_opn_25 : decode b_Judge_opn 25 = .ok (.aload_n 0, 1) := by decide +kernel
theorem d_Judge_opn_26 : decode b_Judge_opn 26 = .ok (.getfield 43, 3) := by decide +kernel
theorem d_Judge_opn_29 : decode b_Judge_opn 29 = .ok (.iload_n 1, 1) := by decide +kernel
theorem d_Judge_opn_30 : decode b_Judge_opn 30 = .ok (.iastore, 1) := by decide +kernel
theorem d_Judge_opn_31 : decode b_Judge_opn 31 = .ok (.aload_n 0, 1) := by decide +kernel
theorem d_Judge_opn_32 : decode b_Judge_opn 32 = .ok (.getfield 15, 3) := by decide +kernel
theorem d_Judge_opn_35 : decode b_Judge_opn 35 = .ok (.aload_n 0, 1) := by decide +kernel
theorem d_Judge_opn_36 : decode b_Judge_opn 36 = .ok (.getfield 43, 3) := by decide +kernel
theorem d_Judge_opn_39 : decode b_Judge_opn 39 = .ok (.iconst 0, 1) := by decide +kernel
theorem d_Judge_opn_40 : decode b_Judge_opn 40 = .ok (.iastore, 1) := by decide +kernel
theorem d_Judge_opn_41 : decode b_Judge_opn 41 = .ok (.aload_n 0, 1) := by decide +kernel
theorem d_Judge_opn_42 : decode b_Judge_opn 42 = .ok (.iload_n 2, 1) := by decide +kernel
theorem d_Judge_opn_43 : decode b_Judge_opn 43 = .ok (.invokevirtual 129, 3) := by decide +kernel
theorem d_Judge_opn_46 : decode b_Judge_opn 46 = .ok (.return_, 1) := by decide +kernel
abbrev y_Judge_checkArgument : MethodName := ⟨"LanguageServer$Judge", "checkArgument", "(I)V"⟩
abbrev b_Judge_checkArgument : ByteArray := prog_4_method_15_code
theorem d_Judge_checkArgument_0 : decode b_Judge_checkArgument 0 = .ok (.aload_n 0, 1) := by decide +kernel
theorem d_Judge_checkArgument_1 : decode b_Judge_checkArgument 1 = .ok (.getfield 11, 3) := by decide +kernel
theorem d_Judge_checkArgument_4 : decode b_Judge_checkArgument 4 = .ok (.aload_n 0, 1) := by decide +kernel
theorem d_Judge_checkArgument_5 : decode b_Judge_checkArgument 5 = .ok (.getfield 43, 3) := by decide +kernel
theorem d_Judge_checkArgument_8 : decode b_Judge_checkArgument 8 = .ok (.iaload, 1) := by decide +kernel
theorem d_Judge_checkArgument_9 : decode b_Judge_checkArgument 9 = .ok (.istore_n 2, 1) := by decide +kernel
theorem d_Judge_checkArgument_10 : decode b_Judge_checkArgument 10 = .ok (.iload_n 2, 1) := by decide +kernel
theorem d_Judge_checkArgument_11 : decode b_Judge_checkArgument 11 = .ok (.iconst (-1), 1) := by decide +kernel
theorem d_Judge_checkArgument_12 : decode b_Judge_checkArgument 12 = .ok (.if_icmp .eq 15, 3) := by decide +kernel
theorem d_Judge_checkArgument_15 : decode b_Judge_checkArgument 15 = .ok (.aload_n 0, 1) := by decide +kernel
theorem d_Judge_checkArgument_16 : decode b_Judge_checkArgument 16 = .ok (.getfield 35, 3) := by decide +kernel
theorem d_Judge_checkArgument_19 : decode b_Judge_checkArgument 19 = .ok (.getfield 119, 3) := by decide +kernel
theorem d_Judge_checkArgument_22 : decode b_Judge_checkArgument 22 = .ok (.iload_n 2, 1) := by decide +kernel
theorem d_Judge_checkArgument_23 : decode b_Judge_checkArgument 23 = .ok (.iaload, 1) := by decide +kernel
theorem d_Judge_checkArgument_24 : decode b_Judge_checkArgument 24 = .ok (.ifCond .ne 4, 3) := by decide +kernel
theorem d_Judge_checkArgument_27 : decode b_Judge_checkArgument 27 = .ok (.return_, 1) := by decide +kernel
theorem d_Judge_checkArgument_28 : decode b_Judge_checkArgument 28 = .ok (.aload_n 0, 1) := by decide +kernel
theorem d_Judge_checkArgument_29 : decode b_Judge_checkArgument 29 = .ok (.getfield 35, 3) := by decide +kernel
theorem d_Judge_checkArgument_32 : decode b_Judge_checkArgument 32 = .ok (.getfield 96, 3) := by decide +kernel
theorem d_Judge_checkArgument_35 : decode b_Judge_checkArgument 35 = .ok (.iload_n 2, 1) := by decide +kernel
theorem d_Judge_checkArgument_36 : decode b_Judge_checkArgument 36 = .ok (.iaload, 1) := by decide +kernel
theorem d_Judge_checkArgument_37 : decode b_Judge_checkArgument 37 = .ok (.istore_n 3, 1) := by decide +kernel
theorem d_Judge_checkArgument_38 : decode b_Judge_checkArgument 38 = .ok (.iload_n 3, 1) := by decide +kernel
theorem d_Judge_checkArgument_39 : decode b_Judge_checkArgument 39 = .ok (.iconst (-1), 1) := by decide +kernel
theorem d_Judge_checkArgument_40 : decode b_Judge_checkArgument 40 = .ok (.if_icmp .eq 55, 3) := by decide +kernel
theorem d_Judge_checkArgument_43 : decode b_Judge_checkArgument 43 = .ok (.aload_n 0, 1) := by decide +kernel
theorem d_Judge_checkArgument_44 : decode b_Judge_checkArgument 44 = .ok (.getfield 35, 3) := by decide +kernel
theorem d_Judge_checkArgument_47 : decode b_Judge_checkArgument 47 = .ok (.getfield 119, 3) := by decide +kernel
theorem d_Judge_checkArgument_50 : decode b_Judge_checkArgument 50 = .ok (.iload_n 3, 1) := by decide +kernel
theorem d_Judge_checkArgument_51 : decode b_Judge_checkArgument 51 = .ok (.iaload, 1) := by decide +kernel
theorem d_Judge_checkArgument_52 : decode b_Judge_checkArgument 52 = .ok (.aload_n 0, 1) := by decide +kernel
theorem d_Judge_checkArgument_53 : decode b_Judge_checkArgument 53 = .ok (.getfield 35, 3) := by decide +kernel
theorem d_Judge_checkArgument_56 : decode b_Judge_checkArgument 56 = .ok (.getfield 119, 3) := by decide +kernel
theorem d_Judge_checkArgument_59 : decode b_Judge_checkArgument 59 = .ok (.iload_n 2, 1) := by decide +kernel
theorem d_Judge_checkArgument_60 : decode b_Judge_checkArgument 60 = .ok (.iaload, 1) := by decide +kernel
theorem d_Judge_checkArgument_61 : decode b_Judge_checkArgument 61 = .ok (.if_icmp .ne 34, 3) := by decide +kernel
theorem d_Judge_checkArgument_64 : decode b_Judge_checkArgument 64 = .ok (.aload_n 0, 1) := by decide +kernel
theorem d_Judge_checkArgument_65 : decode b_Judge_checkArgument 65 = .ok (.aload_n 0, 1) := by decide +kernel
theorem d_Judge_checkArgument_66 : decode b_Judge_checkArgument 66 = .ok (.getfield 18, 3) := by decide +kernel
theorem d_Judge_checkArgument_69 : decode b_Judge_checkArgument 69 = .ok (.aload_n 0, 1) := by decide +kernel
theorem d_Judge_checkArgument_70 : decode b_Judge_checkArgument 70 = .ok (.getfield 43, 3) := by decide +kernel
theorem d_Judge_checkArgument_73 : decode b_Judge_checkArgument 73 = .ok (.iaload, 1) := by decide +kernel
theorem d_Judge_checkArgument_74 : decode b_Judge_checkArgument 74 = .ok (.iload_n 1, 1) := by decide +kernel
theorem d_Judge_checkArgument_75 : decode b_Judge_checkArgument 75 = .ok (.aload_n 0, 1) := by decide +kernel
theorem d_Judge_checkArgument_76 : decode b_Judge_checkArgument 76 = .ok (.getfield 35, 3) := by decide +kernel
theorem d_Judge_checkArgument_79 : decode b_Judge_checkArgument 79 = .ok (.iload_n 3, 1) := by decide +kernel
theorem d_Judge_checkArgument_80 : decode b_Judge_checkArgument 80 = .ok (.aload_n 0, 1) := by decide +kernel
theorem d_Judge_checkArgument_81 : decode b_Judge_checkArgument 81 = .ok (.getfield 15, 3) := by decide +kernel
theorem d_Judge_checkArgument_84 : decode b_Judge_checkArgument 84 = .ok (.aload_n 0, 1) := by decide +kernel
theorem d_Judge_checkArgument_85 : decode b_Judge_checkArgument 85 = .ok (.getfield 43, 3) := by decide +kernel
theorem d_Judge_checkArgument_88 : decode b_Judge_checkArgument 88 = .ok (.iaload, 1) := by decide +kernel
theorem d_Judge_checkArgument_89 : decode b_Judge_checkArgument 89 = .ok (.invokevirtual 152, 3) := by decide +kernel
theorem d_Judge_checkArgument_92 : decode b_Judge_checkArgument 92 = .ok (.invokevirtual 139, 3) := by decide +kernel
theorem d_Judge_checkArgument_95 : decode b_Judge_checkArgument 95 = .ok (.aload_n 0, 1) := by decide +kernel
theorem d_Judge_checkArgument_96 : decode b_Judge_checkArgument 96 = .ok (.getfield 15, 3) := by decide +kernel
theorem d_Judge_checkArgument_99 : decode b_Judge_checkArgument 99 = .ok (.aload_n 0, 1) := by decide +kernel
theorem d_Judge_checkArgument_100 : decode b_Judge_checkArgument 100 = .ok (.getfield 43, 3) := by decide +kernel
theorem d_Judge_checkArgument_103 : decode b_Judge_checkArgument 103 = .ok (.dup2, 1) := by decide +kernel
theorem d_Judge_checkArgument_104 : decode b_Judge_checkArgument 104 = .ok (.iaload, 1) := by decide +kernel
theorem d_Judge_checkArgument_105 : decode b_Judge_checkArgument 105 = .ok (.iconst 1, 1) := by decide +kernel
theorem d_Judge_checkArgument_106 : decode b_Judge_checkArgument 106 = .ok (.iadd, 1) := by decide +kernel
theorem d_Judge_checkArgument_107 : decode b_Judge_checkArgument 107 = .ok (.iastore, 1) := by decide +kernel
theorem d_Judge_checkArgument_108 : decode b_Judge_checkArgument 108 = .ok (.return_, 1) := by decide +kernel
abbrev y_Judge_close : MethodName := ⟨"LanguageServer$Judge", "close", "(I)V"⟩
abbrev b_Judge_close : ByteArray := prog_4_method_12_code
theorem d_Judge_close_0 : decode b_Judge_close 0 = .ok (.aload_n 0, 1) := by decide +kernel
theorem d_Judge_close_1 : decode b_Judge_close 1 = .ok (.getfield 43, 3) := by decide +kernel
theorem d_Judge_close_4 : decode b_Judge_close 4 = .ok (.ifCond .le 46, 3) := by decide +kernel
theorem d_Judge_close_7 : decode b_Judge_close 7 = .ok (.aload_n 0, 1) := by decide +kernel
theorem d_Judge_close_8 : decode b_Judge_close 8 = .ok (.getfield 11, 3) := by decide +kernel
theorem d_Judge_close_11 : decode b_Judge_close 11 = .ok (.aload_n 0, 1) := by decide +kernel
theorem d_Judge_close_12 : decode b_Judge_close 12 = .ok (.getfield 43, 3) := by decide +kernel
theorem d_Judge_close_15 : decode b_Judge_close 15 = .ok (.iaload, 1) := by decide +kernel
theorem d_Judge_close_16 : decode b_Judge_close 16 = .ok (.iconst (-1), 1) := by decide +kernel
theorem d_Judge_close_17 : decode b_Judge_close 17 = .ok (.if_icmp .ne 7, 3) := by decide +kernel
theorem d_Judge_close_20 : decode b_Judge_close 20 = .ok (.iconst 1, 1) := by decide +kernel
theorem d_Judge_close_21 : decode b_Judge_close 21 = .ok (.goto 4, 3) := by decide +kernel
theorem d_Judge_close_24 : decode b_Judge_close 24 = .ok (.iconst 0, 1) := by decide +kernel
theorem d_Judge_close_25 : decode b_Judge_close 25 = .ok (.istore_n 2, 1) := by decide +kernel
theorem d_Judge_close_26 : decode b_Judge_close 26 = .ok (.aload_n 0, 1) := by decide +kernel
theorem d_Judge_close_27 : decode b_Judge_close 27 = .ok (.dup, 1) := by decide +kernel
theorem d_Judge_close_28 : decode b_Judge_close 28 = .ok (.getfield 43, 3) := by decide +kernel
theorem d_Judge_close_31 : decode b_Judge_close 31 = .ok (.iconst 1, 1) := by decide +kernel
theorem d_Judge_close_32 : decode b_Judge_close 32 = .ok (.isub, 1) := by decide +kernel
theorem d_Judge_close_33 : decode b_Judge_close 33 = .ok (.putfield 43, 3) := by decide +kernel
theorem d_Judge_close_36 : decode b_Judge_close 36 = .ok (.iload_n 2, 1) := by decide +kernel
theorem d_Judge_close_37 : decode b_Judge_close 37 = .ok (.ifCond .eq 13, 3) := by decide +kernel
theorem d_Judge_close_40 : decode b_Judge_close 40 = .ok (.aload_n 0, 1) := by decide +kernel
theorem d_Judge_close_41 : decode b_Judge_close 41 = .ok (.getfield 24, 3) := by decide +kernel
theorem d_Judge_close_44 : decode b_Judge_close 44 = .ok (.aload_n 0, 1) := by decide +kernel
theorem d_Judge_close_45 : decode b_Judge_close 45 = .ok (.getfield 43, 3) := by decide +kernel
theorem d_Judge_close_48 : decode b_Judge_close 48 = .ok (.iload_n 1, 1) := by decide +kernel
theorem d_Judge_close_49 : decode b_Judge_close 49 = .ok (.iastore, 1) := by decide +kernel
theorem d_Judge_close_50 : decode b_Judge_close 50 = .ok (.return_, 1) := by decide +kernel
abbrev y_Judge_takeSign : MethodName := ⟨"LanguageServer$Judge", "takeSign", "(II)V"⟩
abbrev b_Judge_takeSign : ByteArray := prog_4_method_10_code
theorem d_Judge_takeSign_0 : decode b_Judge_takeSign 0 = .ok (.iload_n 2, 1) := by decide +kernel
theorem d_Judge_takeSign_1 : decode b_Judge_takeSign 1 = .ok (.tableswitch 121 20 23 #[31, 79, 90, 103], 31) := by decide +kernel
theorem d_Judge_takeSign_32 : decode b_Judge_takeSign 32 = .ok (.aload_n 0, 1) := by decide +kernel
theorem d_Judge_takeSign_33 : decode b_Judge_takeSign 33 = .ok (.aload_n 0, 1) := by decide +kernel
theorem d_Judge_takeSign_34 : decode b_Judge_takeSign 34 = .ok (.getfield 21, 3) := by decide +kernel
theorem d_Judge_takeSign_37 : decode b_Judge_takeSign 37 = .ok (.aload_n 0, 1) := by decide +kernel
theorem d_Judge_takeSign_38 : decode b_Judge_takeSign 38 = .ok (.getfield 43, 3) := by decide +kernel
theorem d_Judge_takeSign_41 : decode b_Judge_takeSign 41 = .ok (.iaload, 1) := by decide +kernel
theorem d_Judge_takeSign_42 : decode b_Judge_takeSign 42 = .ok (.aload_n 0, 1) := by decide +kernel
theorem d_Judge_takeSign_43 : decode b_Judge_takeSign 43 = .ok (.getfield 24, 3) := by decide +kernel
theorem d_Judge_takeSign_46 : decode b_Judge_takeSign 46 = .ok (.aload_n 0, 1) := by decide +kernel
theorem d_Judge_takeSign_47 : decode b_Judge_takeSign 47 = .ok (.getfield 43, 3) := by decide +kernel
theorem d_Judge_takeSign_50 : decode b_Judge_takeSign 50 = .ok (.iaload, 1) := by decide +kernel
theorem d_Judge_takeSign_51 : decode b_Judge_takeSign 51 = .ok (.iconst (-1), 1) := by decide +kernel
theorem d_Judge_takeSign_52 : decode b_Judge_takeSign 52 = .ok (.invokevirtual 139, 3) := by decide +kernel
theorem d_Judge_takeSign_55 : decode b_Judge_takeSign 55 = .ok (.aload_n 0, 1) := by decide +kernel
theorem d_Judge_takeSign_56 : decode b_Judge_takeSign 56 = .ok (.getfield 27, 3) := by decide +kernel
theorem d_Judge_takeSign_59 : decode b_Judge_takeSign 59 = .ok (.aload_n 0, 1) := by decide +kernel
theorem d_Judge_takeSign_60 : decode b_Judge_takeSign 60 = .ok (.getfield 43, 3) := by decide +kernel
theorem d_Judge_takeSign_63 : decode b_Judge_takeSign 63 = .ok (.iconst 1, 1) := by decide +kernel
theorem d_Judge_takeSign_64 : decode b_Judge_takeSign 64 = .ok (.bastore, 1) := by decide +kernel
theorem d_Judge_takeSign_65 : decode b_Judge_takeSign 65 = .ok (.aload_n 0, 1) := by decide +kernel
theorem d_Judge_takeSign_66 : decode b_Judge_takeSign 66 = .ok (.getfield 21, 3) := by decide +kernel
theorem d_Judge_takeSign_69 : decode b_Judge_takeSign 69 = .ok (.aload_n 0, 1) := by decide +kernel
theorem d_Judge_takeSign_70 : decode b_Judge_takeSign 70 = .ok (.getfield 43, 3) := by decide +kernel
theorem d_Judge_takeSign_73 : decode b_Judge_takeSign 73 = .ok (.iload_n 1, 1) := by decide +kernel
theorem d_Judge_takeSign_74 : decode b_Judge_takeSign 74 = .ok (.iconst 1, 1) := by decide +kernel
theorem d_Judge_takeSign_75 : decode b_Judge_takeSign 75 = .ok (.iadd, 1) := by decide +kernel
theorem d_Judge_takeSign_76 : decode b_Judge_takeSign 76 = .ok (.iastore, 1) := by decide +kernel
theorem d_Judge_takeSign_77 : decode b_Judge_takeSign 77 = .ok (.goto 60, 3) := by decide +kernel
theorem d_Judge_takeSign_80 : decode b_Judge_takeSign 80 = .ok (.aload_n 0, 1) := by decide +kernel
theorem d_Judge_takeSign_81 : decode b_Judge_takeSign 81 = .ok (.iconst (-1), 1) := by decide +kernel
theorem d_Judge_takeSign_82 : decode b_Judge_takeSign 82 = .ok (.iload_n 1, 1) := by decide +kernel
theorem d_Judge_takeSign_83 : decode b_Judge_takeSign 83 = .ok (.iconst 1, 1) := by decide +kernel
theorem d_Judge_takeSign_84 : decode b_Judge_takeSign 84 = .ok (.iadd, 1) := by decide +kernel
theorem d_Judge_takeSign_85 : decode b_Judge_takeSign 85 = .ok (.invokevirtual 143, 3) := by decide +kernel
theorem d_Judge_takeSign_88 : decode b_Judge_takeSign 88 = .ok (.goto 49, 3) := by decide +kernel
theorem d_Judge_takeSign_91 : decode b_Judge_takeSign 91 = .ok (.aload_n 0, 1) := by decide +kernel
theorem d_Judge_takeSign_92 : decode b_Judge_takeSign 92 = .ok (.iload_n 1, 1) := by decide +kernel
theorem d_Judge_takeSign_93 : decode b_Judge_takeSign 93 = .ok (.iconst 1, 1) := by decide +kernel
theorem d_Judge_takeSign_94 : decode b_Judge_takeSign 94 = .ok (.isub, 1) := by decide +kernel
theorem d_Judge_takeSign_95 : decode b_Judge_takeSign 95 = .ok (.iload_n 1, 1) := by decide +kernel
theorem d_Judge_takeSign_96 : decode b_Judge_takeSign 96 = .ok (.iconst 1, 1) := by decide +kernel
theorem d_Judge_takeSign_97 : decode b_Judge_takeSign 97 = .ok (.iadd, 1) := by decide +kernel
theorem d_Judge_takeSign_98 : decode b_Judge_takeSign 98 = .ok (.invokevirtual 143, 3) := by decide +kernel
theorem d_Judge_takeSign_101 : decode b_Judge_takeSign 101 = .ok (.goto 36, 3) := by decide +kernel
theorem d_Judge_takeSign_104 : decode b_Judge_takeSign 104 = .ok (.aload_n 0, 1) := by decide +kernel
theorem d_Judge_takeSign_105 : decode b_Judge_takeSign 105 = .ok (.aload_n 0, 1) := by decide +kernel
theorem d_Judge_takeSign_106 : decode b_Judge_takeSign 106 = .ok (.invokevirtual 135, 3) := by decide +kernel
theorem d_Judge_takeSign_109 : decode b_Judge_takeSign 109 = .ok (.invokevirtual 146, 3) := by decide +kernel
theorem d_Judge_takeSign_112 : decode b_Judge_takeSign 112 = .ok (.aload_n 0, 1) := by decide +kernel
theorem d_Judge_takeSign_113 : decode b_Judge_takeSign 113 = .ok (.iload_n 1, 1) := by decide +kernel
theorem d_Judge_takeSign_114 : decode b_Judge_takeSign 114 = .ok (.iconst 1, 1) := by decide +kernel
theorem d_Judge_takeSign_115 : decode b_Judge_takeSign 115 = .ok (.iadd, 1) := by decide +kernel
theorem d_Judge_takeSign_116 : decode b_Judge_takeSign 116 = .ok (.invokevirtual 129, 3) := by decide +kernel
theorem d_Judge_takeSign_119 : decode b_Judge_takeSign 119 = .ok (.goto 18, 3) := by decide +kernel
theorem d_Judge_takeSign_122 : decode b_Judge_takeSign 122 = .ok (.aload_n 0, 1) := by decide +kernel
theorem d_Judge_takeSign_123 : decode b_Judge_takeSign 123 = .ok (.invokevirtual 135, 3) := by decide +kernel
theorem d_Judge_takeSign_126 : decode b_Judge_takeSign 126 = .ok (.istore_n 3, 1) := by decide +kernel
theorem d_Judge_takeSign_127 : decode b_Judge_takeSign 127 = .ok (.aload_n 0, 1) := by decide +kernel
theorem d_Judge_takeSign_128 : decode b_Judge_takeSign 128 = .ok (.iload_n 3, 1) := by decide +kernel
theorem d_Judge_takeSign_129 : decode b_Judge_takeSign 129 = .ok (.invokevirtual 146, 3) := by decide +kernel
theorem d_Judge_takeSign_132 : decode b_Judge_takeSign 132 = .ok (.aload_n 0, 1) := by decide +kernel
theorem d_Judge_takeSign_133 : decode b_Judge_takeSign 133 = .ok (.iload_n 3, 1) := by decide +kernel
theorem d_Judge_takeSign_134 : decode b_Judge_takeSign 134 = .ok (.invokevirtual 149, 3) := by decide +kernel
theorem d_Judge_takeSign_137 : decode b_Judge_takeSign 137 = .ok (.return_, 1) := by decide +kernel
abbrev y_Judge_judge : MethodName := ⟨"LanguageServer$Judge", "judge", "()V"⟩
abbrev b_Judge_judge : ByteArray := prog_4_method_2_code
theorem d_Judge_judge_0 : decode b_Judge_judge 0 = .ok (.aload_n 0, 1) := by decide +kernel
theorem d_Judge_judge_1 : decode b_Judge_judge 1 = .ok (.iconst 0, 1) := by decide +kernel
theorem d_Judge_judge_2 : decode b_Judge_judge 2 = .ok (.putfield 43, 3) := by decide +kernel
theorem d_Judge_judge_5 : decode b_Judge_judge 5 = .ok (.aload_n 0, 1) := by decide +kernel
theorem d_Judge_judge_6 : decode b_Judge_judge 6 = .ok (.getfield 11, 3) := by decide +kernel
theorem d_Judge_judge_9 : decode b_Judge_judge 9 = .ok (.aload_n 0, 1) := by decide +kernel
theorem d_Judge_judge_10 : decode b_Judge_judge 10 = .ok (.getfield 43, 3) := by decide +kernel
theorem d_Judge_judge_13 : decode b_Judge_judge 13 = .ok (.iconst (-1), 1) := by decide +kernel
theorem d_Judge_judge_14 : decode b_Judge_judge 14 = .ok (.iastore, 1) := by decide +kernel
theorem d_Judge_judge_15 : decode b_Judge_judge 15 = .ok (.iconst 0, 1) := by decide +kernel
theorem d_Judge_judge_16 : decode b_Judge_judge 16 = .ok (.istore_n 1, 1) := by decide +kernel
theorem d_Judge_judge_17 : decode b_Judge_judge 17 = .ok (.iload_n 1, 1) := by decide +kernel
theorem d_Judge_judge_18 : decode b_Judge_judge 18 = .ok (.aload_n 0, 1) := by decide +kernel
theorem d_Judge_judge_19 : decode b_Judge_judge 19 = .ok (.getfield 35, 3) := by decide +kernel
theorem d_Judge_judge_22 : decode b_Judge_judge 22 = .ok (.getfield 47, 3) := by decide +kernel
theorem d_Judge_judge_25 : decode b_Judge_judge 25 = .ok (.if_icmp .ge 70, 3) := by decide +kernel
theorem d_Judge_judge_28 : decode b_Judge_judge 28 = .ok (.aload_n 0, 1) := by decide +kernel
theorem d_Judge_judge_29 : decode b_Judge_judge 29 = .ok (.getfield 35, 3) := by decide +kernel
theorem d_Judge_judge_32 : decode b_Judge_judge 32 = .ok (.getfield 52, 3) := by decide +kernel
theorem d_Judge_judge_35 : decode b_Judge_judge 35 = .ok (.iload_n 1, 1) := by decide +kernel
theorem d_Judge_judge_36 : decode b_Judge_judge 36 = .ok (.iaload, 1) := by decide +kernel
theorem d_Judge_judge_37 : decode b_Judge_judge 37 = .ok (.istore_n 2, 1) := by decide +kernel
theorem d_Judge_judge_38 : decode b_Judge_judge 38 = .ok (.iload_n 2, 1) := by decide +kernel
theorem d_Judge_judge_39 : decode b_Judge_judge 39 = .ok (.bipush 9, 2) := by decide +kernel
theorem d_Judge_judge_41 : decode b_Judge_judge 41 = .ok (.if_icmp .ge 12, 3) := by decide +kernel
theorem d_Judge_judge_44 : decode b_Judge_judge 44 = .ok (.aload_n 0, 1) := by decide +kernel
theorem d_Judge_judge_45 : decode b_Judge_judge 45 = .ok (.iload_n 1, 1) := by decide +kernel
theorem d_Judge_judge_46 : decode b_Judge_judge 46 = .ok (.iload_n 2, 1) := by decide +kernel
theorem d_Judge_judge_47 : decode b_Judge_judge 47 = .ok (.invokevirtual 57, 3) := by decide +kernel
theorem d_Judge_judge_50 : decode b_Judge_judge 50 = .ok (.goto 39, 3) := by decide +kernel
theorem d_Judge_judge_53 : decode b_Judge_judge 53 = .ok (.iload_n 2, 1) := by decide +kernel
theorem d_Judge_judge_54 : decode b_Judge_judge 54 = .ok (.bipush 15, 2) := by decide +kernel
theorem d_Judge_judge_56 : decode b_Judge_judge 56 = .ok (.if_icmp .ge 12, 3) := by decide +kernel
theorem d_Judge_judge_59 : decode b_Judge_judge 59 = .ok (.aload_n 0, 1) := by decide +kernel
theorem d_Judge_judge_60 : decode b_Judge_judge 60 = .ok (.iload_n 1, 1) := by decide +kernel
theorem d_Judge_judge_61 : decode b_Judge_judge 61 = .ok (.iload_n 2, 1) := by decide +kernel
theorem d_Judge_judge_62 : decode b_Judge_judge 62 = .ok (.invokevirtual 61, 3) := by decide +kernel
theorem d_Judge_judge_65 : decode b_Judge_judge 65 = .ok (.goto 24, 3) := by decide +kernel
theorem d_Judge_judge_68 : decode b_Judge_judge 68 = .ok (.iload_n 2, 1) := by decide +kernel
theorem d_Judge_judge_69 : decode b_Judge_judge 69 = .ok (.bipush 20, 2) := by decide +kernel
theorem d_Judge_judge_71 : decode b_Judge_judge 71 = .ok (.if_icmp .ge 12, 3) := by decide +kernel
theorem d_Judge_judge_74 : decode b_Judge_judge 74 = .ok (.aload_n 0, 1) := by decide +kernel
theorem d_Judge_judge_75 : decode b_Judge_judge 75 = .ok (.iload_n 1, 1) := by decide +kernel
theorem d_Judge_judge_76 : decode b_Judge_judge 76 = .ok (.iload_n 2, 1) := by decide +kernel
theorem d_Judge_judge_77 : decode b_Judge_judge 77 = .ok (.invokevirtual 64, 3) := by decide +kernel
theorem d_Judge_judge_80 : decode b_Judge_judge 80 = .ok (.goto 9, 3) := by decide +kernel
theorem d_Judge_judge_83 : decode b_Judge_judge 83 = .ok (.aload_n 0, 1) := by decide +kernel
theorem d_Judge_judge_84 : decode b_Judge_judge 84 = .ok (.iload_n 1, 1) := by decide +kernel
theorem d_Judge_judge_85 : decode b_Judge_judge 85 = .ok (.iload_n 2, 1) := by decide +kernel
theorem d_Judge_judge_86 : decode b_Judge_judge 86 = .ok (.invokevirtual 67, 3) := by decide +kernel
theorem d_Judge_judge_89 : decode b_Judge_judge 89 = .ok (.iinc 1 1, 3) := by decide +kernel
theorem d_Judge_judge_92 : decode b_Judge_judge 92 = .ok (.goto (-75), 3) := by decide +kernel
theorem d_Judge_judge_95 : decode b_Judge_judge 95 = .ok (.return_, 1) := by decide +kernel
