abbrev y_Mo_thrown : MethodName := ⟨"LanguageServerModel", "thrown", "()I"⟩
abbrev b_Mo_thrown : ByteArray := prog_13_method_2_code
theorem d_Mo_thrown_0 : decode b_Mo_thrown 0 = .ok (.aload_n 0, 1) := by decide +kernel
theorem d_Mo_thrown_1 : decode b_Mo_thrown 1 = .ok (.getfield 81, 3) := by decide +kernel
theorem d_Mo_thrown_4 : decode b_Mo_thrown 4 = .ok (.ireturn, 1) := by decide +kernel
abbrev y_Mo_fail : MethodName := ⟨"LanguageServerModel", "fail", "(I)I"⟩
abbrev b_Mo_fail : ByteArray := prog_13_method_3_code
theorem d_Mo_fail_0 : decode b_Mo_fail 0 = .ok (.aload_n 0, 1) := by decide +kernel
theorem d_Mo_fail_1 : decode b_Mo_fail 1 = .ok (.iload_n 1, 1) := by decide +kernel
theorem d_Mo_fail_2 : decode b_Mo_fail 2 = .ok (.putfield 81, 3) := by decide +kernel
theorem d_Mo_fail_5 : decode b_Mo_fail 5 = .ok (.iconst 0, 1) := by decide +kernel
theorem d_Mo_fail_6 : decode b_Mo_fail 6 = .ok (.ireturn, 1) := by decide +kernel
abbrev y_Mo_code : MethodName := ⟨"LanguageServerModel", "code", "(I)Z"⟩
abbrev b_Mo_code : ByteArray := prog_13_method_4_code
theorem d_Mo_code_0 : decode b_Mo_code 0 = .ok (.iload_n 0, 1) := by decide +kernel
theorem d_Mo_code_1 : decode b_Mo_code 1 = .ok (.bipush 32, 2) := by decide +kernel
theorem d_Mo_code_3 : decode b_Mo_code 3 = .ok (.if_icmp .lt 13, 3) := by decide +kernel
theorem d_Mo_code_6 : decode b_Mo_code 6 = .ok (.iload_n 0, 1) := by decide +kernel
theorem d_Mo_code_7 : decode b_Mo_code 7 = .ok (.bipush 126, 2) := by decide +kernel
theorem d_Mo_code_9 : decode b_Mo_code 9 = .ok (.if_icmp .gt 7, 3) := by decide +kernel
theorem d_Mo_code_12 : decode b_Mo_code 12 = .ok (.iconst 1, 1) := by decide +kernel
theorem d_Mo_code_13 : decode b_Mo_code 13 = .ok (.goto 4, 3) := by decide +kernel
theorem d_Mo_code_16 : decode b_Mo_code 16 = .ok (.iconst 0, 1) := by decide +kernel
theorem d_Mo_code_17 : decode b_Mo_code 17 = .ok (.ireturn, 1) := by decide +kernel
abbrev y_Mo_insert : MethodName := ⟨"LanguageServerModel", "insert", "(II)I"⟩
abbrev b_Mo_insert : ByteArray := prog_13_method_5_code
theorem d_Mo_insert_0 : decode b_Mo_insert 0 = .ok (.aload_n 0, 1) := by decide +kernel
theorem d_Mo_insert_1 : decode b_Mo_insert 1 = .ok (.iconst 0, 1) := by decide +kernel
theorem d_Mo_insert_2 : decode b_Mo_insert 2 = .ok (.putfield 81, 3) := by decide +kernel
theorem d_Mo_insert_5 : decode b_Mo_insert 5 = .ok (.iload_n 1, 1) := by decide +kernel
theorem d_Mo_insert_6 : decode b_Mo_insert 6 = .ok (.ifCond .lt 18, 3) := by decide +kernel
theorem d_Mo_insert_9 : decode b_Mo_insert 9 = .ok (.iload_n 1, 1) := by decide +kernel
theorem d_Mo_insert_10 : decode b_Mo_insert 10 = .ok (.aload_n 0, 1) := by decide +kernel
theorem d_Mo_insert_11 : decode b_Mo_insert 11 = .ok (.getfield 85, 3) := by decide +kernel
theorem d_Mo_insert_14 : decode b_Mo_insert 14 = .ok (.if_icmp .gt 10, 3) := by decide +kernel
theorem d_Mo_insert_17 : decode b_Mo_insert 17 = .ok (.iload_n 2, 1) := by decide +kernel
theorem d_Mo_insert_18 : decode b_Mo_insert 18 = .ok (.invokestatic 88, 3) := by decide +kernel
theorem d_Mo_insert_21 : decode b_Mo_insert 21 = .ok (.ifCond .ne 9, 3) := by decide +kernel
theorem d_Mo_insert_24 : decode b_Mo_insert 24 = .ok (.aload_n 0, 1) := by decide +kernel
theorem d_Mo_insert_25 : decode b_Mo_insert 25 = .ok (.iconst 1, 1) := by decide +kernel
theorem d_Mo_insert_26 : decode b_Mo_insert 26 = .ok (.invokevirtual 92, 3) := by decide +kernel
theorem d_Mo_insert_29 : decode b_Mo_insert 29 = .ok (.ireturn, 1) := by decide +kernel
theorem d_Mo_insert_30 : decode b_Mo_insert 30 = .ok (.aload_n 0, 1) := by decide +kernel
theorem d_Mo_insert_31 : decode b_Mo_insert 31 = .ok (.getfield 85, 3) := by decide +kernel
theorem d_Mo_insert_34 : decode b_Mo_insert 34 = .ok (.sipush 240, 3) := by decide +kernel
theorem d_Mo_insert_37 : decode b_Mo_insert 37 = .ok (.if_icmp .ne 9, 3) := by decide +kernel
theorem d_Mo_insert_40 : decode b_Mo_insert 40 = .ok (.aload_n 0, 1) := by decide +kernel
theorem d_Mo_insert_41 : decode b_Mo_insert 41 = .ok (.iconst 2, 1) := by decide +kernel
theorem d_Mo_insert_42 : decode b_Mo_insert 42 = .ok (.invokevirtual 92, 3) := by decide +kernel
theorem d_Mo_insert_45 : decode b_Mo_insert 45 = .ok (.ireturn, 1) := by decide +kernel
theorem d_Mo_insert_46 : decode b_Mo_insert 46 = .ok (.aload_n 0, 1) := by decide +kernel
theorem d_Mo_insert_47 : decode b_Mo_insert 47 = .ok (.getfield 85, 3) := by decide +kernel
theorem d_Mo_insert_50 : decode b_Mo_insert 50 = .ok (.istore_n 3, 1) := by decide +kernel
theorem d_Mo_insert_51 : decode b_Mo_insert 51 = .ok (.iload_n 3, 1) := by decide +kernel
theorem d_Mo_insert_52 : decode b_Mo_insert 52 = .ok (.iload_n 1, 1) := by decide +kernel
theorem d_Mo_insert_53 : decode b_Mo_insert 53 = .ok (.if_icmp .le 23, 3) := by decide +kernel
theorem d_Mo_insert_56 : decode b_Mo_insert 56 = .ok (.aload_n 0, 1) := by decide +kernel
theorem d_Mo_insert_57 : decode b_Mo_insert 57 = .ok (.getfield 7, 3) := by decide +kernel
theorem d_Mo_insert_60 : decode b_Mo_insert 60 = .ok (.iload_n 3, 1) := by decide +kernel
theorem d_Mo_insert_61 : decode b_Mo_insert 61 = .ok (.aload_n 0, 1) := by decide +kernel
theorem d_Mo_insert_62 : decode b_Mo_insert 62 = .ok (.getfield 7, 3) := by decide +kernel
theorem d_Mo_insert_65 : decode b_Mo_insert 65 = .ok (.iload_n 3, 1) := by decide +kernel
theorem d_Mo_insert_66 : decode b_Mo_insert 66 = .ok (.iconst 1, 1) := by decide +kernel
theorem d_Mo_insert_67 : decode b_Mo_insert 67 = .ok (.isub, 1) := by decide +kernel
theorem d_Mo_insert_68 : decode b_Mo_insert 68 = .ok (.iaload, 1) := by decide +kernel
theorem d_Mo_insert_69 : decode b_Mo_insert 69 = .ok (.iastore, 1) := by decide +kernel
theorem d_Mo_insert_70 : decode b_Mo_insert 70 = .ok (.iinc 3 (-1), 3) := by decide +kernel
theorem d_Mo_insert_73 : decode b_Mo_insert 73 = .ok (.goto (-22), 3) := by decide +kernel
theorem d_Mo_insert_76 : decode b_Mo_insert 76 = .ok (.aload_n 0, 1) := by decide +kernel
theorem d_Mo_insert_77 : decode b_Mo_insert 77 = .ok (.getfield 7, 3) := by decide +kernel
theorem d_Mo_insert_80 : decode b_Mo_insert 80 = .ok (.iload_n 1, 1) := by decide +kernel
theorem d_Mo_insert_81 : decode b_Mo_insert 81 = .ok (.iload_n 2, 1) := by decide +kernel
theorem d_Mo_insert_82 : decode b_Mo_insert 82 = .ok (.iastore, 1) := by decide +kernel
theorem d_Mo_insert_83 : decode b_Mo_insert 83 = .ok (.aload_n 0, 1) := by decide +kernel
theorem d_Mo_insert_84 : decode b_Mo_insert 84 = .ok (.dup, 1) := by decide +kernel
theorem d_Mo_insert_85 : decode b_Mo_insert 85 = .ok (.getfield 85, 3) := by decide +kernel
theorem d_Mo_insert_88 : decode b_Mo_insert 88 = .ok (.iconst 1, 1) := by decide +kernel
theorem d_Mo_insert_89 : decode b_Mo_insert 89 = .ok (.iadd, 1) := by decide +kernel
theorem d_Mo_insert_90 : decode b_Mo_insert 90 = .ok (.putfield 85, 3) := by decide +kernel
theorem d_Mo_insert_93 : decode b_Mo_insert 93 = .ok (.aload_n 0, 1) := by decide +kernel
theorem d_Mo_insert_94 : decode b_Mo_insert 94 = .ok (.getfield 85, 3) := by decide +kernel
theorem d_Mo_insert_97 : decode b_Mo_insert 97 = .ok (.ireturn, 1) := by decide +kernel
abbrev y_Mo_byteOf : MethodName := ⟨"LanguageServerModel", "byteOf", "(JI)I"⟩
abbrev b_Mo_byteOf : ByteArray := prog_13_method_6_code
theorem d_Mo_byteOf_0 : decode b_Mo_byteOf 0 = .ok (.lload_n 0, 1) := by decide +kernel
theorem d_Mo_byteOf_1 : decode b_Mo_byteOf 1 = .ok (.bipush 8, 2) := by decide +kernel
theorem d_Mo_byteOf_3 : decode b_Mo_byteOf 3 = .ok (.iload_n 2, 1) := by decide +kernel
theorem d_Mo_byteOf_4 : decode b_Mo_byteOf 4 = .ok (.imul, 1) := by decide +kernel
theorem d_Mo_byteOf_5 : decode b_Mo_byteOf 5 = .ok (.lshr, 1) := by decide +kernel
theorem d_Mo_byteOf_6 : decode b_Mo_byteOf 6 = .ok (.l2i, 1) := by decide +kernel
theorem d_Mo_byteOf_7 : decode b_Mo_byteOf 7 = .ok (.sipush 255, 3) := by decide +kernel
theorem d_Mo_byteOf_10 : decode b_Mo_byteOf 10 = .ok (.iand, 1) := by decide +kernel
theorem d_Mo_byteOf_11 : decode b_Mo_byteOf 11 = .ok (.ireturn, 1) := by decide +kernel
abbrev y_Mo_append : MethodName := ⟨"LanguageServerModel", "append", "(JI)I"⟩
abbrev b_Mo_append : ByteArray := prog_13_method_7_code
theorem d_Mo_append_0 : decode b_Mo_append 0 = .ok (.aload_n 0, 1) := by decide +kernel
theorem d_Mo_append_1 : decode b_Mo_append 1 = .ok (.iconst 0, 1) := by decide +kernel
theorem d_Mo_append_2 : decode b_Mo_append 2 = .ok (.putfield 81, 3) := by decide +kernel
theorem d_Mo_append_5 : decode b_Mo_append 5 = .ok (.iload_n 3, 1) := by decide +kernel
theorem d_Mo_append_6 : decode b_Mo_append 6 = .ok (.iconst 1, 1) := by decide +kernel
theorem d_Mo_append_7 : decode b_Mo_append 7 = .ok (.if_icmp .lt 9, 3) := by decide +kernel
theorem d_Mo_append_10 : decode b_Mo_append 10 = .ok (.iload_n 3, 1) := by decide +kernel
theorem d_Mo_append_11 : decode b_Mo_append 11 = .ok (.bipush 8, 2) := by decide +kernel
theorem d_Mo_append_13 : decode b_Mo_append 13 = .ok (.if_icmp .le 9, 3) := by decide +kernel
theorem d_Mo_append_16 : decode b_Mo_append 16 = .ok (.aload_n 0, 1) := by decide +kernel
theorem d_Mo_append_17 : decode b_Mo_append 17 = .ok (.iconst 1, 1) := by decide +kernel
theorem d_Mo_append_18 : decode b_Mo_append 18 = .ok (.invokevirtual 92, 3) := by decide +kernel
theorem d_Mo_append_21 : decode b_Mo_append 21 = .ok (.ireturn, 1) := by decide +kernel
theorem d_Mo_append_22 : decode b_Mo_append 22 = .ok (.iconst 0, 1) := by decide +kernel
theorem d_Mo_append_23 : decode b_Mo_append 23 = .ok (.istore 4, 2) := by decide +kernel
theorem d_Mo_append_25 : decode b_Mo_append 25 = .ok (.iload 4, 2) := by decide +kernel
theorem d_Mo_append_27 : decode b_Mo_append 27 = .ok (.iload_n 3, 1) := by decide +kernel
theorem d_Mo_append_28 : decode b_Mo_append 28 = .ok (.if_icmp .ge 27, 3) := by decide +kernel
theorem d_Mo_append_31 : decode b_Mo_append 31 = .ok (.lload_n 1, 1) := by decide +kernel
theorem d_Mo_append_32 : decode b_Mo_append 32 = .ok (.iload 4, 2) := by decide +kernel
theorem d_Mo_append_34 : decode b_Mo_append 34 = .ok (.invokestatic 96, 3) := by decide +kernel
theorem d_Mo_append_37 : decode b_Mo_append 37 = .ok (.invokestatic 88, 3) := by decide +kernel
theorem d_Mo_append_40 : decode b_Mo_append 40 = .ok (.ifCond .ne 9, 3) := by decide +kernel
theorem d_Mo_append_43 : decode b_Mo_append 43 = .ok (.aload_n 0, 1) := by decide +kernel
theorem d_Mo_append_44 : decode b_Mo_append 44 = .ok (.iconst 1, 1) := by decide +kernel
theorem d_Mo_append_45 : decode b_Mo_append 45 = .ok (.invokevirtual 92, 3) := by decide +kernel
theorem d_Mo_append_48 : decode b_Mo_append 48 = .ok (.ireturn, 1) := by decide +kernel
theorem d_Mo_append_49 : decode b_Mo_append 49 = .ok (.iinc 4 1, 3) := by decide +kernel
theorem d_Mo_append_52 : decode b_Mo_append 52 = .ok (.goto (-27), 3) := by decide +kernel
theorem d_Mo_append_55 : decode b_Mo_append 55 = .ok (.aload_n 0, 1) := by decide +kernel
theorem d_Mo_append_56 : decode b_Mo_append 56 = .ok (.getfield 85, 3) := by decide +kernel
theorem d_Mo_append_59 : decode b_Mo_append 59 = .ok (.iload_n 3, 1) := by decide +kernel
theorem d_Mo_append_60 : decode b_Mo_append 60 = .ok (.iadd, 1) := by decide +kernel
theorem d_Mo_append_61 : decode b_Mo_append 61 = .ok (.sipush 240, 3) := by decide +kernel
theorem d_Mo_append_64 : decode b_Mo_append 64 = .ok (.if_icmp .le 9, 3) := by decide +kernel
theorem d_Mo_append_67 : decode b_Mo_append 67 = .ok (.aload_n 0, 1) := by decide +kernel
theorem d_Mo_append_68 : decode b_Mo_append 68 = .ok (.iconst 2, 1) := by decide +kernel
theorem d_Mo_append_69 : decode b_Mo_append 69 = .ok (.invokevirtual 92, 3) := by decide +kernel
theorem d_Mo_append_72 : decode b_Mo_append 72 = .ok (.ireturn, 1) := by decide +kernel
theorem d_Mo_append_73 : decode b_Mo_append 73 = .ok (.iload_n 3, 1) := by decide +kernel
theorem d_Mo_append_74 : decode b_Mo_append 74 = .ok (.iconst 1, 1) := by decide +kernel
theorem d_Mo_append_75 : decode b_Mo_append 75 = .ok (.isub, 1) := by decide +kernel
theorem d_Mo_append_76 : decode b_Mo_append 76 = .ok (.istore 4, 2) := by decide +kernel
theorem d_Mo_append_78 : decode b_Mo_append 78 = .ok (.iload 4, 2) := by decide +kernel
theorem d_Mo_append_80 : decode b_Mo_append 80 = .ok (.ifCond .lt 34, 3) := by decide +kernel
theorem d_Mo_append_83 : decode b_Mo_append 83 = .ok (.aload_n 0, 1) := by decide +kernel
theorem d_Mo_append_84 : decode b_Mo_append 84 = .ok (.getfield 7, 3) := by decide +kernel
theorem d_Mo_append_87 : decode b_Mo_append 87 = .ok (.aload_n 0, 1) := by decide +kernel
theorem d_Mo_append_88 : decode b_Mo_append 88 = .ok (.getfield 85, 3) := by decide +kernel
theorem d_Mo_append_91 : decode b_Mo_append 91 = .ok (.lload_n 1, 1) := by decide +kernel
theorem d_Mo_append_92 : decode b_Mo_append 92 = .ok (.iload 4, 2) := by decide +kernel
theorem d_Mo_append_94 : decode b_Mo_append 94 = .ok (.invokestatic 96, 3) := by decide +kernel
theorem d_Mo_append_97 : decode b_Mo_append 97 = .ok (.iastore, 1) := by decide +kernel
theorem d_Mo_append_98 : decode b_Mo_append 98 = .ok (.aload_n 0, 1) := by decide +kernel
theorem d_Mo_append_99 : decode b_Mo_append 99 = .ok (.dup, 1) := by decide +kernel
theorem d_Mo_append_100 : decode b_Mo_append 100 = .ok (.getfield 85, 3) := by decide +kernel
theorem d_Mo_append_103 : decode b_Mo_append 103 = .ok (.iconst 1, 1) := by decide +kernel
theorem d_Mo_append_104 : decode b_Mo_append 104 = .ok (.iadd, 1) := by decide +kernel
theorem d_Mo_append_105 : decode b_Mo_append 105 = .ok (.putfield 85, 3) := by decide +kernel
theorem d_Mo_append_108 : decode b_Mo_append 108 = .ok (.iinc 4 (-1), 3) := by decide +kernel
theorem d_Mo_append_111 : decode b_Mo_append 111 = .ok (.goto (-33), 3) := by decide +kernel
theorem d_Mo_append_114 : decode b_Mo_append 114 = .ok (.aload_n 0, 1) := by decide +kernel
theorem d_Mo_append_115 : decode b_Mo_append 115 = .ok (.getfield 85, 3) := by decide +kernel
theorem d_Mo_append_118 : decode b_Mo_append 118 = .ok (.ireturn, 1) := by decide +kernel
abbrev y_Mo_delete : MethodName := ⟨"LanguageServerModel", "delete", "(II)I"⟩
abbrev b_Mo_delete : ByteArray := prog_13_method_8_code
theorem d_Mo_delete_0 : decode b_Mo_delete 0 = .ok (.aload_n 0, 1) := by decide +kernel
theorem d_Mo_delete_1 : decode b_Mo_delete 1 = .ok (.iconst 0, 1) := by decide +kernel
theorem d_Mo_delete_2 : decode b_Mo_delete 2 = .ok (.putfield 81, 3) := by decide +kernel
theorem d_Mo_delete_5 : decode b_Mo_delete 5 = .ok (.iload_n 1, 1) := by decide +kernel
theorem d_Mo_delete_6 : decode b_Mo_delete 6 = .ok (.ifCond .lt 25, 3) := by decide +kernel
theorem d_Mo_delete_9 : decode b_Mo_delete 9 = .ok (.iload_n 2, 1) := by decide +kernel
theorem d_Mo_delete_10 : decode b_Mo_delete 10 = .ok (.ifCond .lt 21, 3) := by decide +kernel
theorem d_Mo_delete_13 : decode b_Mo_delete 13 = .ok (.iload_n 1, 1) := by decide +kernel
theorem d_Mo_delete_14 : decode b_Mo_delete 14 = .ok (.aload_n 0, 1) := by decide +kernel
theorem d_Mo_delete_15 : decode b_Mo_delete 15 = .ok (.getfield 85, 3) := by decide +kernel
theorem d_Mo_delete_18 : decode b_Mo_delete 18 = .ok (.if_icmp .gt 13, 3) := by decide +kernel
theorem d_Mo_delete_21 : decode b_Mo_delete 21 = .ok (.iload_n 2, 1) := by decide +kernel
theorem d_Mo_delete_22 : decode b_Mo_delete 22 = .ok (.aload_n 0, 1) := by decide +kernel
theorem d_Mo_delete_23 : decode b_Mo_delete 23 = .ok (.getfield 85, 3) := by decide +kernel
theorem d_Mo_delete_26 : decode b_Mo_delete 26 = .ok (.iload_n 1, 1) := by decide +kernel
theorem d_Mo_delete_27 : decode b_Mo_delete 27 = .ok (.isub, 1) := by decide +kernel
theorem d_Mo_delete_28 : decode b_Mo_delete 28 = .ok (.if_icmp .le 9, 3) := by decide +kernel
theorem d_Mo_delete_31 : decode b_Mo_delete 31 = .ok (.aload_n 0, 1) := by decide +kernel
theorem d_Mo_delete_32 : decode b_Mo_delete 32 = .ok (.iconst 1, 1) := by decide +kernel
theorem d_Mo_delete_33 : decode b_Mo_delete 33 = .ok (.invokevirtual 92, 3) := by decide +kernel
theorem d_Mo_delete_36 : decode b_Mo_delete 36 = .ok (.ireturn, 1) := by decide +kernel
theorem d_Mo_delete_37 : decode b_Mo_delete 37 = .ok (.iload_n 1, 1) := by decide +kernel
theorem d_Mo_delete_38 : decode b_Mo_delete 38 = .ok (.istore_n 3, 1) := by decide +kernel
theorem d_Mo_delete_39 : decode b_Mo_delete 39 = .ok (.iload_n 3, 1) := by decide +kernel
theorem d_Mo_delete_40 : decode b_Mo_delete 40 = .ok (.iload_n 2, 1) := by decide +kernel
theorem d_Mo_delete_41 : decode b_Mo_delete 41 = .ok (.iadd, 1) := by decide +kernel
theorem d_Mo_delete_42 : decode b_Mo_delete 42 = .ok (.aload_n 0, 1) := by decide +kernel
theorem d_Mo_delete_43 : decode b_Mo_delete 43 = .ok (.getfield 85, 3) := by decide +kernel
theorem d_Mo_delete_46 : decode b_Mo_delete 46 = .ok (.if_icmp .ge 23, 3) := by decide +kernel
theorem d_Mo_delete_49 : decode b_Mo_delete 49 = .ok (.aload_n 0, 1) := by decide +kernel
theorem d_Mo_delete_50 : decode b_Mo_delete 50 = .ok (.getfield 7, 3) := by decide +kernel
theorem d_Mo_delete_53 : decode b_Mo_delete 53 = .ok (.iload_n 3, 1) := by decide +kernel
theorem d_Mo_delete_54 : decode b_Mo_delete 54 = .ok (.aload_n 0, 1) := by decide +kernel
theorem d_Mo_delete_55 : decode b_Mo_delete 55 = .ok (.getfield 7, 3) := by decide +kernel
theorem d_Mo_delete_58 : decode b_Mo_delete 58 = .ok (.iload_n 3, 1) := by decide +kernel
theorem d_Mo_delete_59 : decode b_Mo_delete 59 = .ok (.iload_n 2, 1) := by decide +kernel
theorem d_Mo_delete_60 : decode b_Mo_delete 60 = .ok (.iadd, 1) := by decide +kernel
theorem d_Mo_delete_61 : decode b_Mo_delete 61 = .ok (.iaload, 1) := by decide +kernel
theorem d_Mo_delete_62 : decode b_Mo_delete 62 = .ok (.iastore, 1) := by decide +kernel
theorem d_Mo_delete_63 : decode b_Mo_delete 63 = .ok (.iinc 3 1, 3) := by decide +kernel
theorem d_Mo_delete_66 : decode b_Mo_delete 66 = .ok (.goto (-27), 3) := by decide +kernel
theorem d_Mo_delete_69 : decode b_Mo_delete 69 = .ok (.aload_n 0, 1) := by decide +kernel
theorem d_Mo_delete_70 : decode b_Mo_delete 70 = .ok (.dup, 1) := by decide +kernel
theorem d_Mo_delete_71 : decode b_Mo_delete 71 = .ok (.getfield 85, 3) := by decide +kernel
theorem d_Mo_delete_74 : decode b_Mo_delete 74 = .ok (.iload_n 2, 1) := by decide +kernel
theorem d_Mo_delete_75 : decode b_Mo_delete 75 = .ok (.isub, 1) := by decide +kernel
theorem d_Mo_delete_76 : decode b_Mo_delete 76 = .ok (.putfield 85, 3) := by decide +kernel
theorem d_Mo_delete_79 : decode b_Mo_delete 79 = .ok (.aload_n 0, 1) := by decide +kernel
theorem d_Mo_delete_80 : decode b_Mo_delete 80 = .ok (.getfield 85, 3) := by decide +kernel
theorem d_Mo_delete_83 : decode b_Mo_delete 83 = .ok (.ireturn, 1) := by decide +kernel
abbrev y_Mo_text : MethodName := ⟨"LanguageServerModel", "text", "(I)I"⟩
abbrev b_Mo_text : ByteArray := prog_13_method_9_code
theorem d_Mo_text_0 : decode b_Mo_text 0 = .ok (.aload_n 0, 1) := by decide +kernel
theorem d_Mo_text_1 : decode b_Mo_text 1 = .ok (.iconst 0, 1) := by decide +kernel
theorem d_Mo_text_2 : decode b_Mo_text 2 = .ok (.putfield 81, 3) := by decide +kernel
theorem d_Mo_text_5 : decode b_Mo_text 5 = .ok (.iload_n 1, 1) := by decide +kernel
theorem d_Mo_text_6 : decode b_Mo_text 6 = .ok (.ifCond .lt 11, 3) := by decide +kernel
theorem d_Mo_text_9 : decode b_Mo_text 9 = .ok (.iload_n 1, 1) := by decide +kernel
theorem d_Mo_text_10 : decode b_Mo_text 10 = .ok (.aload_n 0, 1) := by decide +kernel
theorem d_Mo_text_11 : decode b_Mo_text 11 = .ok (.getfield 85, 3) := by decide +kernel
theorem d_Mo_text_14 : decode b_Mo_text 14 = .ok (.if_icmp .lt 11, 3) := by decide +kernel
theorem d_Mo_text_17 : decode b_Mo_text 17 = .ok (.aload_n 0, 1) := by decide +kernel
theorem d_Mo_text_18 : decode b_Mo_text 18 = .ok (.iconst 1, 1) := by decide +kernel
theorem d_Mo_text_19 : decode b_Mo_text 19 = .ok (.invokevirtual 92, 3) := by decide +kernel
theorem d_Mo_text_22 : decode b_Mo_text 22 = .ok (.goto 9, 3) := by decide +kernel
theorem d_Mo_text_25 : decode b_Mo_text 25 = .ok (.aload_n 0, 1) := by decide +kernel
theorem d_Mo_text_26 : decode b_Mo_text 26 = .ok (.getfield 7, 3) := by decide +kernel
theorem d_Mo_text_29 : decode b_Mo_text 29 = .ok (.iload_n 1, 1) := by decide +kernel
theorem d_Mo_text_30 : decode b_Mo_text 30 = .ok (.iaload, 1) := by decide +kernel
theorem d_Mo_text_31 : decode b_Mo_text 31 = .ok (.ireturn, 1) := by decide +kernel
abbrev y_Mo_letter : MethodName := ⟨"LanguageServerModel", "letter", "(I)Z"⟩
abbrev b_Mo_letter : ByteArray := prog_13_method_10_code
theorem d_Mo_letter_0 : decode b_Mo_letter 0 = .ok (.iload_n 0, 1) := by decide +kernel
theorem d_Mo_letter_1 : decode b_Mo_letter 1 = .ok (.bipush 65, 2) := by decide +kernel
theorem d_Mo_letter_3 : decode b_Mo_letter 3 = .ok (.if_icmp .lt 9, 3) := by decide +kernel
theorem d_Mo_letter_6 : decode b_Mo_letter 6 = .ok (.iload_n 0, 1) := by decide +kernel
theorem d_Mo_letter_7 : decode b_Mo_letter 7 = .ok (.bipush 90, 2) := by decide +kernel
theorem d_Mo_letter_9 : decode b_Mo_letter 9 = .ok (.if_icmp .le 15, 3) := by decide +kernel
theorem d_Mo_letter_12 : decode b_Mo_letter 12 = .ok (.iload_n 0, 1) := by decide +kernel
theorem d_Mo_letter_13 : decode b_Mo_letter 13 = .ok (.bipush 97, 2) := by decide +kernel
theorem d_Mo_letter_15 : decode b_Mo_letter 15 = .ok (.if_icmp .lt 13, 3) := by decide +kernel
theorem d_Mo_letter_18 : decode b_Mo_letter 18 = .ok (.iload_n 0, 1) := by decide +kernel
theorem d_Mo_letter_19 : decode b_Mo_letter 19 = .ok (.bipush 122, 2) := by decide +kernel
theorem d_Mo_letter_21 : decode b_Mo_letter 21 = .ok (.if_icmp .gt 7, 3) := by decide +kernel
theorem d_Mo_letter_24 : decode b_Mo_letter 24 = .ok (.iconst 1, 1) := by decide +kernel
theorem d_Mo_letter_25 : decode b_Mo_letter 25 = .ok (.goto 4, 3) := by decide +kernel
theorem d_Mo_letter_28 : decode b_Mo_letter 28 = .ok (.iconst 0, 1) := by decide +kernel
theorem d_Mo_letter_29 : decode b_Mo_letter 29 = .ok (.ireturn, 1) := by decide +kernel
abbrev y_Mo_digit : MethodName := ⟨"LanguageServerModel", "digit", "(I)Z"⟩
abbrev b_Mo_digit : ByteArray := prog_13_method_11_code
theorem d_Mo_digit_0 : decode b_Mo_digit 0 = .ok (.iload_n 0, 1) := by decide +kernel
theorem d_Mo_digit_1 : decode b_Mo_digit 1 = .ok (.bipush 48, 2) := by decide +kernel
theorem d_Mo_digit_3 : decode b_Mo_digit 3 = .ok (.if_icmp .lt 13, 3) := by decide +kernel
theorem d_Mo_digit_6 : decode b_Mo_digit 6 = .ok (.iload_n 0, 1) := by decide +kernel
theorem d_Mo_digit_7 : decode b_Mo_digit 7 = .ok (.bipush 57, 2) := by decide +kernel
theorem d_Mo_digit_9 : decode b_Mo_digit 9 = .ok (.if_icmp .gt 7, 3) := by decide +kernel
theorem d_Mo_digit_12 : decode b_Mo_digit 12 = .ok (.iconst 1, 1) := by decide +kernel
theorem d_Mo_digit_13 : decode b_Mo_digit 13 = .ok (.goto 4, 3) := by decide +kernel
theorem d_Mo_digit_16 : decode b_Mo_digit 16 = .ok (.iconst 0, 1) := by decide +kernel
theorem d_Mo_digit_17 : decode b_Mo_digit 17 = .ok (.ireturn, 1) := by decide +kernel
abbrev y_Mo_wordKind : MethodName := ⟨"LanguageServerModel", "wordKind", "(J)I"⟩
abbrev b_Mo_wordKind : ByteArray := prog_13_method_12_code
theorem d_Mo_wordKind_0 : decode b_Mo_wordKind 0 = .ok (.lload_n 0, 1) := by decide +kernel
theorem d_Mo_wordKind_1 : decode b_Mo_wordKind 1 = .ok (.ldc2_w 100, 3) := by decide +kernel
theorem d_Mo_wordKind_4 : decode b_Mo_wordKind 4 = .ok (.lcmp, 1) := by decide +kernel
theorem d_Mo_wordKind_5 : decode b_Mo_wordKind 5 = .ok (.ifCond .ne 5, 3) := by decide +kernel
theorem d_Mo_wordKind_8 : decode b_Mo_wordKind 8 = .ok (.iconst 4, 1) := by decide +kernel
theorem d_Mo_wordKind_9 : decode b_Mo_wordKind 9 = .ok (.ireturn, 1) := by decide +kernel
theorem d_Mo_wordKind_10 : decode b_Mo_wordKind 10 = .ok (.lload_n 0, 1) := by decide +kernel
theorem d_Mo_wordKind_11 : decode b_Mo_wordKind 11 = .ok (.ldc2_w 102, 3) := by decide +kernel
theorem d_Mo_wordKind_14 : decode b_Mo_wordKind 14 = .ok (.lcmp, 1) := by decide +kernel
theorem d_Mo_wordKind_15 : decode b_Mo_wordKind 15 = .ok (.ifCond .ne 5, 3) := by decide +kernel
theorem d_Mo_wordKind_18 : decode b_Mo_wordKind 18 = .ok (.iconst 5, 1) := by decide +kernel
theorem d_Mo_wordKind_19 : decode b_Mo_wordKind 19 = .ok (.ireturn, 1) := by decide +kernel
theorem d_Mo_wordKind_20 : decode b_Mo_wordKind 20 = .ok (.lload_n 0, 1) := by decide +kernel
theorem d_Mo_wordKind_21 : decode b_Mo_wordKind 21 = .ok (.ldc2_w 104, 3) := by decide +kernel
theorem d_Mo_wordKind_24 : decode b_Mo_wordKind 24 = .ok (.lcmp, 1) := by decide +kernel
theorem d_Mo_wordKind_25 : decode b_Mo_wordKind 25 = .ok (.ifCond .ne 5, 3) := by decide +kernel
theorem d_Mo_wordKind_28 : decode b_Mo_wordKind 28 = .ok (.iconst 3, 1) := by decide +kernel
theorem d_Mo_wordKind_29 : decode b_Mo_wordKind 29 = .ok (.ireturn, 1) := by decide +kernel
theorem d_Mo_wordKind_30 : decode b_Mo_wordKind 30 = .ok (.lload_n 0, 1) := by decide +kernel
theorem d_Mo_wordKind_31 : decode b_Mo_wordKind 31 = .ok (.ldc2_w 106, 3) := by decide +kernel
theorem d_Mo_wordKind_34 : decode b_Mo_wordKind 34 = .ok (.lcmp, 1) := by decide +kernel
theorem d_Mo_wordKind_35 : decode b_Mo_wordKind 35 = .ok (.ifCond .ne 6, 3) := by decide +kernel
theorem d_Mo_wordKind_38 : decode b_Mo_wordKind 38 = .ok (.bipush 6, 2) := by decide +kernel
theorem d_Mo_wordKind_40 : decode b_Mo_wordKind 40 = .ok (.ireturn, 1) := by decide +kernel
theorem d_Mo_wordKind_41 : decode b_Mo_wordKind 41 = .ok (.lload_n 0, 1) := by decide +kernel
theorem d_Mo_wordKind_42 : decode b_Mo_wordKind 42 = .ok (.ldc2_w 108, 3) := by decide +kernel
theorem d_Mo_wordKind_45 : decode b_Mo_wordKind 45 = .ok (.lcmp, 1) := by decide +kernel
theorem d_Mo_wordKind_46 : decode b_Mo_wordKind 46 = .ok (.ifCond .ne 6, 3) := by decide +kernel
theorem d_Mo_wordKind_49 : decode b_Mo_wordKind 49 = .ok (.bipush 7, 2) := by decide +kernel
theorem d_Mo_wordKind_51 : decode b_Mo_wordKind 51 = .ok (.ireturn, 1) := by decide +kernel
theorem d_Mo_wordKind_52 : decode b_Mo_wordKind 52 = .ok (.lload_n 0, 1) := by decide +kernel
theorem d_Mo_wordKind_53 : decode b_Mo_wordKind 53 = .ok (.ldc2_w 110, 3) := by decide +kernel
theorem d_Mo_wordKind_56 : decode b_Mo_wordKind 56 = .ok (.lcmp, 1) := by decide +kernel
theorem d_Mo_wordKind_57 : decode b_Mo_wordKind 57 = .ok (.ifCond .ne 8, 3) := by decide +kernel
theorem d_Mo_wordKind_60 : decode b_Mo_wordKind 60 = .ok (.bipush 8, 2) := by decide +kernel
theorem d_Mo_wordKind_62 : decode b_Mo_wordKind 62 = .ok (.goto 4, 3) := by decide +kernel
theorem d_Mo_wordKind_65 : decode b_Mo_wordKind 65 = .ok (.iconst 1, 1) := by decide +kernel
theorem d_Mo_wordKind_66 : decode b_Mo_wordKind 66 = .ok (.ireturn, 1) := by decide +kernel
abbrev y_Mo_sign : MethodName := ⟨"LanguageServerModel", "sign", "(I)Z"⟩
abbrev b_Mo_sign : ByteArray := prog_13_method_13_code
theorem d_Mo_sign_0 : decode b_Mo_sign 0 = .ok (.iload_n 0, 1) := by decide +kernel
theorem d_Mo_sign_1 : decode b_Mo_sign 1 = .ok (.bipush 123, 2) := by decide +kernel
theorem d_Mo_sign_3 : decode b_Mo_sign 3 = .ok (.if_icmp .eq 51, 3) := by decide +kernel
theorem d_Mo_sign_6 : decode b_Mo_sign 6 = .ok (.iload_n 0, 1) := by decide +kernel
theorem d_Mo_sign_7 : decode b_Mo_sign 7 = .ok (.bipush 125, 2) := by decide +kernel
theorem d_Mo_sign_9 : decode b_Mo_sign 9 = .ok (.if_icmp .eq 45, 3) := by decide +kernel
theorem d_Mo_sign_12 : decode b_Mo_sign 12 = .ok (.iload_n 0, 1) := by decide +kernel
theorem d_Mo_sign_13 : decode b_Mo_sign 13 = .ok (.bipush 40, 2) := by decide +kernel
theorem d_Mo_sign_15 : decode b_Mo_sign 15 = .ok (.if_icmp .eq 39, 3) := by decide +kernel
theorem d_Mo_sign_18 : decode b_Mo_sign 18 = .ok (.iload_n 0, 1) := by decide +kernel
theorem d_Mo_sign_19 : decode b_Mo_sign 19 = .ok (.bipush 41, 2) := by decide +kernel
theorem d_Mo_sign_21 : decode b_Mo_sign 21 = .ok (.if_icmp .eq 33, 3) := by decide +kernel
theorem d_Mo_sign_24 : decode b_Mo_sign 24 = .ok (.iload_n 0, 1) := by decide +kernel
theorem d_Mo_sign_25 : decode b_Mo_sign 25 = .ok (.bipush 59, 2) := by decide +kernel
theorem d_Mo_sign_27 : decode b_Mo_sign 27 = .ok (.if_icmp .eq 27, 3) := by decide +kernel
theorem d_Mo_sign_30 : decode b_Mo_sign 30 = .ok (.iload_n 0, 1) := by decide +kernel
theorem d_Mo_sign_31 : decode b_Mo_sign 31 = .ok (.bipush 44, 2) := by decide +kernel
theorem d_Mo_sign_33 : decode b_Mo_sign 33 = .ok (.if_icmp .eq 21, 3) := by decide +kernel
theorem d_Mo_sign_36 : decode b_Mo_sign 36 = .ok (.iload_n 0, 1) := by decide +kernel
theorem d_Mo_sign_37 : decode b_Mo_sign 37 = .ok (.bipush 46, 2) := by decide +kernel
theorem d_Mo_sign_39 : decode b_Mo_sign 39 = .ok (.if_icmp .eq 15, 3) := by decide +kernel
theorem d_Mo_sign_42 : decode b_Mo_sign 42 = .ok (.iload_n 0, 1) := by decide +kernel
theorem d_Mo_sign_43 : decode b_Mo_sign 43 = .ok (.bipush 61, 2) := by decide +kernel
theorem d_Mo_sign_45 : decode b_Mo_sign 45 = .ok (.if_icmp .eq 9, 3) := by decide +kernel
theorem d_Mo_sign_48 : decode b_Mo_sign 48 = .ok (.iload_n 0, 1) := by decide +kernel
theorem d_Mo_sign_49 : decode b_Mo_sign 49 = .ok (.bipush 43, 2) := by decide +kernel
theorem d_Mo_sign_51 : decode b_Mo_sign 51 = .ok (.if_icmp .ne 7, 3) := by decide +kernel
theorem d_Mo_sign_54 : decode b_Mo_sign 54 = .ok (.iconst 1, 1) := by decide +kernel
theorem d_Mo_sign_55 : decode b_Mo_sign 55 = .ok (.goto 4, 3) := by decide +kernel
theorem d_Mo_sign_58 : decode b_Mo_sign 58 = .ok (.iconst 0, 1) := by decide +kernel
theorem d_Mo_sign_59 : decode b_Mo_sign 59 = .ok (.ireturn, 1) := by decide +kernel
