abbrev y_Outline_clear : MethodName := ⟨"LanguageServer$Outline", "clear", "()V"⟩
abbrev b_Outline_clear : ByteArray := prog_5_method_2_code
theorem d_Outline_clear_0 : decode b_Outline_clear 0 = .ok (.aload_n 0, 1) := by decide +kernel
theorem d_Outline_clear_1 : decode b_Outline_clear 1 = .ok (.getfield 11, 3) := by decide +kernel
theorem d_Outline_clear_4 : decode b_Outline_clear 4 = .ok (.iconst 0, 1) := by decide +kernel
theorem d_Outline_clear_5 : decode b_Outline_clear 5 = .ok (.invokestatic 41, 3) := by decide +kernel
theorem d_Outline_clear_8 : decode b_Outline_clear 8 = .ok (.aload_n 0, 1) := by decide +kernel
theorem d_Outline_clear_9 : decode b_Outline_clear 9 = .ok (.getfield 17, 3) := by decide +kernel
theorem d_Outline_clear_12 : decode b_Outline_clear 12 = .ok (.iconst 0, 1) := by decide +kernel
theorem d_Outline_clear_13 : decode b_Outline_clear 13 = .ok (.invokestatic 41, 3) := by decide +kernel
theorem d_Outline_clear_16 : decode b_Outline_clear 16 = .ok (.aload_n 0, 1) := by decide +kernel
theorem d_Outline_clear_17 : decode b_Outline_clear 17 = .ok (.getfield 20, 3) := by decide +kernel
theorem d_Outline_clear_20 : decode b_Outline_clear 20 = .ok (.iconst (-1), 1) := by decide +kernel
theorem d_Outline_clear_21 : decode b_Outline_clear 21 = .ok (.invokestatic 41, 3) := by decide +kernel
theorem d_Outline_clear_24 : decode b_Outline_clear 24 = .ok (.aload_n 0, 1) := by decide +kernel
theorem d_Outline_clear_25 : decode b_Outline_clear 25 = .ok (.getfield 23, 3) := by decide +kernel
theorem d_Outline_clear_28 : decode b_Outline_clear 28 = .ok (.bipush (-2), 2) := by decide +kernel
theorem d_Outline_clear_30 : decode b_Outline_clear 30 = .ok (.invokestatic 41, 3) := by decide +kernel
theorem d_Outline_clear_33 : decode b_Outline_clear 33 = .ok (.aload_n 0, 1) := by decide +kernel
theorem d_Outline_clear_34 : decode b_Outline_clear 34 = .ok (.getfield 29, 3) := by decide +kernel
theorem d_Outline_clear_37 : decode b_Outline_clear 37 = .ok (.iconst (-1), 1) := by decide +kernel
theorem d_Outline_clear_38 : decode b_Outline_clear 38 = .ok (.invokestatic 41, 3) := by decide +kernel
theorem d_Outline_clear_41 : decode b_Outline_clear 41 = .ok (.aload_n 0, 1) := by decide +kernel
theorem d_Outline_clear_42 : decode b_Outline_clear 42 = .ok (.iconst 0, 1) := by decide +kernel
theorem d_Outline_clear_43 : decode b_Outline_clear 43 = .ok (.putfield 47, 3) := by decide +kernel
theorem d_Outline_clear_46 : decode b_Outline_clear 46 = .ok (.aload_n 0, 1) := by decide +kernel
theorem d_Outline_clear_47 : decode b_Outline_clear 47 = .ok (.iconst 0, 1) := by decide +kernel
theorem d_Outline_clear_48 : decode b_Outline_clear 48 = .ok (.putfield 51, 3) := by decide +kernel
theorem d_Outline_clear_51 : decode b_Outline_clear 51 = .ok (.return_, 1) := by decide +kernel
abbrev y_Outline_addClass : MethodName := ⟨"LanguageServer$Outline", "addClass", "(I)V"⟩
abbrev b_Outline_addClass : ByteArray := prog_5_method_3_code
theorem d_Outline_addClass_0 : decode b_Outline_addClass 0 = .ok (.aload_n 0, 1) := by decide +kernel
theorem d_Outline_addClass_1 : decode b_Outline_addClass 1 = .ok (.getfield 51, 3) := by decide +kernel
theorem d_Outline_addClass_4 : decode b_Outline_addClass 4 = .ok (.bipush 30, 2) := by decide +kernel
theorem d_Outline_addClass_6 : decode b_Outline_addClass 6 = .ok (.if_icmp .ge 33, 3) := by decide +kernel
theorem d_Outline_addClass_9 : decode b_Outline_addClass 9 = .ok (.aload_n 0, 1) := by decide +kernel
theorem d_Outline_addClass_10 : decode b_Outline_addClass 10 = .ok (.getfield 23, 3) := by decide +kernel
theorem d_Outline_addClass_13 : decode b_Outline_addClass 13 = .ok (.iload_n 1, 1) := by decide +kernel
theorem d_Outline_addClass_14 : decode b_Outline_addClass 14 = .ok (.aload_n 0, 1) := by decide +kernel
theorem d_Outline_addClass_15 : decode b_Outline_addClass 15 = .ok (.getfield 51, 3) := by decide +kernel
theorem d_Outline_addClass_18 : decode b_Outline_addClass 18 = .ok (.iastore, 1) := by decide +kernel
theorem d_Outline_addClass_19 : decode b_Outline_addClass 19 = .ok (.aload_n 0, 1) := by decide +kernel
theorem d_Outline_addClass_20 : decode b_Outline_addClass 20 = .ok (.getfield 26, 3) := by decide +kernel
theorem d_Outline_addClass_23 : decode b_Outline_addClass 23 = .ok (.aload_n 0, 1) := by decide +kernel
theorem d_Outline_addClass_24 : decode b_Outline_addClass 24 = .ok (.getfield 51, 3) := by decide +kernel
theorem d_Outline_addClass_27 : decode b_Outline_addClass 27 = .ok (.iload_n 1, 1) := by decide +kernel
theorem d_Outline_addClass_28 : decode b_Outline_addClass 28 = .ok (.iastore, 1) := by decide +kernel
theorem d_Outline_addClass_29 : decode b_Outline_addClass 29 = .ok (.aload_n 0, 1) := by decide +kernel
theorem d_Outline_addClass_30 : decode b_Outline_addClass 30 = .ok (.dup, 1) := by decide +kernel
theorem d_Outline_addClass_31 : decode b_Outline_addClass 31 = .ok (.getfield 51, 3) := by decide +kernel
theorem d_Outline_addClass_34 : decode b_Outline_addClass 34 = .ok (.iconst 1, 1) := by decide +kernel
theorem d_Outline_addClass_35 : decode b_Outline_addClass 35 = .ok (.iadd, 1) := by decide +kernel
theorem d_Outline_addClass_36 : decode b_Outline_addClass 36 = .ok (.putfield 51, 3) := by decide +kernel
theorem d_Outline_addClass_39 : decode b_Outline_addClass 39 = .ok (.return_, 1) := by decide +kernel
abbrev y_Outline_finish : MethodName := ⟨"LanguageServer$Outline", "finish", "(I)V"⟩
abbrev b_Outline_finish : ByteArray := prog_5_method_4_code
theorem d_Outline_finish_0 : decode b_Outline_finish 0 = .ok (.aload_n 0, 1) := by decide +kernel
theorem d_Outline_finish_1 : decode b_Outline_finish 1 = .ok (.iload_n 1, 1) := by decide +kernel
theorem d_Outline_finish_2 : decode b_Outline_finish 2 = .ok (.putfield 47, 3) := by decide +kernel
theorem d_Outline_finish_5 : decode b_Outline_finish 5 = .ok (.aload_n 0, 1) := by decide +kernel
theorem d_Outline_finish_6 : decode b_Outline_finish 6 = .ok (.getfield 26, 3) := by decide +kernel
theorem d_Outline_finish_9 : decode b_Outline_finish 9 = .ok (.aload_n 0, 1) := by decide +kernel
theorem d_Outline_finish_10 : decode b_Outline_finish 10 = .ok (.getfield 51, 3) := by decide +kernel
theorem d_Outline_finish_13 : decode b_Outline_finish 13 = .ok (.iload_n 1, 1) := by decide +kernel
theorem d_Outline_finish_14 : decode b_Outline_finish 14 = .ok (.iastore, 1) := by decide +kernel
theorem d_Outline_finish_15 : decode b_Outline_finish 15 = .ok (.return_, 1) := by decide +kernel
abbrev y_Outline_giveUp : MethodName := ⟨"LanguageServer$Outline", "giveUp", "(I)V"⟩
abbrev b_Outline_giveUp : ByteArray := prog_5_method_5_code
theorem d_Outline_giveUp_0 : decode b_Outline_giveUp 0 = .ok (.aload_n 0, 1) := by decide +kernel
theorem d_Outline_giveUp_1 : decode b_Outline_giveUp 1 = .ok (.iload_n 1, 1) := by decide +kernel
theorem d_Outline_giveUp_2 : decode b_Outline_giveUp 2 = .ok (.putfield 47, 3) := by decide +kernel
theorem d_Outline_giveUp_5 : decode b_Outline_giveUp 5 = .ok (.aload_n 0, 1) := by decide +kernel
theorem d_Outline_giveUp_6 : decode b_Outline_giveUp 6 = .ok (.iconst 0, 1) := by decide +kernel
theorem d_Outline_giveUp_7 : decode b_Outline_giveUp 7 = .ok (.putfield 51, 3) := by decide +kernel
theorem d_Outline_giveUp_10 : decode b_Outline_giveUp 10 = .ok (.return_, 1) := by decide +kernel
abbrev y_Outline_isClass : MethodName := ⟨"LanguageServer$Outline", "isClass", "(I)Z"⟩
abbrev b_Outline_isClass : ByteArray := prog_5_method_6_code
theorem d_Outline_isClass_0 : decode b_Outline_isClass 0 = .ok (.iload_n 1, 1) := by decide +kernel
theorem d_Outline_isClass_1 : decode b_Outline_isClass 1 = .ok (.ifCond .lt 15, 3) := by decide +kernel
theorem d_Outline_isClass_4 : decode b_Outline_isClass 4 = .ok (.iload_n 1, 1) := by decide +kernel
theorem d_Outline_isClass_5 : decode b_Outline_isClass 5 = .ok (.aload_n 0, 1) := by decide +kernel
theorem d_Outline_isClass_6 : decode b_Outline_isClass 6 = .ok (.getfield 51, 3) := by decide +kernel
theorem d_Outline_isClass_9 : decode b_Outline_isClass 9 = .ok (.if_icmp .ge 7, 3) := by decide +kernel
theorem d_Outline_isClass_12 : decode b_Outline_isClass 12 = .ok (.iconst 1, 1) := by decide +kernel
theorem d_Outline_isClass_13 : decode b_Outline_isClass 13 = .ok (.goto 4, 3) := by decide +kernel
theorem d_Outline_isClass_16 : decode b_Outline_isClass 16 = .ok (.iconst 0, 1) := by decide +kernel
theorem d_Outline_isClass_17 : decode b_Outline_isClass 17 = .ok (.ireturn, 1) := by decide +kernel
abbrev y_Outline_find : MethodName := ⟨"LanguageServer$Outline", "find", "(IIJI)I"⟩
abbrev b_Outline_find : ByteArray := prog_5_method_7_code
theorem d_Outline_find_0 : decode b_Outline_find 0 = .ok (.iload_n 1, 1) := by decide +kernel
theorem d_Outline_find_1 : decode b_Outline_find 1 = .ok (.iconst 0, 1) := by decide +kernel
theorem d_Outline_find_2 : decode b_Outline_find 2 = .ok (.invokestatic 54, 3) := by decide +kernel
theorem d_Outline_find_5 : decode b_Outline_find 5 = .ok (.istore 6, 2) := by decide +kernel
theorem d_Outline_find_7 : decode b_Outline_find 7 = .ok (.iload 6, 2) := by decide +kernel
theorem d_Outline_find_9 : decode b_Outline_find 9 = .ok (.iload_n 2, 1) := by decide +kernel
theorem d_Outline_find_10 : decode b_Outline_find 10 = .ok (.if_icmp .ge 52, 3) := by decide +kernel
theorem d_Outline_find_13 : decode b_Outline_find 13 = .ok (.iload 6, 2) := by decide +kernel
theorem d_Outline_find_15 : decode b_Outline_find 15 = .ok (.aload_n 0, 1) := by decide +kernel
theorem d_Outline_find_16 : decode b_Outline_find 16 = .ok (.getfield 47, 3) := by decide +kernel
theorem d_Outline_find_19 : decode b_Outline_find 19 = .ok (.if_icmp .ge 43, 3) := by decide +kernel
theorem d_Outline_find_22 : decode b_Outline_find 22 = .ok (.iload 5, 2) := by decide +kernel
theorem d_Outline_find_24 : decode b_Outline_find 24 = .ok (.aload_n 0, 1) := by decide +kernel
theorem d_Outline_find_25 : decode b_Outline_find 25 = .ok (.getfield 11, 3) := by decide +kernel
theorem d_Outline_find_28 : decode b_Outline_find 28 = .ok (.iload 6, 2) := by decide +kernel
theorem d_Outline_find_30 : decode b_Outline_find 30 = .ok (.iaload, 1) := by decide +kernel
theorem d_Outline_find_31 : decode b_Outline_find 31 = .ok (.ishr, 1) := by decide +kernel
theorem d_Outline_find_32 : decode b_Outline_find 32 = .ok (.iconst 1, 1) := by decide +kernel
theorem d_Outline_find_33 : decode b_Outline_find 33 = .ok (.iand, 1) := by decide +kernel
theorem d_Outline_find_34 : decode b_Outline_find 34 = .ok (.iconst 1, 1) := by decide +kernel
theorem d_Outline_find_35 : decode b_Outline_find 35 = .ok (.if_icmp .ne 21, 3) := by decide +kernel
theorem d_Outline_find_38 : decode b_Outline_find 38 = .ok (.aload_n 0, 1) := by decide +kernel
theorem d_Outline_find_39 : decode b_Outline_find 39 = .ok (.getfield 35, 3) := by decide +kernel
theorem d_Outline_find_42 : decode b_Outline_find 42 = .ok (.getfield 60, 3) := by decide +kernel
theorem d_Outline_find_45 : decode b_Outline_find 45 = .ok (.iload 6, 2) := by decide +kernel
theorem d_Outline_find_47 : decode b_Outline_find 47 = .ok (.laload, 1) := by decide +kernel
theorem d_Outline_find_48 : decode b_Outline_find 48 = .ok (.lload_n 3, 1) := by decide +kernel
theorem d_Outline_find_49 : decode b_Outline_find 49 = .ok (.lcmp, 1) := by decide +kernel
theorem d_Outline_find_50 : decode b_Outline_find 50 = .ok (.ifCond .ne 6, 3) := by decide +kernel
theorem d_Outline_find_53 : decode b_Outline_find 53 = .ok (.iload 6, 2) := by decide +kernel
theorem d_Outline_find_55 : decode b_Outline_find 55 = .ok (.ireturn, 1) := by decide +kernel
theorem d_Outline_find_56 : decode b_Outline_find 56 = .ok (.iinc 6 1, 3) := by decide +kernel
theorem d_Outline_find_59 : decode b_Outline_find 59 = .ok (.goto (-52), 3) := by decide +kernel
theorem d_Outline_find_62 : decode b_Outline_find 62 = .ok (.iconst (-1), 1) := by decide +kernel
theorem d_Outline_find_63 : decode b_Outline_find 63 = .ok (.ireturn, 1) := by decide +kernel
abbrev y_Outline_findMember : MethodName := ⟨"LanguageServer$Outline", "findMember", "(IJ)I"⟩
abbrev b_Outline_findMember : ByteArray := prog_5_method_8_code
theorem d_Outline_findMember_0 : decode b_Outline_findMember 0 = .ok (.iload_n 1, 1) := by decide +kernel
theorem d_Outline_findMember_1 : decode b_Outline_findMember 1 = .ok (.istore 4, 2) := by decide +kernel
theorem d_Outline_findMember_3 : decode b_Outline_findMember 3 = .ok (.iconst 0, 1) := by decide +kernel
theorem d_Outline_findMember_4 : decode b_Outline_findMember 4 = .ok (.istore 5, 2) := by decide +kernel
theorem d_Outline_findMember_6 : decode b_Outline_findMember 6 = .ok (.iload 5, 2) := by decide +kernel
theorem d_Outline_findMember_8 : decode b_Outline_findMember 8 = .ok (.aload_n 0, 1) := by decide +kernel
theorem d_Outline_findMember_9 : decode b_Outline_findMember 9 = .ok (.getfield 51, 3) := by decide +kernel
theorem d_Outline_findMember_12 : decode b_Outline_findMember 12 = .ok (.if_icmp .ge 61, 3) := by decide +kernel
theorem d_Outline_findMember_15 : decode b_Outline_findMember 15 = .ok (.aload_n 0, 1) := by decide +kernel
theorem d_Outline_findMember_16 : decode b_Outline_findMember 16 = .ok (.iload 4, 2) := by decide +kernel
theorem d_Outline_findMember_18 : decode b_Outline_findMember 18 = .ok (.invokevirtual 64, 3) := by decide +kernel
theorem d_Outline_findMember_21 : decode b_Outline_findMember 21 = .ok (.ifCond .eq 52, 3) := by decide +kernel
theorem d_Outline_findMember_24 : decode b_Outline_findMember 24 = .ok (.aload_n 0, 1) := by decide +kernel
theorem d_Outline_findMember_25 : decode b_Outline_findMember 25 = .ok (.aload_n 0, 1) := by decide +kernel
theorem d_Outline_findMember_26 : decode b_Outline_findMember 26 = .ok (.getfield 26, 3) := by decide +kernel
theorem d_Outline_findMember_29 : decode b_Outline_findMember 29 = .ok (.iload 4, 2) := by decide +kernel
theorem d_Outline_findMember_31 : decode b_Outline_findMember 31 = .ok (.iaload, 1) := by decide +kernel
theorem d_Outline_findMember_32 : decode b_Outline_findMember 32 = .ok (.aload_n 0, 1) := by decide +kernel
theorem d_Outline_findMember_33 : decode b_Outline_findMember 33 = .ok (.getfield 26, 3) := by decide +kernel
theorem d_Outline_findMember_36 : decode b_Outline_findMember 36 = .ok (.iload 4, 2) := by decide +kernel
theorem d_Outline_findMember_38 : decode b_Outline_findMember 38 = .ok (.iconst 1, 1) := by decide +kernel
theorem d_Outline_findMember_39 : decode b_Outline_findMember 39 = .ok (.iadd, 1) := by decide +kernel
theorem d_Outline_findMember_40 : decode b_Outline_findMember 40 = .ok (.iaload, 1) := by decide +kernel
theorem d_Outline_findMember_41 : decode b_Outline_findMember 41 = .ok (.lload_n 2, 1) := by decide +kernel
theorem d_Outline_findMember_42 : decode b_Outline_findMember 42 = .ok (.bipush 12, 2) := by decide +kernel
theorem d_Outline_findMember_44 : decode b_Outline_findMember 44 = .ok (.invokevirtual 68, 3) := by decide +kernel
theorem d_Outline_findMember_47 : decode b_Outline_findMember 47 = .ok (.istore 6, 2) := by decide +kernel
theorem d_Outline_findMember_49 : decode b_Outline_findMember 49 = .ok (.iload 6, 2) := by decide +kernel
theorem d_Outline_findMember_51 : decode b_Outline_findMember 51 = .ok (.iconst (-1), 1) := by decide +kernel
theorem d_Outline_findMember_52 : decode b_Outline_findMember 52 = .ok (.if_icmp .eq 6, 3) := by decide +kernel
theorem d_Outline_findMember_55 : decode b_Outline_findMember 55 = .ok (.iload 6, 2) := by decide +kernel
theorem d_Outline_findMember_57 : decode b_Outline_findMember 57 = .ok (.ireturn, 1) := by decide +kernel
theorem d_Outline_findMember_58 : decode b_Outline_findMember 58 = .ok (.aload_n 0, 1) := by decide +kernel
theorem d_Outline_findMember_59 : decode b_Outline_findMember 59 = .ok (.getfield 29, 3) := by decide +kernel
theorem d_Outline_findMember_62 : decode b_Outline_findMember 62 = .ok (.iload 4, 2) := by decide +kernel
theorem d_Outline_findMember_64 : decode b_Outline_findMember 64 = .ok (.iaload, 1) := by decide +kernel
theorem d_Outline_findMember_65 : decode b_Outline_findMember 65 = .ok (.istore 4, 2) := by decide +kernel
theorem d_Outline_findMember_67 : decode b_Outline_findMember 67 = .ok (.iinc 5 1, 3) := by decide +kernel
theorem d_Outline_findMember_70 : decode b_Outline_findMember 70 = .ok (.goto (-64), 3) := by decide +kernel
theorem d_Outline_findMember_73 : decode b_Outline_findMember 73 = .ok (.iconst (-1), 1) := by decide +kernel
theorem d_Outline_findMember_74 : decode b_Outline_findMember 74 = .ok (.ireturn, 1) := by decide +kernel
abbrev y_Outline_list : MethodName := ⟨"LanguageServer$Outline", "list", "(II)V"⟩
abbrev b_Outline_list : ByteArray := prog_5_method_10_code
theorem d_Outline_list_0 : decode b_Outline_list 0 = .ok (.iload_n 2, 1) := by decide +kernel
theorem d_Outline_list_1 : decode b_Outline_list 1 = .ok (.aload_n 0, 1) := by decide +kernel
theorem d_Outline_list_2 : decode b_Outline_list 2 = .ok (.getfield 32, 3) := by decide +kernel
theorem d_Outline_list_5 : decode b_Outline_list 5 = .ok (.arraylength, 1) := by decide +kernel
theorem d_Outline_list_6 : decode b_Outline_list 6 = .ok (.iconst 1, 1) := by decide +kernel
theorem d_Outline_list_7 : decode b_Outline_list 7 = .ok (.isub, 1) := by decide +kernel
theorem d_Outline_list_8 : decode b_Outline_list 8 = .ok (.invokestatic 80, 3) := by decide +kernel
theorem d_Outline_list_11 : decode b_Outline_list 11 = .ok (.istore_n 3, 1) := by decide +kernel
theorem d_Outline_list_12 : decode b_Outline_list 12 = .ok (.iload_n 3, 1) := by decide +kernel
theorem d_Outline_list_13 : decode b_Outline_list 13 = .ok (.ifCond .le 52, 3) := by decide +kernel
theorem d_Outline_list_16 : decode b_Outline_list 16 = .ok (.aload_n 0, 1) := by decide +kernel
theorem d_Outline_list_17 : decode b_Outline_list 17 = .ok (.getfield 35, 3) := by decide +kernel
theorem d_Outline_list_20 : decode b_Outline_list 20 = .ok (.getfield 60, 3) := by decide +kernel
theorem d_Outline_list_23 : decode b_Outline_list 23 = .ok (.aload_n 0, 1) := by decide +kernel
theorem d_Outline_list_24 : decode b_Outline_list 24 = .ok (.getfield 32, 3) := by decide +kernel
theorem d_Outline_list_27 : decode b_Outline_list 27 = .ok (.iload_n 3, 1) := by decide +kernel
theorem d_Outline_list_28 : decode b_Outline_list 28 = .ok (.iconst 1, 1) := by decide +kernel
theorem d_Outline_list_29 : decode b_Outline_list 29 = .ok (.isub, 1) := by decide +kernel
theorem d_Outline_list_30 : decode b_Outline_list 30 = .ok (.iaload, 1) := by decide +kernel
theorem d_Outline_list_31 : decode b_Outline_list 31 = .ok (.laload, 1) := by decide +kernel
theorem d_Outline_list_32 : decode b_Outline_list 32 = .ok (.aload_n 0, 1) := by decide +kernel
theorem d_Outline_list_33 : decode b_Outline_list 33 = .ok (.getfield 35, 3) := by decide +kernel
theorem d_Outline_list_36 : decode b_Outline_list 36 = .ok (.getfield 60, 3) := by decide +kernel
theorem d_Outline_list_39 : decode b_Outline_list 39 = .ok (.iload_n 1, 1) := by decide +kernel
theorem d_Outline_list_40 : decode b_Outline_list 40 = .ok (.laload, 1) := by decide +kernel
theorem d_Outline_list_41 : decode b_Outline_list 41 = .ok (.lcmp, 1) := by decide +kernel
theorem d_Outline_list_42 : decode b_Outline_list 42 = .ok (.ifCond .le 23, 3) := by decide +kernel
theorem d_Outline_list_45 : decode b_Outline_list 45 = .ok (.aload_n 0, 1) := by decide +kernel
theorem d_Outline_list_46 : decode b_Outline_list 46 = .ok (.getfield 32, 3) := by decide +kernel
theorem d_Outline_list_49 : decode b_Outline_list 49 = .ok (.iload_n 3, 1) := by decide +kernel
theorem d_Outline_list_50 : decode b_Outline_list 50 = .ok (.aload_n 0, 1) := by decide +kernel
theorem d_Outline_list_51 : decode b_Outline_list 51 = .ok (.getfield 32, 3) := by decide +kernel
theorem d_Outline_list_54 : decode b_Outline_list 54 = .ok (.iload_n 3, 1) := by decide +kernel
theorem d_Outline_list_55 : decode b_Outline_list 55 = .ok (.iconst 1, 1) := by decide +kernel
theorem d_Outline_list_56 : decode b_Outline_list 56 = .ok (.isub, 1) := by decide +kernel
theorem d_Outline_list_57 : decode b_Outline_list 57 = .ok (.iaload, 1) := by decide +kernel
theorem d_Outline_list_58 : decode b_Outline_list 58 = .ok (.iastore, 1) := by decide +kernel
theorem d_Outline_list_59 : decode b_Outline_list 59 = .ok (.iinc 3 (-1), 3) := by decide +kernel
theorem d_Outline_list_62 : decode b_Outline_list 62 = .ok (.goto (-50), 3) := by decide +kernel
theorem d_Outline_list_65 : decode b_Outline_list 65 = .ok (.aload_n 0, 1) := by decide +kernel
theorem d_Outline_list_66 : decode b_Outline_list 66 = .ok (.getfield 32, 3) := by decide +kernel
theorem d_Outline_list_69 : decode b_Outline_list 69 = .ok (.iload_n 3, 1) := by decide +kernel
theorem d_Outline_list_70 : decode b_Outline_list 70 = .ok (.iload_n 1, 1) := by decide +kernel
theorem d_Outline_list_71 : decode b_Outline_list 71 = .ok (.iastore, 1) := by decide +kernel
theorem d_Outline_list_72 : decode b_Outline_list 72 = .ok (.return_, 1) := by decide +kernel
abbrev y_Outline_listMembers : MethodName := ⟨"LanguageServer$Outline", "listMembers", "(I)I"⟩
abbrev b_Outline_listMembers : ByteArray := prog_5_method_9_code
theorem d_Outline_listMembers_0 : decode b_Outline_listMembers 0 = .ok (.iconst 0, 1) := by decide +kernel
theorem d_Outline_listMembers_1 : decode b_Outline_listMembers 1 = .ok (.istore_n 2, 1) := by decide +kernel
theorem d_Outline_listMembers_2 : decode b_Outline_listMembers 2 = .ok (.iload_n 1, 1) := by decide +kernel
theorem d_Outline_listMembers_3 : decode b_Outline_listMembers 3 = .ok (.istore_n 3, 1) := by decide +kernel
theorem d_Outline_listMembers_4 : decode b_Outline_listMembers 4 = .ok (.iconst 0, 1) := by decide +kernel
theorem d_Outline_listMembers_5 : decode b_Outline_listMembers 5 = .ok (.istore 4, 2) := by decide +kernel
theorem d_Outline_listMembers_7 : decode b_Outline_listMembers 7 = .ok (.iload 4, 2) := by decide +kernel
theorem d_Outline_listMembers_9 : decode b_Outline_listMembers 9 = .ok (.aload_n 0, 1) := by decide +kernel
theorem d_Outline_listMembers_10 : decode b_Outline_listMembers 10 = .ok (.getfield 51, 3) := by decide +kernel
theorem d_Outline_listMembers_13 : decode b_Outline_listMembers 13 = .ok (.if_icmp .ge 118, 3) := by decide +kernel
theorem d_Outline_listMembers_16 : decode b_Outline_listMembers 16 = .ok (.aload_n 0, 1) := by decide +kernel
theorem d_Outline_listMembers_17 : decode b_Outline_listMembers 17 = .ok (.iload_n 3, 1) := by decide +kernel
theorem d_Outline_listMembers_18 : decode b_Outline_listMembers 18 = .ok (.invokevirtual 64, 3) := by decide +kernel
theorem d_Outline_listMembers_21 : decode b_Outline_listMembers 21 = .ok (.ifCond .eq 110, 3) := by decide +kernel
theorem d_Outline_listMembers_24 : decode b_Outline_listMembers 24 = .ok (.aload_n 0, 1) := by decide +kernel
theorem d_Outline_listMembers_25 : decode b_Outline_listMembers 25 = .ok (.getfield 26, 3) := by decide +kernel
theorem d_Outline_listMembers_28 : decode b_Outline_listMembers 28 = .ok (.iload_n 3, 1) := by decide +kernel
theorem d_Outline_listMembers_29 : decode b_Outline_listMembers 29 = .ok (.iaload, 1) := by decide +kernel
theorem d_Outline_listMembers_30 : decode b_Outline_listMembers 30 = .ok (.istore 5, 2) := by decide +kernel
theorem d_Outline_listMembers_32 : decode b_Outline_listMembers 32 = .ok (.iload 5, 2) := by decide +kernel
theorem d_Outline_listMembers_34 : decode b_Outline_listMembers 34 = .ok (.aload_n 0, 1) := by decide +kernel
theorem d_Outline_listMembers_35 : decode b_Outline_listMembers 35 = .ok (.getfield 26, 3) := by decide +kernel
theorem d_Outline_listMembers_38 : decode b_Outline_listMembers 38 = .ok (.iload_n 3, 1) := by decide +kernel
theorem d_Outline_listMembers_39 : decode b_Outline_listMembers 39 = .ok (.iconst 1, 1) := by decide +kernel
theorem d_Outline_listMembers_40 : decode b_Outline_listMembers 40 = .ok (.iadd, 1) := by decide +kernel
theorem d_Outline_listMembers_41 : decode b_Outline_listMembers 41 = .ok (.iaload, 1) := by decide +kernel
theorem d_Outline_listMembers_42 : decode b_Outline_listMembers 42 = .ok (.if_icmp .ge 76, 3) := by decide +kernel
theorem d_Outline_listMembers_45 : decode b_Outline_listMembers 45 = .ok (.iload 5, 2) := by decide +kernel
theorem d_Outline_listMembers_47 : decode b_Outline_listMembers 47 = .ok (.aload_n 0, 1) := by decide +kernel
theorem d_Outline_listMembers_48 : decode b_Outline_listMembers 48 = .ok (.getfield 47, 3) := by decide +kernel
theorem d_Outline_listMembers_51 : decode b_Outline_listMembers 51 = .ok (.if_icmp .ge 67, 3) := by decide +kernel
theorem d_Outline_listMembers_54 : decode b_Outline_listMembers 54 = .ok (.bipush 12, 2) := by decide +kernel
theorem d_Outline_listMembers_56 : decode b_Outline_listMembers 56 = .ok (.aload_n 0, 1) := by decide +kernel
theorem d_Outline_listMembers_57 : decode b_Outline_listMembers 57 = .ok (.getfield 11, 3) := by decide +kernel
theorem d_Outline_listMembers_60 : decode b_Outline_listMembers 60 = .ok (.iload 5, 2) := by decide +kernel
theorem d_Outline_listMembers_62 : decode b_Outline_listMembers 62 = .ok (.iaload, 1) := by decide +kernel
theorem d_Outline_listMembers_63 : decode b_Outline_listMembers 63 = .ok (.ishr, 1) := by decide +kernel
theorem d_Outline_listMembers_64 : decode b_Outline_listMembers 64 = .ok (.iconst 1, 1) := by decide +kernel
theorem d_Outline_listMembers_65 : decode b_Outline_listMembers 65 = .ok (.iand, 1) := by decide +kernel
theorem d_Outline_listMembers_66 : decode b_Outline_listMembers 66 = .ok (.iconst 1, 1) := by decide +kernel
theorem d_Outline_listMembers_67 : decode b_Outline_listMembers 67 = .ok (.if_icmp .ne 7, 3) := by decide +kernel
theorem d_Outline_listMembers_70 : decode b_Outline_listMembers 70 = .ok (.iconst 1, 1) := by decide +kernel
theorem d_Outline_listMembers_71 : decode b_Outline_listMembers 71 = .ok (.goto 4, 3) := by decide +kernel
theorem d_Outline_listMembers_74 : decode b_Outline_listMembers 74 = .ok (.iconst 0, 1) := by decide +kernel
theorem d_Outline_listMembers_75 : decode b_Outline_listMembers 75 = .ok (.istore 6, 2) := by decide +kernel
theorem d_Outline_listMembers_77 : decode b_Outline_listMembers 77 = .ok (.iload 6, 2) := by decide +kernel
theorem d_Outline_listMembers_79 : decode b_Outline_listMembers 79 = .ok (.ifCond .eq 33, 3) := by decide +kernel
theorem d_Outline_listMembers_82 : decode b_Outline_listMembers 82 = .ok (.aload_n 0, 1) := by decide +kernel
theorem d_Outline_listMembers_83 : decode b_Outline_listMembers 83 = .ok (.iload_n 1, 1) := by decide +kernel
theorem d_Outline_listMembers_84 : decode b_Outline_listMembers 84 = .ok (.aload_n 0, 1) := by decide +kernel
theorem d_Outline_listMembers_85 : decode b_Outline_listMembers 85 = .ok (.getfield 35, 3) := by decide +kernel
theorem d_Outline_listMembers_88 : decode b_Outline_listMembers 88 = .ok (.getfield 60, 3) := by decide +kernel
theorem d_Outline_listMembers_91 : decode b_Outline_listMembers 91 = .ok (.iload 5, 2) := by decide +kernel
theorem d_Outline_listMembers_93 : decode b_Outline_listMembers 93 = .ok (.laload, 1) := by decide +kernel
theorem d_Outline_listMembers_94 : decode b_Outline_listMembers 94 = .ok (.invokevirtual 72, 3) := by decide +kernel
theorem d_Outline_listMembers_97 : decode b_Outline_listMembers 97 = .ok (.iload 5, 2) := by decide +kernel
theorem d_Outline_listMembers_99 : decode b_Outline_listMembers 99 = .ok (.if_icmp .ne 13, 3) := by decide +kernel
theorem d_Outline_listMembers_102 : decode b_Outline_listMembers 102 = .ok (.aload_n 0, 1) := by decide +kernel
theorem d_Outline_listMembers_103 : decode b_Outline_listMembers 103 = .ok (.iload 5, 2) := by decide +kernel
theorem d_Outline_listMembers_105 : decode b_Outline_listMembers 105 = .ok (.iload_n 2, 1) := by decide +kernel
theorem d_Outline_listMembers_106 : decode b_Outline_listMembers 106 = .ok (.invokevirtual 76, 3) := by decide +kernel
theorem d_Outline_listMembers_109 : decode b_Outline_listMembers 109 = .ok (.iinc 2 1, 3) := by decide +kernel
theorem d_Outline_listMembers_112 : decode b_Outline_listMembers 112 = .ok (.iinc 5 1, 3) := by decide +kernel
theorem d_Outline_listMembers_115 : decode b_Outline_listMembers 115 = .ok (.goto (-83), 3) := by decide +kernel
theorem d_Outline_listMembers_118 : decode b_Outline_listMembers 118 = .ok (.aload_n 0, 1) := by decide +kernel
theorem d_Outline_listMembers_119 : decode b_Outline_listMembers 119 = .ok (.getfield 29, 3) := by decide +kernel
theorem d_Outline_listMembers_122 : decode b_Outline_listMembers 122 = .ok (.iload_n 3, 1) := by decide +kernel
theorem d_Outline_listMembers_123 : decode b_Outline_listMembers 123 = .ok (.iaload, 1) := by decide +kernel
theorem d_Outline_listMembers_124 : decode b_Outline_listMembers 124 = .ok (.istore_n 3, 1) := by decide +kernel
theorem d_Outline_listMembers_125 : decode b_Outline_listMembers 125 = .ok (.iinc 4 1, 3) := by decide +kernel
theorem d_Outline_listMembers_128 : decode b_Outline_listMembers 128 = .ok (.goto (-121), 3) := by decide +kernel
theorem d_Outline_listMembers_131 : decode b_Outline_listMembers 131 = .ok (.iload_n 2, 1) := by decide +kernel
theorem d_Outline_listMembers_132 : decode b_Outline_listMembers 132 = .ok (.ireturn, 1) := by decide +kernel
abbrev y_Outline_typeNamed : MethodName := ⟨"LanguageServer$Outline", "typeNamed", "(I)I"⟩
abbrev b_Outline_typeNamed : ByteArray := prog_5_method_11_code
theorem d_Outline_typeNamed_0 : decode b_Outline_typeNamed 0 = .ok (.aload_n 0, 1) := by decide +kernel
theorem d_Outline_typeNamed_1 : decode b_Outline_typeNamed 1 = .ok (.getfield 20, 3) := by decide +kernel
theorem d_Outline_typeNamed_4 : decode b_Outline_typeNamed 4 = .ok (.iload_n 1, 1) := by decide +kernel
theorem d_Outline_typeNamed_5 : decode b_Outline_typeNamed 5 = .ok (.iaload, 1) := by decide +kernel
theorem d_Outline_typeNamed_6 : decode b_Outline_typeNamed 6 = .ok (.iconst (-1), 1) := by decide +kernel
theorem d_Outline_typeNamed_7 : decode b_Outline_typeNamed 7 = .ok (.if_icmp .ne 8, 3) := by decide +kernel
theorem d_Outline_typeNamed_10 : decode b_Outline_typeNamed 10 = .ok (.bipush (-2), 2) := by decide +kernel
theorem d_Outline_typeNamed_12 : decode b_Outline_typeNamed 12 = .ok (.goto 14, 3) := by decide +kernel
theorem d_Outline_typeNamed_15 : decode b_Outline_typeNamed 15 = .ok (.aload_n 0, 1) := by decide +kernel
theorem d_Outline_typeNamed_16 : decode b_Outline_typeNamed 16 = .ok (.getfield 23, 3) := by decide +kernel
theorem d_Outline_typeNamed_19 : decode b_Outline_typeNamed 19 = .ok (.aload_n 0, 1) := by decide +kernel
theorem d_Outline_typeNamed_20 : decode b_Outline_typeNamed 20 = .ok (.getfield 20, 3) := by decide +kernel
theorem d_Outline_typeNamed_23 : decode b_Outline_typeNamed 23 = .ok (.iload_n 1, 1) := by decide +kernel
theorem d_Outline_typeNamed_24 : decode b_Outline_typeNamed 24 = .ok (.iaload, 1) := by decide +kernel
theorem d_Outline_typeNamed_25 : decode b_Outline_typeNamed 25 = .ok (.iaload, 1) := by decide +kernel
theorem d_Outline_typeNamed_26 : decode b_Outline_typeNamed 26 = .ok (.ireturn, 1) := by decide +kernel
abbrev y_Outline_parameterType : MethodName := ⟨"LanguageServer$Outline", "parameterType", "(II)I"⟩
abbrev b_Outline_parameterType : ByteArray := prog_5_method_12_code
theorem d_Outline_parameterType_0 : decode b_Outline_parameterType 0 = .ok (.iload_n 1, 1) := by decide +kernel
theorem d_Outline_parameterType_1 : decode b_Outline_parameterType 1 = .ok (.iconst 3, 1) := by decide +kernel
theorem d_Outline_parameterType_2 : decode b_Outline_parameterType 2 = .ok (.iadd, 1) := by decide +kernel
theorem d_Outline_parameterType_3 : decode b_Outline_parameterType 3 = .ok (.iconst 3, 1) := by decide +kernel
theorem d_Outline_parameterType_4 : decode b_Outline_parameterType 4 = .ok (.iload_n 2, 1) := by decide +kernel
theorem d_Outline_parameterType_5 : decode b_Outline_parameterType 5 = .ok (.imul, 1) := by decide +kernel
theorem d_Outline_parameterType_6 : decode b_Outline_parameterType 6 = .ok (.iadd, 1) := by decide +kernel
theorem d_Outline_parameterType_7 : decode b_Outline_parameterType 7 = .ok (.istore_n 3, 1) := by decide +kernel
theorem d_Outline_parameterType_8 : decode b_Outline_parameterType 8 = .ok (.iload_n 3, 1) := by decide +kernel
theorem d_Outline_parameterType_9 : decode b_Outline_parameterType 9 = .ok (.ifCond .lt 20, 3) := by decide +kernel
theorem d_Outline_parameterType_12 : decode b_Outline_parameterType 12 = .ok (.iload_n 3, 1) := by decide +kernel
theorem d_Outline_parameterType_13 : decode b_Outline_parameterType 13 = .ok (.aload_n 0, 1) := by decide +kernel
theorem d_Outline_parameterType_14 : decode b_Outline_parameterType 14 = .ok (.getfield 47, 3) := by decide +kernel
theorem d_Outline_parameterType_17 : decode b_Outline_parameterType 17 = .ok (.if_icmp .ge 12, 3) := by decide +kernel
theorem d_Outline_parameterType_20 : decode b_Outline_parameterType 20 = .ok (.aload_n 0, 1) := by decide +kernel
theorem d_Outline_parameterType_21 : decode b_Outline_parameterType 21 = .ok (.getfield 23, 3) := by decide +kernel
theorem d_Outline_parameterType_24 : decode b_Outline_parameterType 24 = .ok (.iload_n 3, 1) := by decide +kernel
theorem d_Outline_parameterType_25 : decode b_Outline_parameterType 25 = .ok (.iaload, 1) := by decide +kernel
theorem d_Outline_parameterType_26 : decode b_Outline_parameterType 26 = .ok (.goto 5, 3) := by decide +kernel
theorem d_Outline_parameterType_29 : decode b_Outline_parameterType 29 = .ok (.bipush (-2), 2) := by decide +kernel
theorem d_Outline_parameterType_31 : decode b_Outline_parameterType 31 = .ok (.ireturn, 1) := by decide +kernel
abbrev y_Outline_isRight : MethodName := ⟨"LanguageServer$Outline", "isRight", "(II)Z"⟩
abbrev b_Outline_isRight : ByteArray := prog_5_method_13_code
theorem d_Outline_isRight_0 : decode b_Outline_isRight 0 = .ok (.iload_n 1, 1) := by decide +kernel
theorem d_Outline_isRight_1 : decode b_Outline_isRight 1 = .ok (.bipush (-2), 2) := by decide +kernel
theorem d_Outline_isRight_3 : decode b_Outline_isRight 3 = .ok (.if_icmp .eq 14, 3) := by decide +kernel
theorem d_Outline_isRight_6 : decode b_Outline_isRight 6 = .ok (.iload_n 2, 1) := by decide +kernel
theorem d_Outline_isRight_7 : decode b_Outline_isRight 7 = .ok (.bipush (-2), 2) := by decide +kernel
theorem d_Outline_isRight_9 : decode b_Outline_isRight 9 = .ok (.if_icmp .eq 8, 3) := by decide +kernel
theorem d_Outline_isRight_12 : decode b_Outline_isRight 12 = .ok (.iload_n 1, 1) := by decide +kernel
theorem d_Outline_isRight_13 : decode b_Outline_isRight 13 = .ok (.iload_n 2, 1) := by decide +kernel
theorem d_Outline_isRight_14 : decode b_Outline_isRight 14 = .ok (.if_icmp .ne 5, 3) := by decide +kernel
theorem d_Outline_isRight_17 : decode b_Outline_isRight 17 = .ok (.iconst 1, 1) := by decide +kernel
theorem d_Outline_isRight_18 : decode b_Outline_isRight 18 = .ok (.ireturn, 1) := by decide +kernel
theorem d_Outline_isRight_19 : decode b_Outline_isRight 19 = .ok (.iload_n 1, 1) := by decide +kernel
theorem d_Outline_isRight_20 : decode b_Outline_isRight 20 = .ok (.istore_n 3, 1) := by decide +kernel
theorem d_Outline_isRight_21 : decode b_Outline_isRight 21 = .ok (.iconst 0, 1) := by decide +kernel
theorem d_Outline_isRight_22 : decode b_Outline_isRight 22 = .ok (.istore 4, 2) := by decide +kernel
theorem d_Outline_isRight_24 : decode b_Outline_isRight 24 = .ok (.iload 4, 2) := by decide +kernel
theorem d_Outline_isRight_26 : decode b_Outline_isRight 26 = .ok (.aload_n 0, 1) := by decide +kernel
theorem d_Outline_isRight_27 : decode b_Outline_isRight 27 = .ok (.getfield 51, 3) := by decide +kernel
theorem d_Outline_isRight_30 : decode b_Outline_isRight 30 = .ok (.if_icmp .ge 35, 3) := by decide +kernel
theorem d_Outline_isRight_33 : decode b_Outline_isRight 33 = .ok (.iload_n 3, 1) := by decide +kernel
theorem d_Outline_isRight_34 : decode b_Outline_isRight 34 = .ok (.ifCond .lt 31, 3) := by decide +kernel
theorem d_Outline_isRight_37 : decode b_Outline_isRight 37 = .ok (.iload_n 3, 1) := by decide +kernel
theorem d_Outline_isRight_38 : decode b_Outline_isRight 38 = .ok (.aload_n 0, 1) := by decide +kernel
theorem d_Outline_isRight_39 : decode b_Outline_isRight 39 = .ok (.getfield 51, 3) := by decide +kernel
theorem d_Outline_isRight_42 : decode b_Outline_isRight 42 = .ok (.if_icmp .ge 23, 3) := by decide +kernel
theorem d_Outline_isRight_45 : decode b_Outline_isRight 45 = .ok (.iload_n 3, 1) := by decide +kernel
theorem d_Outline_isRight_46 : decode b_Outline_isRight 46 = .ok (.iload_n 2, 1) := by decide +kernel
theorem d_Outline_isRight_47 : decode b_Outline_isRight 47 = .ok (.if_icmp .ne 5, 3) := by decide +kernel
theorem d_Outline_isRight_50 : decode b_Outline_isRight 50 = .ok (.iconst 1, 1) := by decide +kernel
theorem d_Outline_isRight_51 : decode b_Outline_isRight 51 = .ok (.ireturn, 1) := by decide +kernel
theorem d_Outline_isRight_52 : decode b_Outline_isRight 52 = .ok (.aload_n 0, 1) := by decide +kernel
theorem d_Outline_isRight_53 : decode b_Outline_isRight 53 = .ok (.getfield 29, 3) := by decide +kernel
theorem d_Outline_isRight_56 : decode b_Outline_isRight 56 = .ok (.iload_n 3, 1) := by decide +kernel
theorem d_Outline_isRight_57 : decode b_Outline_isRight 57 = .ok (.iaload, 1) := by decide +kernel
theorem d_Outline_isRight_58 : decode b_Outline_isRight 58 = .ok (.istore_n 3, 1) := by decide +kernel
theorem d_Outline_isRight_59 : decode b_Outline_isRight 59 = .ok (.iinc 4 1, 3) := by decide +kernel
theorem d_Outline_isRight_62 : decode b_Outline_isRight 62 = .ok (.goto (-38), 3) := by decide +kernel
theorem d_Outline_isRight_65 : decode b_Outline_isRight 65 = .ok (.iconst 0, 1) := by decide +kernel
theorem d_Outline_isRight_66 : decode b_Outline_isRight 66 = .ok (.ireturn, 1) := by decide +kernel
