abbrev y_Mo_judgeClass : MethodName := ⟨"LanguageServerModel", "judgeClass", "(I)V"⟩
abbrev b_Mo_judgeClass : ByteArray := prog_13_method_38_code
theorem d_Mo_judgeClass_0 : decode b_Mo_judgeClass 0 = .ok (.aload_n 0, 1) := by decide +kernel
theorem d_Mo_judgeClass_1 : decode b_Mo_judgeClass 1 = .ok (.getfield 32, 3) := by decide +kernel
theorem d_Mo_judgeClass_4 : decode b_Mo_judgeClass 4 = .ok (.iload_n 1, 1) := by decide +kernel
theorem d_Mo_judgeClass_5 : decode b_Mo_judgeClass 5 = .ok (.iaload, 1) := by decide +kernel
theorem d_Mo_judgeClass_6 : decode b_Mo_judgeClass 6 = .ok (.istore_n 2, 1) := by decide +kernel
theorem d_Mo_judgeClass_7 : decode b_Mo_judgeClass 7 = .ok (.aload_n 0, 1) := by decide +kernel
theorem d_Mo_judgeClass_8 : decode b_Mo_judgeClass 8 = .ok (.getfield 29, 3) := by decide +kernel
theorem d_Mo_judgeClass_11 : decode b_Mo_judgeClass 11 = .ok (.iload_n 1, 1) := by decide +kernel
theorem d_Mo_judgeClass_12 : decode b_Mo_judgeClass 12 = .ok (.iaload, 1) := by decide +kernel
theorem d_Mo_judgeClass_13 : decode b_Mo_judgeClass 13 = .ok (.iconst 1, 1) := by decide +kernel
theorem d_Mo_judgeClass_14 : decode b_Mo_judgeClass 14 = .ok (.if_icmp .ne 29, 3) := by decide +kernel
theorem d_Mo_judgeClass_17 : decode b_Mo_judgeClass 17 = .ok (.aload_n 0, 1) := by decide +kernel
theorem d_Mo_judgeClass_18 : decode b_Mo_judgeClass 18 = .ok (.iload_n 1, 1) := by decide +kernel
theorem d_Mo_judgeClass_19 : decode b_Mo_judgeClass 19 = .ok (.invokevirtual 186, 3) := by decide +kernel
theorem d_Mo_judgeClass_22 : decode b_Mo_judgeClass 22 = .ok (.iload_n 2, 1) := by decide +kernel
theorem d_Mo_judgeClass_23 : decode b_Mo_judgeClass 23 = .ok (.if_icmp .eq 12, 3) := by decide +kernel
theorem d_Mo_judgeClass_26 : decode b_Mo_judgeClass 26 = .ok (.aload_n 0, 1) := by decide +kernel
theorem d_Mo_judgeClass_27 : decode b_Mo_judgeClass 27 = .ok (.iload_n 1, 1) := by decide +kernel
theorem d_Mo_judgeClass_28 : decode b_Mo_judgeClass 28 = .ok (.iconst 1, 1) := by decide +kernel
theorem d_Mo_judgeClass_29 : decode b_Mo_judgeClass 29 = .ok (.invokevirtual 201, 3) := by decide +kernel
theorem d_Mo_judgeClass_32 : decode b_Mo_judgeClass 32 = .ok (.goto 10, 3) := by decide +kernel
theorem d_Mo_judgeClass_35 : decode b_Mo_judgeClass 35 = .ok (.aload_n 0, 1) := by decide +kernel
theorem d_Mo_judgeClass_36 : decode b_Mo_judgeClass 36 = .ok (.getfield 50, 3) := by decide +kernel
theorem d_Mo_judgeClass_39 : decode b_Mo_judgeClass 39 = .ok (.iload_n 1, 1) := by decide +kernel
theorem d_Mo_judgeClass_40 : decode b_Mo_judgeClass 40 = .ok (.iload_n 1, 1) := by decide +kernel
theorem d_Mo_judgeClass_41 : decode b_Mo_judgeClass 41 = .ok (.iastore, 1) := by decide +kernel
theorem d_Mo_judgeClass_42 : decode b_Mo_judgeClass 42 = .ok (.return_, 1) := by decide +kernel
theorem d_Mo_judgeClass_43 : decode b_Mo_judgeClass 43 = .ok (.aload_n 0, 1) := by decide +kernel
theorem d_Mo_judgeClass_44 : decode b_Mo_judgeClass 44 = .ok (.iload_n 1, 1) := by decide +kernel
theorem d_Mo_judgeClass_45 : decode b_Mo_judgeClass 45 = .ok (.invokevirtual 186, 3) := by decide +kernel
theorem d_Mo_judgeClass_48 : decode b_Mo_judgeClass 48 = .ok (.istore_n 3, 1) := by decide +kernel
theorem d_Mo_judgeClass_49 : decode b_Mo_judgeClass 49 = .ok (.iload_n 3, 1) := by decide +kernel
theorem d_Mo_judgeClass_50 : decode b_Mo_judgeClass 50 = .ok (.bipush (-2), 2) := by decide +kernel
theorem d_Mo_judgeClass_52 : decode b_Mo_judgeClass 52 = .ok (.if_icmp .ne 12, 3) := by decide +kernel
theorem d_Mo_judgeClass_55 : decode b_Mo_judgeClass 55 = .ok (.aload_n 0, 1) := by decide +kernel
theorem d_Mo_judgeClass_56 : decode b_Mo_judgeClass 56 = .ok (.iload_n 1, 1) := by decide +kernel
theorem d_Mo_judgeClass_57 : decode b_Mo_judgeClass 57 = .ok (.iconst 2, 1) := by decide +kernel
theorem d_Mo_judgeClass_58 : decode b_Mo_judgeClass 58 = .ok (.invokevirtual 201, 3) := by decide +kernel
theorem d_Mo_judgeClass_61 : decode b_Mo_judgeClass 61 = .ok (.goto 42, 3) := by decide +kernel
theorem d_Mo_judgeClass_64 : decode b_Mo_judgeClass 64 = .ok (.aload_n 0, 1) := by decide +kernel
theorem d_Mo_judgeClass_65 : decode b_Mo_judgeClass 65 = .ok (.getfield 29, 3) := by decide +kernel
theorem d_Mo_judgeClass_68 : decode b_Mo_judgeClass 68 = .ok (.iload_n 1, 1) := by decide +kernel
theorem d_Mo_judgeClass_69 : decode b_Mo_judgeClass 69 = .ok (.iaload, 1) := by decide +kernel
theorem d_Mo_judgeClass_70 : decode b_Mo_judgeClass 70 = .ok (.iconst 3, 1) := by decide +kernel
theorem d_Mo_judgeClass_71 : decode b_Mo_judgeClass 71 = .ok (.if_icmp .ne 20, 3) := by decide +kernel
theorem d_Mo_judgeClass_74 : decode b_Mo_judgeClass 74 = .ok (.aload_n 0, 1) := by decide +kernel
theorem d_Mo_judgeClass_75 : decode b_Mo_judgeClass 75 = .ok (.iload_n 2, 1) := by decide +kernel
theorem d_Mo_judgeClass_76 : decode b_Mo_judgeClass 76 = .ok (.invokevirtual 192, 3) := by decide +kernel
theorem d_Mo_judgeClass_79 : decode b_Mo_judgeClass 79 = .ok (.ifCond .eq 12, 3) := by decide +kernel
theorem d_Mo_judgeClass_82 : decode b_Mo_judgeClass 82 = .ok (.aload_n 0, 1) := by decide +kernel
theorem d_Mo_judgeClass_83 : decode b_Mo_judgeClass 83 = .ok (.iload_n 1, 1) := by decide +kernel
theorem d_Mo_judgeClass_84 : decode b_Mo_judgeClass 84 = .ok (.iconst 3, 1) := by decide +kernel
theorem d_Mo_judgeClass_85 : decode b_Mo_judgeClass 85 = .ok (.invokevirtual 201, 3) := by decide +kernel
theorem d_Mo_judgeClass_88 : decode b_Mo_judgeClass 88 = .ok (.goto 15, 3) := by decide +kernel
theorem d_Mo_judgeClass_91 : decode b_Mo_judgeClass 91 = .ok (.aload_n 0, 1) := by decide +kernel
theorem d_Mo_judgeClass_92 : decode b_Mo_judgeClass 92 = .ok (.getfield 50, 3) := by decide +kernel
theorem d_Mo_judgeClass_95 : decode b_Mo_judgeClass 95 = .ok (.iload_n 1, 1) := by decide +kernel
theorem d_Mo_judgeClass_96 : decode b_Mo_judgeClass 96 = .ok (.aload_n 0, 1) := by decide +kernel
theorem d_Mo_judgeClass_97 : decode b_Mo_judgeClass 97 = .ok (.getfield 41, 3) := by decide +kernel
theorem d_Mo_judgeClass_100 : decode b_Mo_judgeClass 100 = .ok (.iload_n 3, 1) := by decide +kernel
theorem d_Mo_judgeClass_101 : decode b_Mo_judgeClass 101 = .ok (.iaload, 1) := by decide +kernel
theorem d_Mo_judgeClass_102 : decode b_Mo_judgeClass 102 = .ok (.iastore, 1) := by decide +kernel
theorem d_Mo_judgeClass_103 : decode b_Mo_judgeClass 103 = .ok (.return_, 1) := by decide +kernel
abbrev y_Mo_judgeMember : MethodName := ⟨"LanguageServerModel", "judgeMember", "(I)V"⟩
abbrev b_Mo_judgeMember : ByteArray := prog_13_method_39_code
theorem d_Mo_judgeMember_0 : decode b_Mo_judgeMember 0 = .ok (.iconst 0, 1) := by decide +kernel
theorem d_Mo_judgeMember_1 : decode b_Mo_judgeMember 1 = .ok (.istore_n 2, 1) := by decide +kernel
theorem d_Mo_judgeMember_2 : decode b_Mo_judgeMember 2 = .ok (.iload_n 2, 1) := by decide +kernel
theorem d_Mo_judgeMember_3 : decode b_Mo_judgeMember 3 = .ok (.iload_n 1, 1) := by decide +kernel
theorem d_Mo_judgeMember_4 : decode b_Mo_judgeMember 4 = .ok (.if_icmp .ge 58, 3) := by decide +kernel
theorem d_Mo_judgeMember_7 : decode b_Mo_judgeMember 7 = .ok (.aload_n 0, 1) := by decide +kernel
theorem d_Mo_judgeMember_8 : decode b_Mo_judgeMember 8 = .ok (.getfield 29, 3) := by decide +kernel
theorem d_Mo_judgeMember_11 : decode b_Mo_judgeMember 11 = .ok (.iload_n 2, 1) := by decide +kernel
theorem d_Mo_judgeMember_12 : decode b_Mo_judgeMember 12 = .ok (.iaload, 1) := by decide +kernel
theorem d_Mo_judgeMember_13 : decode b_Mo_judgeMember 13 = .ok (.invokestatic 195, 3) := by decide +kernel
theorem d_Mo_judgeMember_16 : decode b_Mo_judgeMember 16 = .ok (.ifCond .eq 40, 3) := by decide +kernel
theorem d_Mo_judgeMember_19 : decode b_Mo_judgeMember 19 = .ok (.aload_n 0, 1) := by decide +kernel
theorem d_Mo_judgeMember_20 : decode b_Mo_judgeMember 20 = .ok (.getfield 32, 3) := by decide +kernel
theorem d_Mo_judgeMember_23 : decode b_Mo_judgeMember 23 = .ok (.iload_n 2, 1) := by decide +kernel
theorem d_Mo_judgeMember_24 : decode b_Mo_judgeMember 24 = .ok (.iaload, 1) := by decide +kernel
theorem d_Mo_judgeMember_25 : decode b_Mo_judgeMember 25 = .ok (.aload_n 0, 1) := by decide +kernel
theorem d_Mo_judgeMember_26 : decode b_Mo_judgeMember 26 = .ok (.getfield 32, 3) := by decide +kernel
theorem d_Mo_judgeMember_29 : decode b_Mo_judgeMember 29 = .ok (.iload_n 1, 1) := by decide +kernel
theorem d_Mo_judgeMember_30 : decode b_Mo_judgeMember 30 = .ok (.iaload, 1) := by decide +kernel
theorem d_Mo_judgeMember_31 : decode b_Mo_judgeMember 31 = .ok (.if_icmp .ne 25, 3) := by decide +kernel
theorem d_Mo_judgeMember_34 : decode b_Mo_judgeMember 34 = .ok (.aload_n 0, 1) := by decide +kernel
theorem d_Mo_judgeMember_35 : decode b_Mo_judgeMember 35 = .ok (.getfield 19, 3) := by decide +kernel
theorem d_Mo_judgeMember_38 : decode b_Mo_judgeMember 38 = .ok (.iload_n 2, 1) := by decide +kernel
theorem d_Mo_judgeMember_39 : decode b_Mo_judgeMember 39 = .ok (.laload, 1) := by decide +kernel
theorem d_Mo_judgeMember_40 : decode b_Mo_judgeMember 40 = .ok (.aload_n 0, 1) := by decide +kernel
theorem d_Mo_judgeMember_41 : decode b_Mo_judgeMember 41 = .ok (.getfield 19, 3) := by decide +kernel
theorem d_Mo_judgeMember_44 : decode b_Mo_judgeMember 44 = .ok (.iload_n 1, 1) := by decide +kernel
theorem d_Mo_judgeMember_45 : decode b_Mo_judgeMember 45 = .ok (.laload, 1) := by decide +kernel
theorem d_Mo_judgeMember_46 : decode b_Mo_judgeMember 46 = .ok (.lcmp, 1) := by decide +kernel
theorem d_Mo_judgeMember_47 : decode b_Mo_judgeMember 47 = .ok (.ifCond .ne 9, 3) := by decide +kernel
theorem d_Mo_judgeMember_50 : decode b_Mo_judgeMember 50 = .ok (.aload_n 0, 1) := by decide +kernel
theorem d_Mo_judgeMember_51 : decode b_Mo_judgeMember 51 = .ok (.iload_n 1, 1) := by decide +kernel
theorem d_Mo_judgeMember_52 : decode b_Mo_judgeMember 52 = .ok (.iconst 4, 1) := by decide +kernel
theorem d_Mo_judgeMember_53 : decode b_Mo_judgeMember 53 = .ok (.invokevirtual 201, 3) := by decide +kernel
theorem d_Mo_judgeMember_56 : decode b_Mo_judgeMember 56 = .ok (.iinc 2 1, 3) := by decide +kernel
theorem d_Mo_judgeMember_59 : decode b_Mo_judgeMember 59 = .ok (.goto (-57), 3) := by decide +kernel
theorem d_Mo_judgeMember_62 : decode b_Mo_judgeMember 62 = .ok (.aload_n 0, 1) := by decide +kernel
theorem d_Mo_judgeMember_63 : decode b_Mo_judgeMember 63 = .ok (.getfield 47, 3) := by decide +kernel
theorem d_Mo_judgeMember_66 : decode b_Mo_judgeMember 66 = .ok (.iload_n 1, 1) := by decide +kernel
theorem d_Mo_judgeMember_67 : decode b_Mo_judgeMember 67 = .ok (.iaload, 1) := by decide +kernel
theorem d_Mo_judgeMember_68 : decode b_Mo_judgeMember 68 = .ok (.ifCond .ne 10, 3) := by decide +kernel
theorem d_Mo_judgeMember_71 : decode b_Mo_judgeMember 71 = .ok (.aload_n 0, 1) := by decide +kernel
theorem d_Mo_judgeMember_72 : decode b_Mo_judgeMember 72 = .ok (.getfield 50, 3) := by decide +kernel
theorem d_Mo_judgeMember_75 : decode b_Mo_judgeMember 75 = .ok (.iload_n 1, 1) := by decide +kernel
theorem d_Mo_judgeMember_76 : decode b_Mo_judgeMember 76 = .ok (.iload_n 1, 1) := by decide +kernel
theorem d_Mo_judgeMember_77 : decode b_Mo_judgeMember 77 = .ok (.iastore, 1) := by decide +kernel
theorem d_Mo_judgeMember_78 : decode b_Mo_judgeMember 78 = .ok (.return_, 1) := by decide +kernel
abbrev y_Mo_judgeName : MethodName := ⟨"LanguageServerModel", "judgeName", "(I)V"⟩
abbrev b_Mo_judgeName : ByteArray := prog_13_method_40_code
theorem d_Mo_judgeName_0 : decode b_Mo_judgeName 0 = .ok (.aload_n 0, 1) := by decide +kernel
theorem d_Mo_judgeName_1 : decode b_Mo_judgeName 1 = .ok (.getfield 29, 3) := by decide +kernel
theorem d_Mo_judgeName_4 : decode b_Mo_judgeName 4 = .ok (.iload_n 1, 1) := by decide +kernel
theorem d_Mo_judgeName_5 : decode b_Mo_judgeName 5 = .ok (.iaload, 1) := by decide +kernel
theorem d_Mo_judgeName_6 : decode b_Mo_judgeName 6 = .ok (.istore_n 2, 1) := by decide +kernel
theorem d_Mo_judgeName_7 : decode b_Mo_judgeName 7 = .ok (.iload_n 2, 1) := by decide +kernel
theorem d_Mo_judgeName_8 : decode b_Mo_judgeName 8 = .ok (.ifCond .le 13, 3) := by decide +kernel
theorem d_Mo_judgeName_11 : decode b_Mo_judgeName 11 = .ok (.iload_n 2, 1) := by decide +kernel
theorem d_Mo_judgeName_12 : decode b_Mo_judgeName 12 = .ok (.iconst 5, 1) := by decide +kernel
theorem d_Mo_judgeName_13 : decode b_Mo_judgeName 13 = .ok (.if_icmp .ge 8, 3) := by decide +kernel
theorem d_Mo_judgeName_16 : decode b_Mo_judgeName 16 = .ok (.aload_n 0, 1) := by decide +kernel
theorem d_Mo_judgeName_17 : decode b_Mo_judgeName 17 = .ok (.iload_n 1, 1) := by decide +kernel
theorem d_Mo_judgeName_18 : decode b_Mo_judgeName 18 = .ok (.invokevirtual 204, 3) := by decide +kernel
theorem d_Mo_judgeName_21 : decode b_Mo_judgeName 21 = .ok (.iload_n 2, 1) := by decide +kernel
theorem d_Mo_judgeName_22 : decode b_Mo_judgeName 22 = .ok (.invokestatic 195, 3) := by decide +kernel
theorem d_Mo_judgeName_25 : decode b_Mo_judgeName 25 = .ok (.ifCond .eq 8, 3) := by decide +kernel
theorem d_Mo_judgeName_28 : decode b_Mo_judgeName 28 = .ok (.aload_n 0, 1) := by decide +kernel
theorem d_Mo_judgeName_29 : decode b_Mo_judgeName 29 = .ok (.iload_n 1, 1) := by decide +kernel
theorem d_Mo_judgeName_30 : decode b_Mo_judgeName 30 = .ok (.invokevirtual 207, 3) := by decide +kernel
theorem d_Mo_judgeName_33 : decode b_Mo_judgeName 33 = .ok (.iload_n 2, 1) := by decide +kernel
theorem d_Mo_judgeName_34 : decode b_Mo_judgeName 34 = .ok (.bipush 7, 2) := by decide +kernel
theorem d_Mo_judgeName_36 : decode b_Mo_judgeName 36 = .ok (.if_icmp .eq 10, 3) := by decide +kernel
theorem d_Mo_judgeName_39 : decode b_Mo_judgeName 39 = .ok (.iload_n 2, 1) := by decide +kernel
theorem d_Mo_judgeName_40 : decode b_Mo_judgeName 40 = .ok (.bipush 8, 2) := by decide +kernel
theorem d_Mo_judgeName_42 : decode b_Mo_judgeName 42 = .ok (.if_icmp .eq 4, 3) := by decide +kernel
theorem d_Mo_judgeName_45 : decode b_Mo_judgeName 45 = .ok (.return_, 1) := by decide +kernel
theorem d_Mo_judgeName_46 : decode b_Mo_judgeName 46 = .ok (.aload_n 0, 1) := by decide +kernel
theorem d_Mo_judgeName_47 : decode b_Mo_judgeName 47 = .ok (.iload_n 1, 1) := by decide +kernel
theorem d_Mo_judgeName_48 : decode b_Mo_judgeName 48 = .ok (.iload_n 1, 1) := by decide +kernel
theorem d_Mo_judgeName_49 : decode b_Mo_judgeName 49 = .ok (.invokevirtual 210, 3) := by decide +kernel
theorem d_Mo_judgeName_52 : decode b_Mo_judgeName 52 = .ok (.ifCond .lt 12, 3) := by decide +kernel
theorem d_Mo_judgeName_55 : decode b_Mo_judgeName 55 = .ok (.aload_n 0, 1) := by decide +kernel
theorem d_Mo_judgeName_56 : decode b_Mo_judgeName 56 = .ok (.iload_n 1, 1) := by decide +kernel
theorem d_Mo_judgeName_57 : decode b_Mo_judgeName 57 = .ok (.iconst 5, 1) := by decide +kernel
theorem d_Mo_judgeName_58 : decode b_Mo_judgeName 58 = .ok (.invokevirtual 201, 3) := by decide +kernel
theorem d_Mo_judgeName_61 : decode b_Mo_judgeName 61 = .ok (.goto 10, 3) := by decide +kernel
theorem d_Mo_judgeName_64 : decode b_Mo_judgeName 64 = .ok (.aload_n 0, 1) := by decide +kernel
theorem d_Mo_judgeName_65 : decode b_Mo_judgeName 65 = .ok (.getfield 50, 3) := by decide +kernel
theorem d_Mo_judgeName_68 : decode b_Mo_judgeName 68 = .ok (.iload_n 1, 1) := by decide +kernel
theorem d_Mo_judgeName_69 : decode b_Mo_judgeName 69 = .ok (.iload_n 1, 1) := by decide +kernel
theorem d_Mo_judgeName_70 : decode b_Mo_judgeName 70 = .ok (.iastore, 1) := by decide +kernel
theorem d_Mo_judgeName_71 : decode b_Mo_judgeName 71 = .ok (.return_, 1) := by decide +kernel
abbrev y_Mo_fits : MethodName := ⟨"LanguageServerModel", "fits", "(II)Z"⟩
abbrev b_Mo_fits : ByteArray := prog_13_method_41_code
theorem d_Mo_fits_0 : decode b_Mo_fits 0 = .ok (.iload_n 1, 1) := by decide +kernel
theorem d_Mo_fits_1 : decode b_Mo_fits 1 = .ok (.bipush (-2), 2) := by decide +kernel
theorem d_Mo_fits_3 : decode b_Mo_fits 3 = .ok (.if_icmp .eq 9, 3) := by decide +kernel
theorem d_Mo_fits_6 : decode b_Mo_fits 6 = .ok (.iload_n 2, 1) := by decide +kernel
theorem d_Mo_fits_7 : decode b_Mo_fits 7 = .ok (.bipush (-2), 2) := by decide +kernel
theorem d_Mo_fits_9 : decode b_Mo_fits 9 = .ok (.if_icmp .ne 5, 3) := by decide +kernel
theorem d_Mo_fits_12 : decode b_Mo_fits 12 = .ok (.iconst 1, 1) := by decide +kernel
theorem d_Mo_fits_13 : decode b_Mo_fits 13 = .ok (.ireturn, 1) := by decide +kernel
theorem d_Mo_fits_14 : decode b_Mo_fits 14 = .ok (.iload_n 1, 1) := by decide +kernel
theorem d_Mo_fits_15 : decode b_Mo_fits 15 = .ok (.iconst (-1), 1) := by decide +kernel
theorem d_Mo_fits_16 : decode b_Mo_fits 16 = .ok (.if_icmp .eq 8, 3) := by decide +kernel
theorem d_Mo_fits_19 : decode b_Mo_fits 19 = .ok (.iload_n 2, 1) := by decide +kernel
theorem d_Mo_fits_20 : decode b_Mo_fits 20 = .ok (.iconst (-1), 1) := by decide +kernel
theorem d_Mo_fits_21 : decode b_Mo_fits 21 = .ok (.if_icmp .ne 14, 3) := by decide +kernel
theorem d_Mo_fits_24 : decode b_Mo_fits 24 = .ok (.iload_n 1, 1) := by decide +kernel
theorem d_Mo_fits_25 : decode b_Mo_fits 25 = .ok (.iload_n 2, 1) := by decide +kernel
theorem d_Mo_fits_26 : decode b_Mo_fits 26 = .ok (.if_icmp .ne 7, 3) := by decide +kernel
theorem d_Mo_fits_29 : decode b_Mo_fits 29 = .ok (.iconst 1, 1) := by decide +kernel
theorem d_Mo_fits_30 : decode b_Mo_fits 30 = .ok (.goto 4, 3) := by decide +kernel
theorem d_Mo_fits_33 : decode b_Mo_fits 33 = .ok (.iconst 0, 1) := by decide +kernel
theorem d_Mo_fits_34 : decode b_Mo_fits 34 = .ok (.ireturn, 1) := by decide +kernel
theorem d_Mo_fits_35 : decode b_Mo_fits 35 = .ok (.iload_n 1, 1) := by decide +kernel
theorem d_Mo_fits_36 : decode b_Mo_fits 36 = .ok (.istore_n 3, 1) := by decide +kernel
theorem d_Mo_fits_37 : decode b_Mo_fits 37 = .ok (.iload_n 3, 1) := by decide +kernel
theorem d_Mo_fits_38 : decode b_Mo_fits 38 = .ok (.ifCond .lt 19, 3) := by decide +kernel
theorem d_Mo_fits_41 : decode b_Mo_fits 41 = .ok (.iload_n 3, 1) := by decide +kernel
theorem d_Mo_fits_42 : decode b_Mo_fits 42 = .ok (.iload_n 2, 1) := by decide +kernel
theorem d_Mo_fits_43 : decode b_Mo_fits 43 = .ok (.if_icmp .ne 5, 3) := by decide +kernel
theorem d_Mo_fits_46 : decode b_Mo_fits 46 = .ok (.iconst 1, 1) := by decide +kernel
theorem d_Mo_fits_47 : decode b_Mo_fits 47 = .ok (.ireturn, 1) := by decide +kernel
theorem d_Mo_fits_48 : decode b_Mo_fits 48 = .ok (.aload_n 0, 1) := by decide +kernel
theorem d_Mo_fits_49 : decode b_Mo_fits 49 = .ok (.iload_n 3, 1) := by decide +kernel
theorem d_Mo_fits_50 : decode b_Mo_fits 50 = .ok (.invokevirtual 198, 3) := by decide +kernel
theorem d_Mo_fits_53 : decode b_Mo_fits 53 = .ok (.istore_n 3, 1) := by decide +kernel
theorem d_Mo_fits_54 : decode b_Mo_fits 54 = .ok (.goto (-17), 3) := by decide +kernel
theorem d_Mo_fits_57 : decode b_Mo_fits 57 = .ok (.iconst 0, 1) := by decide +kernel
theorem d_Mo_fits_58 : decode b_Mo_fits 58 = .ok (.ireturn, 1) := by decide +kernel
abbrev y_Mo_should : MethodName := ⟨"LanguageServerModel", "should", "(III)V"⟩
abbrev b_Mo_should : ByteArray := prog_13_method_42_code
theorem d_Mo_should_0 : decode b_Mo_should 0 = .ok (.aload_n 0, 1) := by decide +kernel
theorem d_Mo_should_1 : decode b_Mo_should 1 = .ok (.iload_n 1, 1) := by decide +kernel
theorem d_Mo_should_2 : decode b_Mo_should 2 = .ok (.iload_n 2, 1) := by decide +kernel
theorem d_Mo_should_3 : decode b_Mo_should 3 = .ok (.invokevirtual 214, 3) := by decide +kernel
theorem d_Mo_should_6 : decode b_Mo_should 6 = .ok (.ifCond .ne 10, 3) := by decide +kernel
theorem d_Mo_should_9 : decode b_Mo_should 9 = .ok (.aload_n 0, 1) := by decide +kernel
theorem d_Mo_should_10 : decode b_Mo_should 10 = .ok (.iload_n 3, 1) := by decide +kernel
theorem d_Mo_should_11 : decode b_Mo_should 11 = .ok (.bipush 9, 2) := by decide +kernel
theorem d_Mo_should_13 : decode b_Mo_should 13 = .ok (.invokevirtual 201, 3) := by decide +kernel
theorem d_Mo_should_16 : decode b_Mo_should 16 = .ok (.return_, 1) := by decide +kernel
abbrev y_Mo_start : MethodName := ⟨"LanguageServerModel", "start", "(I)V"⟩
abbrev b_Mo_start : ByteArray := prog_13_method_43_code
theorem d_Mo_start_0 : decode b_Mo_start 0 = .ok (.aload_n 0, 1) := by decide +kernel
theorem d_Mo_start_1 : decode b_Mo_start 1 = .ok (.getfield 59, 3) := by decide +kernel
theorem d_Mo_start_4 : decode b_Mo_start 4 = .ok (.aload_n 0, 1) := by decide +kernel
theorem d_Mo_start_5 : decode b_Mo_start 5 = .ok (.getfield 148, 3) := by decide +kernel
theorem d_Mo_start_8 : decode b_Mo_start 8 = .ok (.iload_n 1, 1) := by decide +kernel
theorem d_Mo_start_9 : decode b_Mo_start 9 = .ok (.iastore, 1) := by decide +kernel
theorem d_Mo_start_10 : decode b_Mo_start 10 = .ok (.aload_n 0, 1) := by decide +kernel
theorem d_Mo_start_11 : decode b_Mo_start 11 = .ok (.getfield 62, 3) := by decide +kernel
theorem d_Mo_start_14 : decode b_Mo_start 14 = .ok (.aload_n 0, 1) := by decide +kernel
theorem d_Mo_start_15 : decode b_Mo_start 15 = .ok (.getfield 148, 3) := by decide +kernel
theorem d_Mo_start_18 : decode b_Mo_start 18 = .ok (.iload_n 1, 1) := by decide +kernel
theorem d_Mo_start_19 : decode b_Mo_start 19 = .ok (.iastore, 1) := by decide +kernel
theorem d_Mo_start_20 : decode b_Mo_start 20 = .ok (.aload_n 0, 1) := by decide +kernel
theorem d_Mo_start_21 : decode b_Mo_start 21 = .ok (.getfield 68, 3) := by decide +kernel
theorem d_Mo_start_24 : decode b_Mo_start 24 = .ok (.aload_n 0, 1) := by decide +kernel
theorem d_Mo_start_25 : decode b_Mo_start 25 = .ok (.getfield 148, 3) := by decide +kernel
theorem d_Mo_start_28 : decode b_Mo_start 28 = .ok (.iconst 0, 1) := by decide +kernel
theorem d_Mo_start_29 : decode b_Mo_start 29 = .ok (.bastore, 1) := by decide +kernel
theorem d_Mo_start_30 : decode b_Mo_start 30 = .ok (.aload_n 0, 1) := by decide +kernel
theorem d_Mo_start_31 : decode b_Mo_start 31 = .ok (.getfield 65, 3) := by decide +kernel
theorem d_Mo_start_34 : decode b_Mo_start 34 = .ok (.aload_n 0, 1) := by decide +kernel
theorem d_Mo_start_35 : decode b_Mo_start 35 = .ok (.getfield 148, 3) := by decide +kernel
theorem d_Mo_start_38 : decode b_Mo_start 38 = .ok (.bipush (-2), 2) := by decide +kernel
theorem d_Mo_start_40 : decode b_Mo_start 40 = .ok (.iastore, 1) := by decide +kernel
theorem d_Mo_start_41 : decode b_Mo_start 41 = .ok (.return_, 1) := by decide +kernel
abbrev y_Mo_arguments : MethodName := ⟨"LanguageServerModel", "arguments", "(I)I"⟩
abbrev b_Mo_arguments : ByteArray := prog_13_method_44_code
theorem d_Mo_arguments_0 : decode b_Mo_arguments 0 = .ok (.aload_n 0, 1) := by decide +kernel
theorem d_Mo_arguments_1 : decode b_Mo_arguments 1 = .ok (.getfield 16, 3) := by decide +kernel
theorem d_Mo_arguments_4 : decode b_Mo_arguments 4 = .ok (.iload_n 1, 1) := by decide +kernel
theorem d_Mo_arguments_5 : decode b_Mo_arguments 5 = .ok (.iconst 1, 1) := by decide +kernel
theorem d_Mo_arguments_6 : decode b_Mo_arguments 6 = .ok (.iadd, 1) := by decide +kernel
theorem d_Mo_arguments_7 : decode b_Mo_arguments 7 = .ok (.iaload, 1) := by decide +kernel
theorem d_Mo_arguments_8 : decode b_Mo_arguments 8 = .ok (.bipush 41, 2) := by decide +kernel
theorem d_Mo_arguments_10 : decode b_Mo_arguments 10 = .ok (.if_icmp .ne 5, 3) := by decide +kernel
theorem d_Mo_arguments_13 : decode b_Mo_arguments 13 = .ok (.iconst 0, 1) := by decide +kernel
theorem d_Mo_arguments_14 : decode b_Mo_arguments 14 = .ok (.ireturn, 1) := by decide +kernel
theorem d_Mo_arguments_15 : decode b_Mo_arguments 15 = .ok (.iconst 1, 1) := by decide +kernel
theorem d_Mo_arguments_16 : decode b_Mo_arguments 16 = .ok (.istore_n 2, 1) := by decide +kernel
theorem d_Mo_arguments_17 : decode b_Mo_arguments 17 = .ok (.iconst 0, 1) := by decide +kernel
theorem d_Mo_arguments_18 : decode b_Mo_arguments 18 = .ok (.istore_n 3, 1) := by decide +kernel
theorem d_Mo_arguments_19 : decode b_Mo_arguments 19 = .ok (.iload_n 1, 1) := by decide +kernel
theorem d_Mo_arguments_20 : decode b_Mo_arguments 20 = .ok (.iconst 1, 1) := by decide +kernel
theorem d_Mo_arguments_21 : decode b_Mo_arguments 21 = .ok (.iadd, 1) := by decide +kernel
theorem d_Mo_arguments_22 : decode b_Mo_arguments 22 = .ok (.istore 4, 2) := by decide +kernel
theorem d_Mo_arguments_24 : decode b_Mo_arguments 24 = .ok (.aload_n 0, 1) := by decide +kernel
theorem d_Mo_arguments_25 : decode b_Mo_arguments 25 = .ok (.getfield 16, 3) := by decide +kernel
theorem d_Mo_arguments_28 : decode b_Mo_arguments 28 = .ok (.iload 4, 2) := by decide +kernel
theorem d_Mo_arguments_30 : decode b_Mo_arguments 30 = .ok (.iaload, 1) := by decide +kernel
theorem d_Mo_arguments_31 : decode b_Mo_arguments 31 = .ok (.bipush 41, 2) := by decide +kernel
theorem d_Mo_arguments_33 : decode b_Mo_arguments 33 = .ok (.if_icmp .ne 7, 3) := by decide +kernel
theorem d_Mo_arguments_36 : decode b_Mo_arguments 36 = .ok (.iload_n 3, 1) := by decide +kernel
theorem d_Mo_arguments_37 : decode b_Mo_arguments 37 = .ok (.ifCond .le 58, 3) := by decide +kernel
theorem d_Mo_arguments_40 : decode b_Mo_arguments 40 = .ok (.aload_n 0, 1) := by decide +kernel
theorem d_Mo_arguments_41 : decode b_Mo_arguments 41 = .ok (.getfield 16, 3) := by decide +kernel
theorem d_Mo_arguments_44 : decode b_Mo_arguments 44 = .ok (.iload 4, 2) := by decide +kernel
theorem d_Mo_arguments_46 : decode b_Mo_arguments 46 = .ok (.iaload, 1) := by decide +kernel
theorem d_Mo_arguments_47 : decode b_Mo_arguments 47 = .ok (.bipush 40, 2) := by decide +kernel
theorem d_Mo_arguments_49 : decode b_Mo_arguments 49 = .ok (.if_icmp .ne 6, 3) := by decide +kernel
theorem d_Mo_arguments_52 : decode b_Mo_arguments 52 = .ok (.iinc 3 1, 3) := by decide +kernel
theorem d_Mo_arguments_55 : decode b_Mo_arguments 55 = .ok (.aload_n 0, 1) := by decide +kernel
theorem d_Mo_arguments_56 : decode b_Mo_arguments 56 = .ok (.getfield 16, 3) := by decide +kernel
theorem d_Mo_arguments_59 : decode b_Mo_arguments 59 = .ok (.iload 4, 2) := by decide +kernel
theorem d_Mo_arguments_61 : decode b_Mo_arguments 61 = .ok (.iaload, 1) := by decide +kernel
theorem d_Mo_arguments_62 : decode b_Mo_arguments 62 = .ok (.bipush 41, 2) := by decide +kernel
theorem d_Mo_arguments_64 : decode b_Mo_arguments 64 = .ok (.if_icmp .ne 6, 3) := by decide +kernel
theorem d_Mo_arguments_67 : decode b_Mo_arguments 67 = .ok (.iinc 3 (-1), 3) := by decide +kernel
theorem d_Mo_arguments_70 : decode b_Mo_arguments 70 = .ok (.aload_n 0, 1) := by decide +kernel
theorem d_Mo_arguments_71 : decode b_Mo_arguments 71 = .ok (.getfield 16, 3) := by decide +kernel
theorem d_Mo_arguments_74 : decode b_Mo_arguments 74 = .ok (.iload 4, 2) := by decide +kernel
theorem d_Mo_arguments_76 : decode b_Mo_arguments 76 = .ok (.iaload, 1) := by decide +kernel
theorem d_Mo_arguments_77 : decode b_Mo_arguments 77 = .ok (.bipush 44, 2) := by decide +kernel
theorem d_Mo_arguments_79 : decode b_Mo_arguments 79 = .ok (.if_icmp .ne 10, 3) := by decide +kernel
theorem d_Mo_arguments_82 : decode b_Mo_arguments 82 = .ok (.iload_n 3, 1) := by decide +kernel
theorem d_Mo_arguments_83 : decode b_Mo_arguments 83 = .ok (.ifCond .ne 6, 3) := by decide +kernel
theorem d_Mo_arguments_86 : decode b_Mo_arguments 86 = .ok (.iinc 2 1, 3) := by decide +kernel
theorem d_Mo_arguments_89 : decode b_Mo_arguments 89 = .ok (.iinc 4 1, 3) := by decide +kernel
theorem d_Mo_arguments_92 : decode b_Mo_arguments 92 = .ok (.goto (-68), 3) := by decide +kernel
theorem d_Mo_arguments_95 : decode b_Mo_arguments 95 = .ok (.iload_n 2, 1) := by decide +kernel
theorem d_Mo_arguments_96 : decode b_Mo_arguments 96 = .ok (.ireturn, 1) := by decide +kernel
abbrev y_Mo_parameter : MethodName := ⟨"LanguageServerModel", "parameter", "(II)I"⟩
abbrev b_Mo_parameter : ByteArray := prog_13_method_45_code
theorem d_Mo_parameter_0 : decode b_Mo_parameter 0 = .ok (.iconst 0, 1) := by decide +kernel
theorem d_Mo_parameter_1 : decode b_Mo_parameter 1 = .ok (.istore_n 3, 1) := by decide +kernel
theorem d_Mo_parameter_2 : decode b_Mo_parameter 2 = .ok (.iload_n 1, 1) := by decide +kernel
theorem d_Mo_parameter_3 : decode b_Mo_parameter 3 = .ok (.iconst 1, 1) := by decide +kernel
theorem d_Mo_parameter_4 : decode b_Mo_parameter 4 = .ok (.iadd, 1) := by decide +kernel
theorem d_Mo_parameter_5 : decode b_Mo_parameter 5 = .ok (.istore 4, 2) := by decide +kernel
theorem d_Mo_parameter_7 : decode b_Mo_parameter 7 = .ok (.iload 4, 2) := by decide +kernel
theorem d_Mo_parameter_9 : decode b_Mo_parameter 9 = .ok (.aload_n 0, 1) := by decide +kernel
theorem d_Mo_parameter_10 : decode b_Mo_parameter 10 = .ok (.getfield 118, 3) := by decide +kernel
theorem d_Mo_parameter_13 : decode b_Mo_parameter 13 = .ok (.if_icmp .ge 46, 3) := by decide +kernel
theorem d_Mo_parameter_16 : decode b_Mo_parameter 16 = .ok (.aload_n 0, 1) := by decide +kernel
theorem d_Mo_parameter_17 : decode b_Mo_parameter 17 = .ok (.getfield 29, 3) := by decide +kernel
theorem d_Mo_parameter_20 : decode b_Mo_parameter 20 = .ok (.iload 4, 2) := by decide +kernel
theorem d_Mo_parameter_22 : decode b_Mo_parameter 22 = .ok (.iaload, 1) := by decide +kernel
theorem d_Mo_parameter_23 : decode b_Mo_parameter 23 = .ok (.bipush 7, 2) := by decide +kernel
theorem d_Mo_parameter_25 : decode b_Mo_parameter 25 = .ok (.if_icmp .ne 28, 3) := by decide +kernel
theorem d_Mo_parameter_28 : decode b_Mo_parameter 28 = .ok (.aload_n 0, 1) := by decide +kernel
theorem d_Mo_parameter_29 : decode b_Mo_parameter 29 = .ok (.getfield 35, 3) := by decide +kernel
theorem d_Mo_parameter_32 : decode b_Mo_parameter 32 = .ok (.iload 4, 2) := by decide +kernel
theorem d_Mo_parameter_34 : decode b_Mo_parameter 34 = .ok (.iaload, 1) := by decide +kernel
theorem d_Mo_parameter_35 : decode b_Mo_parameter 35 = .ok (.iload_n 1, 1) := by decide +kernel
theorem d_Mo_parameter_36 : decode b_Mo_parameter 36 = .ok (.if_icmp .eq 6, 3) := by decide +kernel
theorem d_Mo_parameter_39 : decode b_Mo_parameter 39 = .ok (.goto 14, 3) := by decide +kernel
theorem d_Mo_parameter_42 : decode b_Mo_parameter 42 = .ok (.iload_n 3, 1) := by decide +kernel
theorem d_Mo_parameter_43 : decode b_Mo_parameter 43 = .ok (.iload_n 2, 1) := by decide +kernel
theorem d_Mo_parameter_44 : decode b_Mo_parameter 44 = .ok (.if_icmp .ne 6, 3) := by decide +kernel
theorem d_Mo_parameter_47 : decode b_Mo_parameter 47 = .ok (.iload 4, 2) := by decide +kernel
theorem d_Mo_parameter_49 : decode b_Mo_parameter 49 = .ok (.ireturn, 1) := by decide +kernel
theorem d_Mo_parameter_50 : decode b_Mo_parameter 50 = .ok (.iinc 3 1, 3) := by decide +kernel
theorem d_Mo_parameter_53 : decode b_Mo_parameter 53 = .ok (.iinc 4 1, 3) := by decide +kernel
theorem d_Mo_parameter_56 : decode b_Mo_parameter 56 = .ok (.goto (-49), 3) := by decide +kernel
theorem d_Mo_parameter_59 : decode b_Mo_parameter 59 = .ok (.iconst (-1), 1) := by decide +kernel
theorem d_Mo_parameter_60 : decode b_Mo_parameter 60 = .ok (.ireturn, 1) := by decide +kernel
abbrev y_Mo_parametersOf : MethodName := ⟨"LanguageServerModel", "parametersOf", "(I)I"⟩
abbrev b_Mo_parametersOf : ByteArray := prog_13_method_46_code
theorem d_Mo_parametersOf_0 : decode b_Mo_parametersOf 0 = .ok (.iconst 0, 1) := by decide +kernel
theorem d_Mo_parametersOf_1 : decode b_Mo_parametersOf 1 = .ok (.istore_n 2, 1) := by decide +kernel
theorem d_Mo_parametersOf_2 : decode b_Mo_parametersOf 2 = .ok (.aload_n 0, 1) := by decide +kernel
theorem d_Mo_parametersOf_3 : decode b_Mo_parametersOf 3 = .ok (.iload_n 1, 1) := by decide +kernel
theorem d_Mo_parametersOf_4 : decode b_Mo_parametersOf 4 = .ok (.iload_n 2, 1) := by decide +kernel
theorem d_Mo_parametersOf_5 : decode b_Mo_parametersOf 5 = .ok (.invokevirtual 217, 3) := by decide +kernel
theorem d_Mo_parametersOf_8 : decode b_Mo_parametersOf 8 = .ok (.ifCond .lt 9, 3) := by decide +kernel
theorem d_Mo_parametersOf_11 : decode b_Mo_parametersOf 11 = .ok (.iinc 2 1, 3) := by decide +kernel
theorem d_Mo_parametersOf_14 : decode b_Mo_parametersOf 14 = .ok (.goto (-12), 3) := by decide +kernel
theorem d_Mo_parametersOf_17 : decode b_Mo_parametersOf 17 = .ok (.iload_n 2, 1) := by decide +kernel
theorem d_Mo_parametersOf_18 : decode b_Mo_parametersOf 18 = .ok (.ireturn, 1) := by decide +kernel
abbrev y_Mo_means : MethodName := ⟨"LanguageServerModel", "means", "(III)I"⟩
abbrev b_Mo_means : ByteArray := prog_13_method_47_code
theorem d_Mo_means_0 : decode b_Mo_means 0 = .ok (.aload_n 0, 1) := by decide +kernel
theorem d_Mo_means_1 : decode b_Mo_means 1 = .ok (.getfield 29, 3) := by decide +kernel
theorem d_Mo_means_4 : decode b_Mo_means 4 = .ok (.iload_n 1, 1) := by decide +kernel
theorem d_Mo_means_5 : decode b_Mo_means 5 = .ok (.iaload, 1) := by decide +kernel
theorem d_Mo_means_6 : decode b_Mo_means 6 = .ok (.bipush 10, 2) := by decide +kernel
theorem d_Mo_means_8 : decode b_Mo_means 8 = .ok (.if_icmp .eq 14, 3) := by decide +kernel
theorem d_Mo_means_11 : decode b_Mo_means 11 = .ok (.aload_n 0, 1) := by decide +kernel
theorem d_Mo_means_12 : decode b_Mo_means 12 = .ok (.getfield 29, 3) := by decide +kernel
theorem d_Mo_means_15 : decode b_Mo_means 15 = .ok (.iload_n 1, 1) := by decide +kernel
theorem d_Mo_means_16 : decode b_Mo_means 16 = .ok (.iaload, 1) := by decide +kernel
theorem d_Mo_means_17 : decode b_Mo_means 17 = .ok (.bipush 12, 2) := by decide +kernel
theorem d_Mo_means_19 : decode b_Mo_means 19 = .ok (.if_icmp .ne 7, 3) := by decide +kernel
theorem d_Mo_means_22 : decode b_Mo_means 22 = .ok (.iconst 1, 1) := by decide +kernel
theorem d_Mo_means_23 : decode b_Mo_means 23 = .ok (.goto 4, 3) := by decide +kernel
theorem d_Mo_means_26 : decode b_Mo_means 26 = .ok (.iconst 0, 1) := by decide +kernel
theorem d_Mo_means_27 : decode b_Mo_means 27 = .ok (.istore 4, 2) := by decide +kernel
theorem d_Mo_means_29 : decode b_Mo_means 29 = .ok (.aload_n 0, 1) := by decide +kernel
theorem d_Mo_means_30 : decode b_Mo_means 30 = .ok (.getfield 29, 3) := by decide +kernel
theorem d_Mo_means_33 : decode b_Mo_means 33 = .ok (.iload_n 1, 1) := by decide +kernel
theorem d_Mo_means_34 : decode b_Mo_means 34 = .ok (.iaload, 1) := by decide +kernel
theorem d_Mo_means_35 : decode b_Mo_means 35 = .ok (.bipush 9, 2) := by decide +kernel
theorem d_Mo_means_37 : decode b_Mo_means 37 = .ok (.if_icmp .ne 12, 3) := by decide +kernel
theorem d_Mo_means_40 : decode b_Mo_means 40 = .ok (.aload_n 0, 1) := by decide +kernel
theorem d_Mo_means_41 : decode b_Mo_means 41 = .ok (.iload_n 1, 1) := by decide +kernel
theorem d_Mo_means_42 : decode b_Mo_means 42 = .ok (.iload_n 2, 1) := by decide +kernel
theorem d_Mo_means_43 : decode b_Mo_means 43 = .ok (.invokevirtual 210, 3) := by decide +kernel
theorem d_Mo_means_46 : decode b_Mo_means 46 = .ok (.goto 4, 3) := by decide +kernel
theorem d_Mo_means_49 : decode b_Mo_means 49 = .ok (.iconst (-1), 1) := by decide +kernel
theorem d_Mo_means_50 : decode b_Mo_means 50 = .ok (.istore 5, 2) := by decide +kernel
theorem d_Mo_means_52 : decode b_Mo_means 52 = .ok (.iload 5, 2) := by decide +kernel
theorem d_Mo_means_54 : decode b_Mo_means 54 = .ok (.ifCond .lt 6, 3) := by decide +kernel
theorem d_Mo_means_57 : decode b_Mo_means 57 = .ok (.iload 5, 2) := by decide +kernel
theorem d_Mo_means_59 : decode b_Mo_means 59 = .ok (.ireturn, 1) := by decide +kernel
theorem d_Mo_means_60 : decode b_Mo_means 60 = .ok (.iload_n 3, 1) := by decide +kernel
theorem d_Mo_means_61 : decode b_Mo_means 61 = .ok (.ifCond .lt 17, 3) := by decide +kernel
theorem d_Mo_means_64 : decode b_Mo_means 64 = .ok (.aload_n 0, 1) := by decide +kernel
theorem d_Mo_means_65 : decode b_Mo_means 65 = .ok (.iload_n 3, 1) := by decide +kernel
theorem d_Mo_means_66 : decode b_Mo_means 66 = .ok (.aload_n 0, 1) := by decide +kernel
theorem d_Mo_means_67 : decode b_Mo_means 67 = .ok (.getfield 19, 3) := by decide +kernel
theorem d_Mo_means_70 : decode b_Mo_means 70 = .ok (.iload_n 1, 1) := by decide +kernel
theorem d_Mo_means_71 : decode b_Mo_means 71 = .ok (.laload, 1) := by decide +kernel
theorem d_Mo_means_72 : decode b_Mo_means 72 = .ok (.invokevirtual 220, 3) := by decide +kernel
theorem d_Mo_means_75 : decode b_Mo_means 75 = .ok (.goto 4, 3) := by decide +kernel
theorem d_Mo_means_78 : decode b_Mo_means 78 = .ok (.iconst (-1), 1) := by decide +kernel
theorem d_Mo_means_79 : decode b_Mo_means 79 = .ok (.istore 5, 2) := by decide +kernel
theorem d_Mo_means_81 : decode b_Mo_means 81 = .ok (.iload 5, 2) := by decide +kernel
theorem d_Mo_means_83 : decode b_Mo_means 83 = .ok (.ifCond .lt 30, 3) := by decide +kernel
theorem d_Mo_means_86 : decode b_Mo_means 86 = .ok (.aload_n 0, 1) := by decide +kernel
theorem d_Mo_means_87 : decode b_Mo_means 87 = .ok (.getfield 29, 3) := by decide +kernel
theorem d_Mo_means_90 : decode b_Mo_means 90 = .ok (.iload 5, 2) := by decide +kernel
theorem d_Mo_means_92 : decode b_Mo_means 92 = .ok (.iaload, 1) := by decide +kernel
theorem d_Mo_means_93 : decode b_Mo_means 93 = .ok (.bipush 6, 2) := by decide +kernel
theorem d_Mo_means_95 : decode b_Mo_means 95 = .ok (.if_icmp .ne 7, 3) := by decide +kernel
theorem d_Mo_means_98 : decode b_Mo_means 98 = .ok (.iconst 1, 1) := by decide +kernel
theorem d_Mo_means_99 : decode b_Mo_means 99 = .ok (.goto 4, 3) := by decide +kernel
theorem d_Mo_means_102 : decode b_Mo_means 102 = .ok (.iconst 0, 1) := by decide +kernel
theorem d_Mo_means_103 : decode b_Mo_means 103 = .ok (.iload 4, 2) := by decide +kernel
theorem d_Mo_means_105 : decode b_Mo_means 105 = .ok (.if_icmp .ne 8, 3) := by decide +kernel
theorem d_Mo_means_108 : decode b_Mo_means 108 = .ok (.iload 5, 2) := by decide +kernel
theorem d_Mo_means_110 : decode b_Mo_means 110 = .ok (.goto 4, 3) := by decide +kernel
theorem d_Mo_means_113 : decode b_Mo_means 113 = .ok (.iconst (-1), 1) := by decide +kernel
theorem d_Mo_means_114 : decode b_Mo_means 114 = .ok (.ireturn, 1) := by decide +kernel
abbrev y_Mo_takeName : MethodName := ⟨"LanguageServerModel", "takeName", "(II)V"⟩
abbrev b_Mo_takeName : ByteArray := prog_13_method_48_code
theorem d_Mo_takeName_0 : decode b_Mo_takeName 0 = .ok (.aload_n 0, 1) := by decide +kernel
theorem d_Mo_takeName_1 : decode b_Mo_takeName 1 = .ok (.getfield 29, 3) := by decide +kernel
theorem d_Mo_takeName_4 : decode b_Mo_takeName 4 = .ok (.iload_n 1, 1) := by decide +kernel
theorem d_Mo_takeName_5 : decode b_Mo_takeName 5 = .ok (.iaload, 1) := by decide +kernel
theorem d_Mo_takeName_6 : decode b_Mo_takeName 6 = .ok (.bipush 10, 2) := by decide +kernel
theorem d_Mo_takeName_8 : decode b_Mo_takeName 8 = .ok (.if_icmp .le 7, 3) := by decide +kernel
theorem d_Mo_takeName_11 : decode b_Mo_takeName 11 = .ok (.iconst 1, 1) := by decide +kernel
theorem d_Mo_takeName_12 : decode b_Mo_takeName 12 = .ok (.goto 4, 3) := by decide +kernel
theorem d_Mo_takeName_15 : decode b_Mo_takeName 15 = .ok (.iconst 0, 1) := by decide +kernel
theorem d_Mo_takeName_16 : decode b_Mo_takeName 16 = .ok (.istore_n 3, 1) := by decide +kernel
theorem d_Mo_takeName_17 : decode b_Mo_takeName 17 = .ok (.iload_n 3, 1) := by decide +kernel
theorem d_Mo_takeName_18 : decode b_Mo_takeName 18 = .ok (.ifCond .eq 15, 3) := by decide +kernel
theorem d_Mo_takeName_21 : decode b_Mo_takeName 21 = .ok (.aload_n 0, 1) := by decide +kernel
theorem d_Mo_takeName_22 : decode b_Mo_takeName 22 = .ok (.getfield 65, 3) := by decide +kernel
theorem d_Mo_takeName_25 : decode b_Mo_takeName 25 = .ok (.aload_n 0, 1) := by decide +kernel
theorem d_Mo_takeName_26 : decode b_Mo_takeName 26 = .ok (.getfield 148, 3) := by decide +kernel
theorem d_Mo_takeName_29 : decode b_Mo_takeName 29 = .ok (.iaload, 1) := by decide +kernel
theorem d_Mo_takeName_30 : decode b_Mo_takeName 30 = .ok (.goto 9, 3) := by decide +kernel
theorem d_Mo_takeName_33 : decode b_Mo_takeName 33 = .ok (.aload_n 0, 1) := by decide +kernel
theorem d_Mo_takeName_34 : decode b_Mo_takeName 34 = .ok (.getfield 32, 3) := by decide +kernel
theorem d_Mo_takeName_37 : decode b_Mo_takeName 37 = .ok (.iload_n 1, 1) := by decide +kernel
theorem d_Mo_takeName_38 : decode b_Mo_takeName 38 = .ok (.iaload, 1) := by decide +kernel
theorem d_Mo_takeName_39 : decode b_Mo_takeName 39 = .ok (.istore 4, 2) := by decide +kernel
theorem d_Mo_takeName_41 : decode b_Mo_takeName 41 = .ok (.iload 4, 2) := by decide +kernel
theorem d_Mo_takeName_43 : decode b_Mo_takeName 43 = .ok (.bipush (-2), 2) := by decide +kernel
theorem d_Mo_takeName_45 : decode b_Mo_takeName 45 = .ok (.if_icmp .ne 7, 3) := by decide +kernel
theorem d_Mo_takeName_48 : decode b_Mo_takeName 48 = .ok (.iconst (-1), 1) := by decide +kernel
theorem d_Mo_takeName_49 : decode b_Mo_takeName 49 = .ok (.goto 11, 3) := by decide +kernel
theorem d_Mo_takeName_52 : decode b_Mo_takeName 52 = .ok (.aload_n 0, 1) := by decide +kernel
theorem d_Mo_takeName_53 : decode b_Mo_takeName 53 = .ok (.iload_n 1, 1) := by decide +kernel
theorem d_Mo_takeName_54 : decode b_Mo_takeName 54 = .ok (.iload_n 2, 1) := by decide +kernel
theorem d_Mo_takeName_55 : decode b_Mo_takeName 55 = .ok (.iload 4, 2) := by decide +kernel
theorem d_Mo_takeName_57 : decode b_Mo_takeName 57 = .ok (.invokevirtual 224, 3) := by decide +kernel
theorem d_Mo_takeName_60 : decode b_Mo_takeName 60 = .ok (.istore 5, 2) := by decide +kernel
theorem d_Mo_takeName_62 : decode b_Mo_takeName 62 = .ok (.iload 5, 2) := by decide +kernel
theorem d_Mo_takeName_64 : decode b_Mo_takeName 64 = .ok (.ifCond .ge 26, 3) := by decide +kernel
theorem d_Mo_takeName_67 : decode b_Mo_takeName 67 = .ok (.iload 4, 2) := by decide +kernel
theorem d_Mo_takeName_69 : decode b_Mo_takeName 69 = .ok (.bipush (-2), 2) := by decide +kernel
theorem d_Mo_takeName_71 : decode b_Mo_takeName 71 = .ok (.if_icmp .eq 19, 3) := by decide +kernel
theorem d_Mo_takeName_74 : decode b_Mo_takeName 74 = .ok (.aload_n 0, 1) := by decide +kernel
theorem d_Mo_takeName_75 : decode b_Mo_takeName 75 = .ok (.iload_n 1, 1) := by decide +kernel
theorem d_Mo_takeName_76 : decode b_Mo_takeName 76 = .ok (.iload_n 3, 1) := by decide +kernel
theorem d_Mo_takeName_77 : decode b_Mo_takeName 77 = .ok (.ifCond .eq 8, 3) := by decide +kernel
theorem d_Mo_takeName_80 : decode b_Mo_takeName 80 = .ok (.bipush 7, 2) := by decide +kernel
theorem d_Mo_takeName_82 : decode b_Mo_takeName 82 = .ok (.goto 5, 3) := by decide +kernel
theorem d_Mo_takeName_85 : decode b_Mo_takeName 85 = .ok (.bipush 6, 2) := by decide +kernel
theorem d_Mo_takeName_87 : decode b_Mo_takeName 87 = .ok (.invokevirtual 201, 3) := by decide +kernel
theorem d_Mo_takeName_90 : decode b_Mo_takeName 90 = .ok (.iload 5, 2) := by decide +kernel
theorem d_Mo_takeName_92 : decode b_Mo_takeName 92 = .ok (.ifCond .lt 11, 3) := by decide +kernel
theorem d_Mo_takeName_95 : decode b_Mo_takeName 95 = .ok (.aload_n 0, 1) := by decide +kernel
theorem d_Mo_takeName_96 : decode b_Mo_takeName 96 = .ok (.getfield 50, 3) := by decide +kernel
theorem d_Mo_takeName_99 : decode b_Mo_takeName 99 = .ok (.iload_n 1, 1) := by decide +kernel
theorem d_Mo_takeName_100 : decode b_Mo_takeName 100 = .ok (.iload 5, 2) := by decide +kernel
theorem d_Mo_takeName_102 : decode b_Mo_takeName 102 = .ok (.iastore, 1) := by decide +kernel
theorem d_Mo_takeName_103 : decode b_Mo_takeName 103 = .ok (.iload 5, 2) := by decide +kernel
theorem d_Mo_takeName_105 : decode b_Mo_takeName 105 = .ok (.ifCond .ge 8, 3) := by decide +kernel
theorem d_Mo_takeName_108 : decode b_Mo_takeName 108 = .ok (.bipush (-2), 2) := by decide +kernel
theorem d_Mo_takeName_110 : decode b_Mo_takeName 110 = .ok (.goto 9, 3) := by decide +kernel
theorem d_Mo_takeName_113 : decode b_Mo_takeName 113 = .ok (.aload_n 0, 1) := by decide +kernel
theorem d_Mo_takeName_114 : decode b_Mo_takeName 114 = .ok (.iload 5, 2) := by decide +kernel
theorem d_Mo_takeName_116 : decode b_Mo_takeName 116 = .ok (.invokevirtual 228, 3) := by decide +kernel
theorem d_Mo_takeName_119 : decode b_Mo_takeName 119 = .ok (.istore 6, 2) := by decide +kernel
theorem d_Mo_takeName_121 : decode b_Mo_takeName 121 = .ok (.aload_n 0, 1) := by decide +kernel
theorem d_Mo_takeName_122 : decode b_Mo_takeName 122 = .ok (.getfield 29, 3) := by decide +kernel
theorem d_Mo_takeName_125 : decode b_Mo_takeName 125 = .ok (.iload_n 1, 1) := by decide +kernel
theorem d_Mo_takeName_126 : decode b_Mo_takeName 126 = .ok (.iaload, 1) := by decide +kernel
theorem d_Mo_takeName_127 : decode b_Mo_takeName 127 = .ok (.bipush 9, 2) := by decide +kernel
theorem d_Mo_takeName_129 : decode b_Mo_takeName 129 = .ok (.if_icmp .eq 14, 3) := by decide +kernel
theorem d_Mo_takeName_132 : decode b_Mo_takeName 132 = .ok (.aload_n 0, 1) := by decide +kernel
theorem d_Mo_takeName_133 : decode b_Mo_takeName 133 = .ok (.getfield 29, 3) := by decide +kernel
theorem d_Mo_takeName_136 : decode b_Mo_takeName 136 = .ok (.iload_n 1, 1) := by decide +kernel
theorem d_Mo_takeName_137 : decode b_Mo_takeName 137 = .ok (.iaload, 1) := by decide +kernel
theorem d_Mo_takeName_138 : decode b_Mo_takeName 138 = .ok (.bipush 11, 2) := by decide +kernel
theorem d_Mo_takeName_140 : decode b_Mo_takeName 140 = .ok (.if_icmp .ne 15, 3) := by decide +kernel
theorem d_Mo_takeName_143 : decode b_Mo_takeName 143 = .ok (.aload_n 0, 1) := by decide +kernel
theorem d_Mo_takeName_144 : decode b_Mo_takeName 144 = .ok (.getfield 65, 3) := by decide +kernel
theorem d_Mo_takeName_147 : decode b_Mo_takeName 147 = .ok (.aload_n 0, 1) := by decide +kernel
theorem d_Mo_takeName_148 : decode b_Mo_takeName 148 = .ok (.getfield 148, 3) := by decide +kernel
theorem d_Mo_takeName_151 : decode b_Mo_takeName 151 = .ok (.iload 6, 2) := by decide +kernel
theorem d_Mo_takeName_153 : decode b_Mo_takeName 153 = .ok (.iastore, 1) := by decide +kernel
theorem d_Mo_takeName_154 : decode b_Mo_takeName 154 = .ok (.return_, 1) := by decide +kernel
theorem d_Mo_takeName_155 : decode b_Mo_takeName 155 = .ok (.aload_n 0, 1) := by decide +kernel
theorem d_Mo_takeName_156 : decode b_Mo_takeName 156 = .ok (.iload_n 1, 1) := by decide +kernel
theorem d_Mo_takeName_157 : decode b_Mo_takeName 157 = .ok (.iconst 1, 1) := by decide +kernel
theorem d_Mo_takeName_158 : decode b_Mo_takeName 158 = .ok (.iadd, 1) := by decide +kernel
theorem d_Mo_takeName_159 : decode b_Mo_takeName 159 = .ok (.invokevirtual 231, 3) := by decide +kernel
theorem d_Mo_takeName_162 : decode b_Mo_takeName 162 = .ok (.istore 7, 2) := by decide +kernel
theorem d_Mo_takeName_164 : decode b_Mo_takeName 164 = .ok (.iload 5, 2) := by decide +kernel
theorem d_Mo_takeName_166 : decode b_Mo_takeName 166 = .ok (.ifCond .lt 18, 3) := by decide +kernel
theorem d_Mo_takeName_169 : decode b_Mo_takeName 169 = .ok (.aload_n 0, 1) := by decide +kernel
theorem d_Mo_takeName_170 : decode b_Mo_takeName 170 = .ok (.iload 5, 2) := by decide +kernel
theorem d_Mo_takeName_172 : decode b_Mo_takeName 172 = .ok (.invokevirtual 234, 3) := by decide +kernel
theorem d_Mo_takeName_175 : decode b_Mo_takeName 175 = .ok (.iload 7, 2) := by decide +kernel
theorem d_Mo_takeName_177 : decode b_Mo_takeName 177 = .ok (.if_icmp .ne 7, 3) := by decide +kernel
theorem d_Mo_takeName_180 : decode b_Mo_takeName 180 = .ok (.iconst 1, 1) := by decide +kernel
theorem d_Mo_takeName_181 : decode b_Mo_takeName 181 = .ok (.goto 4, 3) := by decide +kernel
theorem d_Mo_takeName_184 : decode b_Mo_takeName 184 = .ok (.iconst 0, 1) := by decide +kernel
theorem d_Mo_takeName_185 : decode b_Mo_takeName 185 = .ok (.istore 8, 2) := by decide +kernel
theorem d_Mo_takeName_187 : decode b_Mo_takeName 187 = .ok (.iload 5, 2) := by decide +kernel
theorem d_Mo_takeName_189 : decode b_Mo_takeName 189 = .ok (.ifCond .lt 15, 3) := by decide +kernel
theorem d_Mo_takeName_192 : decode b_Mo_takeName 192 = .ok (.iload 8, 2) := by decide +kernel
theorem d_Mo_takeName_194 : decode b_Mo_takeName 194 = .ok (.ifCond .ne 10, 3) := by decide +kernel
theorem d_Mo_takeName_197 : decode b_Mo_takeName 197 = .ok (.aload_n 0, 1) := by decide +kernel
theorem d_Mo_takeName_198 : decode b_Mo_takeName 198 = .ok (.iload_n 1, 1) := by decide +kernel
theorem d_Mo_takeName_199 : decode b_Mo_takeName 199 = .ok (.bipush 8, 2) := by decide +kernel
theorem d_Mo_takeName_201 : decode b_Mo_takeName 201 = .ok (.invokevirtual 201, 3) := by decide +kernel
theorem d_Mo_takeName_204 : decode b_Mo_takeName 204 = .ok (.aload_n 0, 1) := by decide +kernel
theorem d_Mo_takeName_205 : decode b_Mo_takeName 205 = .ok (.getfield 65, 3) := by decide +kernel
theorem d_Mo_takeName_208 : decode b_Mo_takeName 208 = .ok (.aload_n 0, 1) := by decide +kernel
theorem d_Mo_takeName_209 : decode b_Mo_takeName 209 = .ok (.getfield 148, 3) := by decide +kernel
theorem d_Mo_takeName_212 : decode b_Mo_takeName 212 = .ok (.iload 6, 2) := by decide +kernel
theorem d_Mo_takeName_214 : decode b_Mo_takeName 214 = .ok (.iastore, 1) := by decide +kernel
theorem d_Mo_takeName_215 : decode b_Mo_takeName 215 = .ok (.iload 7, 2) := by decide +kernel
theorem d_Mo_takeName_217 : decode b_Mo_takeName 217 = .ok (.ifCond .ne 4, 3) := by decide +kernel
theorem d_Mo_takeName_220 : decode b_Mo_takeName 220 = .ok (.return_, 1) := by decide +kernel
theorem d_Mo_takeName_221 : decode b_Mo_takeName 221 = .ok (.aload_n 0, 1) := by decide +kernel
theorem d_Mo_takeName_222 : decode b_Mo_takeName 222 = .ok (.dup, 1) := by decide +kernel
theorem d_Mo_takeName_223 : decode b_Mo_takeName 223 = .ok (.getfield 148, 3) := by decide +kernel
theorem d_Mo_takeName_226 : decode b_Mo_takeName 226 = .ok (.iconst 1, 1) := by decide +kernel
theorem d_Mo_takeName_227 : decode b_Mo_takeName 227 = .ok (.iadd, 1) := by decide +kernel
theorem d_Mo_takeName_228 : decode b_Mo_takeName 228 = .ok (.putfield 148, 3) := by decide +kernel
theorem d_Mo_takeName_231 : decode b_Mo_takeName 231 = .ok (.aload_n 0, 1) := by decide +kernel
theorem d_Mo_takeName_232 : decode b_Mo_takeName 232 = .ok (.getfield 56, 3) := by decide +kernel
theorem d_Mo_takeName_235 : decode b_Mo_takeName 235 = .ok (.aload_n 0, 1) := by decide +kernel
theorem d_Mo_takeName_236 : decode b_Mo_takeName 236 = .ok (.getfield 148, 3) := by decide +kernel
theorem d_Mo_takeName_239 : decode b_Mo_takeName 239 = .ok (.iconst 1, 1) := by decide +kernel
theorem d_Mo_takeName_240 : decode b_Mo_takeName 240 = .ok (.iastore, 1) := by decide +kernel
theorem d_Mo_takeName_241 : decode b_Mo_takeName 241 = .ok (.aload_n 0, 1) := by decide +kernel
theorem d_Mo_takeName_242 : decode b_Mo_takeName 242 = .ok (.getfield 72, 3) := by decide +kernel
theorem d_Mo_takeName_245 : decode b_Mo_takeName 245 = .ok (.aload_n 0, 1) := by decide +kernel
theorem d_Mo_takeName_246 : decode b_Mo_takeName 246 = .ok (.getfield 148, 3) := by decide +kernel
theorem d_Mo_takeName_249 : decode b_Mo_takeName 249 = .ok (.iconst 0, 1) := by decide +kernel
theorem d_Mo_takeName_250 : decode b_Mo_takeName 250 = .ok (.iastore, 1) := by decide +kernel
theorem d_Mo_takeName_251 : decode b_Mo_takeName 251 = .ok (.aload_n 0, 1) := by decide +kernel
theorem d_Mo_takeName_252 : decode b_Mo_takeName 252 = .ok (.getfield 78, 3) := by decide +kernel
theorem d_Mo_takeName_255 : decode b_Mo_takeName 255 = .ok (.aload_n 0, 1) := by decide +kernel
theorem d_Mo_takeName_256 : decode b_Mo_takeName 256 = .ok (.getfield 148, 3) := by decide +kernel
theorem d_Mo_takeName_259 : decode b_Mo_takeName 259 = .ok (.iload 8, 2) := by decide +kernel
theorem d_Mo_takeName_261 : decode b_Mo_takeName 261 = .ok (.ifCond .eq 8, 3) := by decide +kernel
theorem d_Mo_takeName_264 : decode b_Mo_takeName 264 = .ok (.iload 5, 2) := by decide +kernel
theorem d_Mo_takeName_266 : decode b_Mo_takeName 266 = .ok (.goto 4, 3) := by decide +kernel
theorem d_Mo_takeName_269 : decode b_Mo_takeName 269 = .ok (.iconst (-1), 1) := by decide +kernel
theorem d_Mo_takeName_270 : decode b_Mo_takeName 270 = .ok (.iastore, 1) := by decide +kernel
theorem d_Mo_takeName_271 : decode b_Mo_takeName 271 = .ok (.aload_n 0, 1) := by decide +kernel
theorem d_Mo_takeName_272 : decode b_Mo_takeName 272 = .ok (.iload_n 1, 1) := by decide +kernel
theorem d_Mo_takeName_273 : decode b_Mo_takeName 273 = .ok (.iconst 2, 1) := by decide +kernel
theorem d_Mo_takeName_274 : decode b_Mo_takeName 274 = .ok (.iadd, 1) := by decide +kernel
theorem d_Mo_takeName_275 : decode b_Mo_takeName 275 = .ok (.invokevirtual 237, 3) := by decide +kernel
theorem d_Mo_takeName_278 : decode b_Mo_takeName 278 = .ok (.return_, 1) := by decide +kernel
abbrev y_Mo_over : MethodName := ⟨"LanguageServerModel", "over", "()I"⟩
abbrev b_Mo_over : ByteArray := prog_13_method_49_code
theorem d_Mo_over_0 : decode b_Mo_over 0 = .ok (.aload_n 0, 1) := by decide +kernel
theorem d_Mo_over_1 : decode b_Mo_over 1 = .ok (.getfield 68, 3) := by decide +kernel
theorem d_Mo_over_4 : decode b_Mo_over 4 = .ok (.aload_n 0, 1) := by decide +kernel
theorem d_Mo_over_5 : decode b_Mo_over 5 = .ok (.getfield 148, 3) := by decide +kernel
theorem d_Mo_over_8 : decode b_Mo_over 8 = .ok (.baload, 1) := by decide +kernel
theorem d_Mo_over_9 : decode b_Mo_over 9 = .ok (.ifCond .eq 26, 3) := by decide +kernel
theorem d_Mo_over_12 : decode b_Mo_over 12 = .ok (.aload_n 0, 1) := by decide +kernel
theorem d_Mo_over_13 : decode b_Mo_over 13 = .ok (.aload_n 0, 1) := by decide +kernel
theorem d_Mo_over_14 : decode b_Mo_over 14 = .ok (.getfield 65, 3) := by decide +kernel
theorem d_Mo_over_17 : decode b_Mo_over 17 = .ok (.aload_n 0, 1) := by decide +kernel
theorem d_Mo_over_18 : decode b_Mo_over 18 = .ok (.getfield 148, 3) := by decide +kernel
theorem d_Mo_over_21 : decode b_Mo_over 21 = .ok (.iaload, 1) := by decide +kernel
theorem d_Mo_over_22 : decode b_Mo_over 22 = .ok (.iconst (-1), 1) := by decide +kernel
theorem d_Mo_over_23 : decode b_Mo_over 23 = .ok (.aload_n 0, 1) := by decide +kernel
theorem d_Mo_over_24 : decode b_Mo_over 24 = .ok (.getfield 62, 3) := by decide +kernel
theorem d_Mo_over_27 : decode b_Mo_over 27 = .ok (.aload_n 0, 1) := by decide +kernel
theorem d_Mo_over_28 : decode b_Mo_over 28 = .ok (.getfield 148, 3) := by decide +kernel
theorem d_Mo_over_31 : decode b_Mo_over 31 = .ok (.iaload, 1) := by decide +kernel
theorem d_Mo_over_32 : decode b_Mo_over 32 = .ok (.invokevirtual 240, 3) := by decide +kernel
theorem d_Mo_over_35 : decode b_Mo_over 35 = .ok (.aload_n 0, 1) := by decide +kernel
theorem d_Mo_over_36 : decode b_Mo_over 36 = .ok (.getfield 68, 3) := by decide +kernel
theorem d_Mo_over_39 : decode b_Mo_over 39 = .ok (.aload_n 0, 1) := by decide +kernel
theorem d_Mo_over_40 : decode b_Mo_over 40 = .ok (.getfield 148, 3) := by decide +kernel
theorem d_Mo_over_43 : decode b_Mo_over 43 = .ok (.baload, 1) := by decide +kernel
theorem d_Mo_over_44 : decode b_Mo_over 44 = .ok (.ifCond .eq 7, 3) := by decide +kernel
theorem d_Mo_over_47 : decode b_Mo_over 47 = .ok (.iconst (-1), 1) := by decide +kernel
theorem d_Mo_over_48 : decode b_Mo_over 48 = .ok (.goto 12, 3) := by decide +kernel
theorem d_Mo_over_51 : decode b_Mo_over 51 = .ok (.aload_n 0, 1) := by decide +kernel
theorem d_Mo_over_52 : decode b_Mo_over 52 = .ok (.getfield 65, 3) := by decide +kernel
theorem d_Mo_over_55 : decode b_Mo_over 55 = .ok (.aload_n 0, 1) := by decide +kernel
theorem d_Mo_over_56 : decode b_Mo_over 56 = .ok (.getfield 148, 3) := by decide +kernel
theorem d_Mo_over_59 : decode b_Mo_over 59 = .ok (.iaload, 1) := by decide +kernel
theorem d_Mo_over_60 : decode b_Mo_over 60 = .ok (.ireturn, 1) := by decide +kernel
