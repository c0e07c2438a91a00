abbrev y_Tokens_skipBlanks : MethodName := ⟨"LanguageServer$Tokens", "skipBlanks", "(LLanguageServer$Text;I)I"⟩
abbrev b_Tokens_skipBlanks : ByteArray := prog_11_method_3_code
theorem d_Tokens_skipBlanks_0 : decode b_Tokens_skipBlanks 0 = .ok (.iload_n 1, 1) := by decide +kernel
theorem d_Tokens_skipBlanks_1 : decode b_Tokens_skipBlanks 1 = .ok (.istore_n 2, 1) := by decide +kernel
theorem d_Tokens_skipBlanks_2 : decode b_Tokens_skipBlanks 2 = .ok (.iload_n 2, 1) := by decide +kernel
theorem d_Tokens_skipBlanks_3 : decode b_Tokens_skipBlanks 3 = .ok (.aload_n 0, 1) := by decide +kernel
theorem d_Tokens_skipBlanks_4 : decode b_Tokens_skipBlanks 4 = .ok (.getfield 33, 3) := by decide +kernel
theorem d_Tokens_skipBlanks_7 : decode b_Tokens_skipBlanks 7 = .ok (.if_icmp .ge 22, 3) := by decide +kernel
theorem d_Tokens_skipBlanks_10 : decode b_Tokens_skipBlanks 10 = .ok (.aload_n 0, 1) := by decide +kernel
theorem d_Tokens_skipBlanks_11 : decode b_Tokens_skipBlanks 11 = .ok (.getfield 45, 3) := by decide +kernel
theorem d_Tokens_skipBlanks_14 : decode b_Tokens_skipBlanks 14 = .ok (.iload_n 2, 1) := by decide +kernel
theorem d_Tokens_skipBlanks_15 : decode b_Tokens_skipBlanks 15 = .ok (.iaload, 1) := by decide +kernel
theorem d_Tokens_skipBlanks_16 : decode b_Tokens_skipBlanks 16 = .ok (.bipush 32, 2) := by decide +kernel
theorem d_Tokens_skipBlanks_18 : decode b_Tokens_skipBlanks 18 = .ok (.if_icmp .eq 5, 3) := by decide +kernel
theorem d_Tokens_skipBlanks_21 : decode b_Tokens_skipBlanks 21 = .ok (.iload_n 2, 1) := by decide +kernel
theorem d_Tokens_skipBlanks_22 : decode b_Tokens_skipBlanks 22 = .ok (.ireturn, 1) := by decide +kernel
theorem d_Tokens_skipBlanks_23 : decode b_Tokens_skipBlanks 23 = .ok (.iinc 2 1, 3) := by decide +kernel
theorem d_Tokens_skipBlanks_26 : decode b_Tokens_skipBlanks 26 = .ok (.goto (-24), 3) := by decide +kernel
theorem d_Tokens_skipBlanks_29 : decode b_Tokens_skipBlanks 29 = .ok (.aload_n 0, 1) := by decide +kernel
theorem d_Tokens_skipBlanks_30 : decode b_Tokens_skipBlanks 30 = .ok (.getfield 33, 3) := by decide +kernel
theorem d_Tokens_skipBlanks_33 : decode b_Tokens_skipBlanks 33 = .ok (.ireturn, 1) := by decide +kernel
abbrev y_Tokens_endOfToken : MethodName := ⟨"LanguageServer$Tokens", "endOfToken", "(LLanguageServer$Text;I)I"⟩
abbrev b_Tokens_endOfToken : ByteArray := prog_11_method_4_code
theorem d_Tokens_endOfToken_0 : decode b_Tokens_endOfToken 0 = .ok (.aload_n 0, 1) := by decide +kernel
theorem d_Tokens_endOfToken_1 : decode b_Tokens_endOfToken 1 = .ok (.getfield 45, 3) := by decide +kernel
theorem d_Tokens_endOfToken_4 : decode b_Tokens_endOfToken 4 = .ok (.iload_n 1, 1) := by decide +kernel
theorem d_Tokens_endOfToken_5 : decode b_Tokens_endOfToken 5 = .ok (.iaload, 1) := by decide +kernel
theorem d_Tokens_endOfToken_6 : decode b_Tokens_endOfToken 6 = .ok (.invokestatic 54, 3) := by decide +kernel
theorem d_Tokens_endOfToken_9 : decode b_Tokens_endOfToken 9 = .ok (.istore_n 2, 1) := by decide +kernel
theorem d_Tokens_endOfToken_10 : decode b_Tokens_endOfToken 10 = .ok (.iload_n 2, 1) := by decide +kernel
theorem d_Tokens_endOfToken_11 : decode b_Tokens_endOfToken 11 = .ok (.ifCond .ne 19, 3) := by decide +kernel
theorem d_Tokens_endOfToken_14 : decode b_Tokens_endOfToken 14 = .ok (.aload_n 0, 1) := by decide +kernel
theorem d_Tokens_endOfToken_15 : decode b_Tokens_endOfToken 15 = .ok (.getfield 45, 3) := by decide +kernel
theorem d_Tokens_endOfToken_18 : decode b_Tokens_endOfToken 18 = .ok (.iload_n 1, 1) := by decide +kernel
theorem d_Tokens_endOfToken_19 : decode b_Tokens_endOfToken 19 = .ok (.iaload, 1) := by decide +kernel
theorem d_Tokens_endOfToken_20 : decode b_Tokens_endOfToken 20 = .ok (.invokestatic 58, 3) := by decide +kernel
theorem d_Tokens_endOfToken_23 : decode b_Tokens_endOfToken 23 = .ok (.ifCond .ne 7, 3) := by decide +kernel
theorem d_Tokens_endOfToken_26 : decode b_Tokens_endOfToken 26 = .ok (.iload_n 1, 1) := by decide +kernel
theorem d_Tokens_endOfToken_27 : decode b_Tokens_endOfToken 27 = .ok (.iconst 1, 1) := by decide +kernel
theorem d_Tokens_endOfToken_28 : decode b_Tokens_endOfToken 28 = .ok (.iadd, 1) := by decide +kernel
theorem d_Tokens_endOfToken_29 : decode b_Tokens_endOfToken 29 = .ok (.ireturn, 1) := by decide +kernel
theorem d_Tokens_endOfToken_30 : decode b_Tokens_endOfToken 30 = .ok (.iload_n 1, 1) := by decide +kernel
theorem d_Tokens_endOfToken_31 : decode b_Tokens_endOfToken 31 = .ok (.iconst 1, 1) := by decide +kernel
theorem d_Tokens_endOfToken_32 : decode b_Tokens_endOfToken 32 = .ok (.iadd, 1) := by decide +kernel
theorem d_Tokens_endOfToken_33 : decode b_Tokens_endOfToken 33 = .ok (.istore_n 3, 1) := by decide +kernel
theorem d_Tokens_endOfToken_34 : decode b_Tokens_endOfToken 34 = .ok (.iload_n 3, 1) := by decide +kernel
theorem d_Tokens_endOfToken_35 : decode b_Tokens_endOfToken 35 = .ok (.aload_n 0, 1) := by decide +kernel
theorem d_Tokens_endOfToken_36 : decode b_Tokens_endOfToken 36 = .ok (.getfield 33, 3) := by decide +kernel
theorem d_Tokens_endOfToken_39 : decode b_Tokens_endOfToken 39 = .ok (.if_icmp .ge 39, 3) := by decide +kernel
theorem d_Tokens_endOfToken_42 : decode b_Tokens_endOfToken 42 = .ok (.aload_n 0, 1) := by decide +kernel
theorem d_Tokens_endOfToken_43 : decode b_Tokens_endOfToken 43 = .ok (.getfield 45, 3) := by decide +kernel
theorem d_Tokens_endOfToken_46 : decode b_Tokens_endOfToken 46 = .ok (.iload_n 3, 1) := by decide +kernel
theorem d_Tokens_endOfToken_47 : decode b_Tokens_endOfToken 47 = .ok (.iaload, 1) := by decide +kernel
theorem d_Tokens_endOfToken_48 : decode b_Tokens_endOfToken 48 = .ok (.istore 4, 2) := by decide +kernel
theorem d_Tokens_endOfToken_50 : decode b_Tokens_endOfToken 50 = .ok (.iload 4, 2) := by decide +kernel
theorem d_Tokens_endOfToken_52 : decode b_Tokens_endOfToken 52 = .ok (.invokestatic 58, 3) := by decide +kernel
theorem d_Tokens_endOfToken_55 : decode b_Tokens_endOfToken 55 = .ok (.ifCond .ne 17, 3) := by decide +kernel
theorem d_Tokens_endOfToken_58 : decode b_Tokens_endOfToken 58 = .ok (.iload_n 2, 1) := by decide +kernel
theorem d_Tokens_endOfToken_59 : decode b_Tokens_endOfToken 59 = .ok (.ifCond .eq 11, 3) := by decide +kernel
theorem d_Tokens_endOfToken_62 : decode b_Tokens_endOfToken 62 = .ok (.iload 4, 2) := by decide +kernel
theorem d_Tokens_endOfToken_64 : decode b_Tokens_endOfToken 64 = .ok (.invokestatic 54, 3) := by decide +kernel
theorem d_Tokens_endOfToken_67 : decode b_Tokens_endOfToken 67 = .ok (.ifCond .ne 5, 3) := by decide +kernel
theorem d_Tokens_endOfToken_70 : decode b_Tokens_endOfToken 70 = .ok (.iload_n 3, 1) := by decide +kernel
theorem d_Tokens_endOfToken_71 : decode b_Tokens_endOfToken 71 = .ok (.ireturn, 1) := by decide +kernel
theorem d_Tokens_endOfToken_72 : decode b_Tokens_endOfToken 72 = .ok (.iinc 3 1, 3) := by decide +kernel
theorem d_Tokens_endOfToken_75 : decode b_Tokens_endOfToken 75 = .ok (.goto (-41), 3) := by decide +kernel
theorem d_Tokens_endOfToken_78 : decode b_Tokens_endOfToken 78 = .ok (.aload_n 0, 1) := by decide +kernel
theorem d_Tokens_endOfToken_79 : decode b_Tokens_endOfToken 79 = .ok (.getfield 33, 3) := by decide +kernel
theorem d_Tokens_endOfToken_82 : decode b_Tokens_endOfToken 82 = .ok (.ireturn, 1) := by decide +kernel
abbrev y_Tokens_spell : MethodName := ⟨"LanguageServer$Tokens", "spell", "(LLanguageServer$Text;II)J"⟩
abbrev b_Tokens_spell : ByteArray := prog_11_method_5_code
theorem d_Tokens_spell_0 : decode b_Tokens_spell 0 = .ok (.lconst 0, 1) := by decide +kernel
theorem d_Tokens_spell_1 : decode b_Tokens_spell 1 = .ok (.lstore_n 3, 1) := by decide +kernel
theorem d_Tokens_spell_2 : decode b_Tokens_spell 2 = .ok (.iconst 0, 1) := by decide +kernel
theorem d_Tokens_spell_3 : decode b_Tokens_spell 3 = .ok (.istore 5, 2) := by decide +kernel
theorem d_Tokens_spell_5 : decode b_Tokens_spell 5 = .ok (.iload 5, 2) := by decide +kernel
theorem d_Tokens_spell_7 : decode b_Tokens_spell 7 = .ok (.bipush 8, 2) := by decide +kernel
theorem d_Tokens_spell_9 : decode b_Tokens_spell 9 = .ok (.if_icmp .ge 41, 3) := by decide +kernel
theorem d_Tokens_spell_12 : decode b_Tokens_spell 12 = .ok (.iload_n 1, 1) := by decide +kernel
theorem d_Tokens_spell_13 : decode b_Tokens_spell 13 = .ok (.iload 5, 2) := by decide +kernel
theorem d_Tokens_spell_15 : decode b_Tokens_spell 15 = .ok (.iadd, 1) := by decide +kernel
theorem d_Tokens_spell_16 : decode b_Tokens_spell 16 = .ok (.iload_n 2, 1) := by decide +kernel
theorem d_Tokens_spell_17 : decode b_Tokens_spell 17 = .ok (.if_icmp .ge 15, 3) := by decide +kernel
theorem d_Tokens_spell_20 : decode b_Tokens_spell 20 = .ok (.aload_n 0, 1) := by decide +kernel
theorem d_Tokens_spell_21 : decode b_Tokens_spell 21 = .ok (.getfield 45, 3) := by decide +kernel
theorem d_Tokens_spell_24 : decode b_Tokens_spell 24 = .ok (.iload_n 1, 1) := by decide +kernel
theorem d_Tokens_spell_25 : decode b_Tokens_spell 25 = .ok (.iload 5, 2) := by decide +kernel
theorem d_Tokens_spell_27 : decode b_Tokens_spell 27 = .ok (.iadd, 1) := by decide +kernel
theorem d_Tokens_spell_28 : decode b_Tokens_spell 28 = .ok (.iaload, 1) := by decide +kernel
theorem d_Tokens_spell_29 : decode b_Tokens_spell 29 = .ok (.goto 4, 3) := by decide +kernel
theorem d_Tokens_spell_32 : decode b_Tokens_spell 32 = .ok (.iconst 0, 1) := by decide +kernel
theorem d_Tokens_spell_33 : decode b_Tokens_spell 33 = .ok (.istore 6, 2) := by decide +kernel
theorem d_Tokens_spell_35 : decode b_Tokens_spell 35 = .ok (.lload_n 3, 1) := by decide +kernel
theorem d_Tokens_spell_36 : decode b_Tokens_spell 36 = .ok (.bipush 8, 2) := by decide +kernel
theorem d_Tokens_spell_38 : decode b_Tokens_spell 38 = .ok (.lshl, 1) := by decide +kernel
theorem d_Tokens_spell_39 : decode b_Tokens_spell 39 = .ok (.iload 6, 2) := by decide +kernel
theorem d_Tokens_spell_41 : decode b_Tokens_spell 41 = .ok (.i2l, 1) := by decide +kernel
theorem d_Tokens_spell_42 : decode b_Tokens_spell 42 = .ok (.lor, 1) := by decide +kernel
theorem d_Tokens_spell_43 : decode b_Tokens_spell 43 = .ok (.lstore_n 3, 1) := by decide +kernel
theorem d_Tokens_spell_44 : decode b_Tokens_spell 44 = .ok (.iinc 5 1, 3) := by decide +kernel
theorem d_Tokens_spell_47 : decode b_Tokens_spell 47 = .ok (.goto (-42), 3) := by decide +kernel
theorem d_Tokens_spell_50 : decode b_Tokens_spell 50 = .ok (.lload_n 3, 1) := by decide +kernel
theorem d_Tokens_spell_51 : decode b_Tokens_spell 51 = .ok (.lreturn, 1) := by decide +kernel
abbrev y_Tokens_sortOf : MethodName := ⟨"LanguageServer$Tokens", "sortOf", "(II)I"⟩
abbrev b_Tokens_sortOf : ByteArray := prog_11_method_6_code
theorem d_Tokens_sortOf_0 : decode b_Tokens_sortOf 0 = .ok (.aload_n 0, 1) := by decide +kernel
theorem d_Tokens_sortOf_1 : decode b_Tokens_sortOf 1 = .ok (.getfield 15, 3) := by decide +kernel
theorem d_Tokens_sortOf_4 : decode b_Tokens_sortOf 4 = .ok (.iload_n 2, 1) := by decide +kernel
theorem d_Tokens_sortOf_5 : decode b_Tokens_sortOf 5 = .ok (.iaload, 1) := by decide +kernel
theorem d_Tokens_sortOf_6 : decode b_Tokens_sortOf 6 = .ok (.aload_n 0, 1) := by decide +kernel
theorem d_Tokens_sortOf_7 : decode b_Tokens_sortOf 7 = .ok (.getfield 11, 3) := by decide +kernel
theorem d_Tokens_sortOf_10 : decode b_Tokens_sortOf 10 = .ok (.iload_n 2, 1) := by decide +kernel
theorem d_Tokens_sortOf_11 : decode b_Tokens_sortOf 11 = .ok (.iaload, 1) := by decide +kernel
theorem d_Tokens_sortOf_12 : decode b_Tokens_sortOf 12 = .ok (.isub, 1) := by decide +kernel
theorem d_Tokens_sortOf_13 : decode b_Tokens_sortOf 13 = .ok (.istore_n 3, 1) := by decide +kernel
theorem d_Tokens_sortOf_14 : decode b_Tokens_sortOf 14 = .ok (.iload_n 1, 1) := by decide +kernel
theorem d_Tokens_sortOf_15 : decode b_Tokens_sortOf 15 = .ok (.invokestatic 54, 3) := by decide +kernel
theorem d_Tokens_sortOf_18 : decode b_Tokens_sortOf 18 = .ok (.ifCond .eq 23, 3) := by decide +kernel
theorem d_Tokens_sortOf_21 : decode b_Tokens_sortOf 21 = .ok (.iload_n 3, 1) := by decide +kernel
theorem d_Tokens_sortOf_22 : decode b_Tokens_sortOf 22 = .ok (.bipush 8, 2) := by decide +kernel
theorem d_Tokens_sortOf_24 : decode b_Tokens_sortOf 24 = .ok (.if_icmp .le 7, 3) := by decide +kernel
theorem d_Tokens_sortOf_27 : decode b_Tokens_sortOf 27 = .ok (.iconst 0, 1) := by decide +kernel
theorem d_Tokens_sortOf_28 : decode b_Tokens_sortOf 28 = .ok (.goto 12, 3) := by decide +kernel
theorem d_Tokens_sortOf_31 : decode b_Tokens_sortOf 31 = .ok (.aload_n 0, 1) := by decide +kernel
theorem d_Tokens_sortOf_32 : decode b_Tokens_sortOf 32 = .ok (.getfield 21, 3) := by decide +kernel
theorem d_Tokens_sortOf_35 : decode b_Tokens_sortOf 35 = .ok (.iload_n 2, 1) := by decide +kernel
theorem d_Tokens_sortOf_36 : decode b_Tokens_sortOf 36 = .ok (.laload, 1) := by decide +kernel
theorem d_Tokens_sortOf_37 : decode b_Tokens_sortOf 37 = .ok (.invokestatic 61, 3) := by decide +kernel
theorem d_Tokens_sortOf_40 : decode b_Tokens_sortOf 40 = .ok (.ireturn, 1) := by decide +kernel
theorem d_Tokens_sortOf_41 : decode b_Tokens_sortOf 41 = .ok (.iload_n 1, 1) := by decide +kernel
theorem d_Tokens_sortOf_42 : decode b_Tokens_sortOf 42 = .ok (.invokestatic 58, 3) := by decide +kernel
theorem d_Tokens_sortOf_45 : decode b_Tokens_sortOf 45 = .ok (.ifCond .eq 15, 3) := by decide +kernel
theorem d_Tokens_sortOf_48 : decode b_Tokens_sortOf 48 = .ok (.iload_n 3, 1) := by decide +kernel
theorem d_Tokens_sortOf_49 : decode b_Tokens_sortOf 49 = .ok (.bipush 6, 2) := by decide +kernel
theorem d_Tokens_sortOf_51 : decode b_Tokens_sortOf 51 = .ok (.if_icmp .le 7, 3) := by decide +kernel
theorem d_Tokens_sortOf_54 : decode b_Tokens_sortOf 54 = .ok (.iconst 0, 1) := by decide +kernel
theorem d_Tokens_sortOf_55 : decode b_Tokens_sortOf 55 = .ok (.goto 4, 3) := by decide +kernel
theorem d_Tokens_sortOf_58 : decode b_Tokens_sortOf 58 = .ok (.iconst 2, 1) := by decide +kernel
theorem d_Tokens_sortOf_59 : decode b_Tokens_sortOf 59 = .ok (.ireturn, 1) := by decide +kernel
theorem d_Tokens_sortOf_60 : decode b_Tokens_sortOf 60 = .ok (.iload_n 1, 1) := by decide +kernel
theorem d_Tokens_sortOf_61 : decode b_Tokens_sortOf 61 = .ok (.invokestatic 65, 3) := by decide +kernel
theorem d_Tokens_sortOf_64 : decode b_Tokens_sortOf 64 = .ok (.ifCond .eq 7, 3) := by decide +kernel
theorem d_Tokens_sortOf_67 : decode b_Tokens_sortOf 67 = .ok (.iload_n 1, 1) := by decide +kernel
theorem d_Tokens_sortOf_68 : decode b_Tokens_sortOf 68 = .ok (.goto 4, 3) := by decide +kernel
theorem d_Tokens_sortOf_71 : decode b_Tokens_sortOf 71 = .ok (.iconst 0, 1) := by decide +kernel
theorem d_Tokens_sortOf_72 : decode b_Tokens_sortOf 72 = .ok (.ireturn, 1) := by decide +kernel
abbrev y_Tokens_cut : MethodName := ⟨"LanguageServer$Tokens", "cut", "(LLanguageServer$Text;)V"⟩
abbrev b_Tokens_cut : ByteArray := prog_11_method_2_code
theorem d_Tokens_cut_0 : decode b_Tokens_cut 0 = .ok (.aload_n 0, 1) := by decide +kernel
theorem d_Tokens_cut_1 : decode b_Tokens_cut 1 = .ok (.iconst 0, 1) := by decide +kernel
theorem d_Tokens_cut_2 : decode b_Tokens_cut 2 = .ok (.putfield 25, 3) := by decide +kernel
theorem d_Tokens_cut_5 : decode b_Tokens_cut 5 = .ok (.iconst 0, 1) := by decide +kernel
theorem d_Tokens_cut_6 : decode b_Tokens_cut 6 = .ok (.istore_n 2, 1) := by decide +kernel
theorem d_Tokens_cut_7 : decode b_Tokens_cut 7 = .ok (.iconst 0, 1) := by decide +kernel
theorem d_Tokens_cut_8 : decode b_Tokens_cut 8 = .ok (.istore_n 3, 1) := by decide +kernel
theorem d_Tokens_cut_9 : decode b_Tokens_cut 9 = .ok (.iload_n 3, 1) := by decide +kernel
theorem d_Tokens_cut_10 : decode b_Tokens_cut 10 = .ok (.bipush 121, 2) := by decide +kernel
theorem d_Tokens_cut_12 : decode b_Tokens_cut 12 = .ok (.if_icmp .ge 110, 3) := by decide +kernel
theorem d_Tokens_cut_15 : decode b_Tokens_cut 15 = .ok (.aload_n 1, 1) := by decide +kernel
theorem d_Tokens_cut_16 : decode b_Tokens_cut 16 = .ok (.iload_n 2, 1) := by decide +kernel
theorem d_Tokens_cut_17 : decode b_Tokens_cut 17 = .ok (.invokestatic 29, 3) := by decide +kernel
theorem d_Tokens_cut_20 : decode b_Tokens_cut 20 = .ok (.istore_n 2, 1) := by decide +kernel
theorem d_Tokens_cut_21 : decode b_Tokens_cut 21 = .ok (.iload_n 2, 1) := by decide +kernel
theorem d_Tokens_cut_22 : decode b_Tokens_cut 22 = .ok (.aload_n 1, 1) := by decide +kernel
theorem d_Tokens_cut_23 : decode b_Tokens_cut 23 = .ok (.getfield 33, 3) := by decide +kernel
theorem d_Tokens_cut_26 : decode b_Tokens_cut 26 = .ok (.if_icmp .lt 4, 3) := by decide +kernel
theorem d_Tokens_cut_29 : decode b_Tokens_cut 29 = .ok (.return_, 1) := by decide +kernel
theorem d_Tokens_cut_30 : decode b_Tokens_cut 30 = .ok (.aload_n 0, 1) := by decide +kernel
theorem d_Tokens_cut_31 : decode b_Tokens_cut 31 = .ok (.getfield 11, 3) := by decide +kernel
theorem d_Tokens_cut_34 : decode b_Tokens_cut 34 = .ok (.iload_n 3, 1) := by decide +kernel
theorem d_Tokens_cut_35 : decode b_Tokens_cut 35 = .ok (.iload_n 2, 1) := by decide +kernel
theorem d_Tokens_cut_36 : decode b_Tokens_cut 36 = .ok (.iastore, 1) := by decide +kernel
theorem d_Tokens_cut_37 : decode b_Tokens_cut 37 = .ok (.aload_n 0, 1) := by decide +kernel
theorem d_Tokens_cut_38 : decode b_Tokens_cut 38 = .ok (.getfield 15, 3) := by decide +kernel
theorem d_Tokens_cut_41 : decode b_Tokens_cut 41 = .ok (.iload_n 3, 1) := by decide +kernel
theorem d_Tokens_cut_42 : decode b_Tokens_cut 42 = .ok (.aload_n 1, 1) := by decide +kernel
theorem d_Tokens_cut_43 : decode b_Tokens_cut 43 = .ok (.iload_n 2, 1) := by decide +kernel
theorem d_Tokens_cut_44 : decode b_Tokens_cut 44 = .ok (.invokestatic 38, 3) := by decide +kernel
theorem d_Tokens_cut_47 : decode b_Tokens_cut 47 = .ok (.iastore, 1) := by decide +kernel
theorem d_Tokens_cut_48 : decode b_Tokens_cut 48 = .ok (.aload_n 0, 1) := by decide +kernel
theorem d_Tokens_cut_49 : decode b_Tokens_cut 49 = .ok (.getfield 21, 3) := by decide +kernel
theorem d_Tokens_cut_52 : decode b_Tokens_cut 52 = .ok (.iload_n 3, 1) := by decide +kernel
theorem d_Tokens_cut_53 : decode b_Tokens_cut 53 = .ok (.aload_n 1, 1) := by decide +kernel
theorem d_Tokens_cut_54 : decode b_Tokens_cut 54 = .ok (.iload_n 2, 1) := by decide +kernel
theorem d_Tokens_cut_55 : decode b_Tokens_cut 55 = .ok (.aload_n 0, 1) := by decide +kernel
theorem d_Tokens_cut_56 : decode b_Tokens_cut 56 = .ok (.getfield 15, 3) := by decide +kernel
theorem d_Tokens_cut_59 : decode b_Tokens_cut 59 = .ok (.iload_n 3, 1) := by decide +kernel
theorem d_Tokens_cut_60 : decode b_Tokens_cut 60 = .ok (.iaload, 1) := by decide +kernel
theorem d_Tokens_cut_61 : decode b_Tokens_cut 61 = .ok (.invokestatic 41, 3) := by decide +kernel
theorem d_Tokens_cut_64 : decode b_Tokens_cut 64 = .ok (.lastore, 1) := by decide +kernel
theorem d_Tokens_cut_65 : decode b_Tokens_cut 65 = .ok (.aload_n 0, 1) := by decide +kernel
theorem d_Tokens_cut_66 : decode b_Tokens_cut 66 = .ok (.getfield 18, 3) := by decide +kernel
theorem d_Tokens_cut_69 : decode b_Tokens_cut 69 = .ok (.iload_n 3, 1) := by decide +kernel
theorem d_Tokens_cut_70 : decode b_Tokens_cut 70 = .ok (.iload_n 3, 1) := by decide +kernel
theorem d_Tokens_cut_71 : decode b_Tokens_cut 71 = .ok (.bipush 120, 2) := by decide +kernel
theorem d_Tokens_cut_73 : decode b_Tokens_cut 73 = .ok (.if_icmp .ge 17, 3) := by decide +kernel
theorem d_Tokens_cut_76 : decode b_Tokens_cut 76 = .ok (.aload_n 0, 1) := by decide +kernel
theorem d_Tokens_cut_77 : decode b_Tokens_cut 77 = .ok (.aload_n 1, 1) := by decide +kernel
theorem d_Tokens_cut_78 : decode b_Tokens_cut 78 = .ok (.getfield 45, 3) := by decide +kernel
theorem d_Tokens_cut_81 : decode b_Tokens_cut 81 = .ok (.iload_n 2, 1) := by decide +kernel
theorem d_Tokens_cut_82 : decode b_Tokens_cut 82 = .ok (.iaload, 1) := by decide +kernel
theorem d_Tokens_cut_83 : decode b_Tokens_cut 83 = .ok (.iload_n 3, 1) := by decide +kernel
theorem d_Tokens_cut_84 : decode b_Tokens_cut 84 = .ok (.invokevirtual 48, 3) := by decide +kernel
theorem d_Tokens_cut_87 : decode b_Tokens_cut 87 = .ok (.goto 4, 3) := by decide +kernel
theorem d_Tokens_cut_90 : decode b_Tokens_cut 90 = .ok (.iconst 0, 1) := by decide +kernel
theorem d_Tokens_cut_91 : decode b_Tokens_cut 91 = .ok (.iastore, 1) := by decide +kernel
theorem d_Tokens_cut_92 : decode b_Tokens_cut 92 = .ok (.aload_n 0, 1) := by decide +kernel
theorem d_Tokens_cut_93 : decode b_Tokens_cut 93 = .ok (.iload_n 3, 1) := by decide +kernel
theorem d_Tokens_cut_94 : decode b_Tokens_cut 94 = .ok (.iconst 1, 1) := by decide +kernel
theorem d_Tokens_cut_95 : decode b_Tokens_cut 95 = .ok (.iadd, 1) := by decide +kernel
theorem d_Tokens_cut_96 : decode b_Tokens_cut 96 = .ok (.putfield 25, 3) := by decide +kernel
theorem d_Tokens_cut_99 : decode b_Tokens_cut 99 = .ok (.aload_n 0, 1) := by decide +kernel
theorem d_Tokens_cut_100 : decode b_Tokens_cut 100 = .ok (.getfield 18, 3) := by decide +kernel
theorem d_Tokens_cut_103 : decode b_Tokens_cut 103 = .ok (.iload_n 3, 1) := by decide +kernel
theorem d_Tokens_cut_104 : decode b_Tokens_cut 104 = .ok (.iaload, 1) := by decide +kernel
theorem d_Tokens_cut_105 : decode b_Tokens_cut 105 = .ok (.ifCond .ne 4, 3) := by decide +kernel
theorem d_Tokens_cut_108 : decode b_Tokens_cut 108 = .ok (.return_, 1) := by decide +kernel
theorem d_Tokens_cut_109 : decode b_Tokens_cut 109 = .ok (.aload_n 0, 1) := by decide +kernel
theorem d_Tokens_cut_110 : decode b_Tokens_cut 110 = .ok (.getfield 15, 3) := by decide +kernel
theorem d_Tokens_cut_113 : decode b_Tokens_cut 113 = .ok (.iload_n 3, 1) := by decide +kernel
theorem d_Tokens_cut_114 : decode b_Tokens_cut 114 = .ok (.iaload, 1) := by decide +kernel
theorem d_Tokens_cut_115 : decode b_Tokens_cut 115 = .ok (.istore_n 2, 1) := by decide +kernel
theorem d_Tokens_cut_116 : decode b_Tokens_cut 116 = .ok (.iinc 3 1, 3) := by decide +kernel
theorem d_Tokens_cut_119 : decode b_Tokens_cut 119 = .ok (.goto (-110), 3) := by decide +kernel
theorem d_Tokens_cut_122 : decode b_Tokens_cut 122 = .ok (.return_, 1) := by decide +kernel
