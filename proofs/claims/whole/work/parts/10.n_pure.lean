abbrev y_LS_isCode : MethodName := ⟨"LanguageServer", "isCode", "(I)Z"⟩
abbrev b_LS_isCode : ByteArray := prog_1_method_17_code
theorem d_LS_isCode_0 : decode b_LS_isCode 0 = .ok (.iload_n 0, 1) := by decide +kernel
theorem d_LS_isCode_1 : decode b_LS_isCode 1 = .ok (.bipush 32, 2) := by decide +kernel
theorem d_LS_isCode_3 : decode b_LS_isCode 3 = .ok (.if_icmp .lt 13, 3) := by decide +kernel
theorem d_LS_isCode_6 : decode b_LS_isCode 6 = .ok (.iload_n 0, 1) := by decide +kernel
theorem d_LS_isCode_7 : decode b_LS_isCode 7 = .ok (.bipush 126, 2) := by decide +kernel
theorem d_LS_isCode_9 : decode b_LS_isCode 9 = .ok (.if_icmp .gt 7, 3) := by decide +kernel
theorem d_LS_isCode_12 : decode b_LS_isCode 12 = .ok (.iconst 1, 1) := by decide +kernel
theorem d_LS_isCode_13 : decode b_LS_isCode 13 = .ok (.goto 4, 3) := by decide +kernel
theorem d_LS_isCode_16 : decode b_LS_isCode 16 = .ok (.iconst 0, 1) := by decide +kernel
theorem d_LS_isCode_17 : decode b_LS_isCode 17 = .ok (.ireturn, 1) := by decide +kernel
abbrev y_LS_byteAt : MethodName := ⟨"LanguageServer", "byteAt", "(JI)I"⟩
abbrev b_LS_byteAt : ByteArray := prog_1_method_19_code
theorem d_LS_byteAt_0 : decode b_LS_byteAt 0 = .ok (.lload_n 0, 1) := by decide +kernel
theorem d_LS_byteAt_1 : decode b_LS_byteAt 1 = .ok (.bipush 8, 2) := by decide +kernel
theorem d_LS_byteAt_3 : decode b_LS_byteAt 3 = .ok (.iload_n 2, 1) := by decide +kernel
theorem d_LS_byteAt_4 : decode b_LS_byteAt 4 = .ok (.imul, 1) := by decide +kernel
theorem d_LS_byteAt_5 : decode b_LS_byteAt 5 = .ok (.lushr, 1) := by decide +kernel
theorem d_LS_byteAt_6 : decode b_LS_byteAt 6 = .ok (.l2i, 1) := by decide +kernel
theorem d_LS_byteAt_7 : decode b_LS_byteAt 7 = .ok (.sipush 255, 3) := by decide +kernel
theorem d_LS_byteAt_10 : decode b_LS_byteAt 10 = .ok (.iand, 1) := by decide +kernel
theorem d_LS_byteAt_11 : decode b_LS_byteAt 11 = .ok (.ireturn, 1) := by decide +kernel
abbrev y_LS_areCodes : MethodName := ⟨"LanguageServer", "areCodes", "(JI)Z"⟩
abbrev b_LS_areCodes : ByteArray := prog_1_method_18_code
theorem d_LS_areCodes_0 : decode b_LS_areCodes 0 = .ok (.iconst 0, 1) := by decide +kernel
theorem d_LS_areCodes_1 : decode b_LS_areCodes 1 = .ok (.istore_n 3, 1) := by decide +kernel
theorem d_LS_areCodes_2 : decode b_LS_areCodes 2 = .ok (.iload_n 3, 1) := by decide +kernel
theorem d_LS_areCodes_3 : decode b_LS_areCodes 3 = .ok (.iload_n 2, 1) := by decide +kernel
theorem d_LS_areCodes_4 : decode b_LS_areCodes 4 = .ok (.if_icmp .ge 22, 3) := by decide +kernel
theorem d_LS_areCodes_7 : decode b_LS_areCodes 7 = .ok (.lload_n 0, 1) := by decide +kernel
theorem d_LS_areCodes_8 : decode b_LS_areCodes 8 = .ok (.iload_n 3, 1) := by decide +kernel
theorem d_LS_areCodes_9 : decode b_LS_areCodes 9 = .ok (.invokestatic 177, 3) := by decide +kernel
theorem d_LS_areCodes_12 : decode b_LS_areCodes 12 = .ok (.invokestatic 29, 3) := by decide +kernel
theorem d_LS_areCodes_15 : decode b_LS_areCodes 15 = .ok (.ifCond .ne 5, 3) := by decide +kernel
theorem d_LS_areCodes_18 : decode b_LS_areCodes 18 = .ok (.iconst 0, 1) := by decide +kernel
theorem d_LS_areCodes_19 : decode b_LS_areCodes 19 = .ok (.ireturn, 1) := by decide +kernel
theorem d_LS_areCodes_20 : decode b_LS_areCodes 20 = .ok (.iinc 3 1, 3) := by decide +kernel
theorem d_LS_areCodes_23 : decode b_LS_areCodes 23 = .ok (.goto (-21), 3) := by decide +kernel
theorem d_LS_areCodes_26 : decode b_LS_areCodes 26 = .ok (.iconst 1, 1) := by decide +kernel
theorem d_LS_areCodes_27 : decode b_LS_areCodes 27 = .ok (.ireturn, 1) := by decide +kernel
abbrev y_Parser_only : MethodName := ⟨"LanguageServer$Parser", "only", "(III)I"⟩
abbrev b_Parser_only : ByteArray := prog_6_method_21_code
theorem d_Parser_only_0 : decode b_Parser_only 0 = .ok (.iload_n 0, 1) := by decide +kernel
theorem d_Parser_only_1 : decode b_Parser_only 1 = .ok (.iload_n 1, 1) := by decide +kernel
theorem d_Parser_only_2 : decode b_Parser_only 2 = .ok (.if_icmp .ne 7, 3) := by decide +kernel
theorem d_Parser_only_5 : decode b_Parser_only 5 = .ok (.iload_n 2, 1) := by decide +kernel
theorem d_Parser_only_6 : decode b_Parser_only 6 = .ok (.goto 4, 3) := by decide +kernel
theorem d_Parser_only_9 : decode b_Parser_only 9 = .ok (.iconst 0, 1) := by decide +kernel
theorem d_Parser_only_10 : decode b_Parser_only 10 = .ok (.ireturn, 1) := by decide +kernel
abbrev y_Tokens_sortOfWord : MethodName := ⟨"LanguageServer$Tokens", "sortOfWord", "(J)I"⟩
abbrev b_Tokens_sortOfWord : ByteArray := prog_11_method_7_code
theorem d_Tokens_sortOfWord_0 : decode b_Tokens_sortOfWord 0 = .ok (.lload_n 0, 1) := by decide +kernel
theorem d_Tokens_sortOfWord_1 : decode b_Tokens_sortOfWord 1 = .ok (.ldc2_w 68, 3) := by decide +kernel
theorem d_Tokens_sortOfWord_4 : decode b_Tokens_sortOfWord 4 = .ok (.lcmp, 1) := by decide +kernel
theorem d_Tokens_sortOfWord_5 : decode b_Tokens_sortOfWord 5 = .ok (.ifCond .ne 5, 3) := by decide +kernel
theorem d_Tokens_sortOfWord_8 : decode b_Tokens_sortOfWord 8 = .ok (.iconst 3, 1) := by decide +kernel
theorem d_Tokens_sortOfWord_9 : decode b_Tokens_sortOfWord 9 = .ok (.ireturn, 1) := by decide +kernel
theorem d_Tokens_sortOfWord_10 : decode b_Tokens_sortOfWord 10 = .ok (.lload_n 0, 1) := by decide +kernel
theorem d_Tokens_sortOfWord_11 : decode b_Tokens_sortOfWord 11 = .ok (.ldc2_w 70, 3) := by decide +kernel
theorem d_Tokens_sortOfWord_14 : decode b_Tokens_sortOfWord 14 = .ok (.lcmp, 1) := by decide +kernel
theorem d_Tokens_sortOfWord_15 : decode b_Tokens_sortOfWord 15 = .ok (.ifCond .ne 5, 3) := by decide +kernel
theorem d_Tokens_sortOfWord_18 : decode b_Tokens_sortOfWord 18 = .ok (.iconst 4, 1) := by decide +kernel
theorem d_Tokens_sortOfWord_19 : decode b_Tokens_sortOfWord 19 = .ok (.ireturn, 1) := by decide +kernel
theorem d_Tokens_sortOfWord_20 : decode b_Tokens_sortOfWord 20 = .ok (.lload_n 0, 1) := by decide +kernel
theorem d_Tokens_sortOfWord_21 : decode b_Tokens_sortOfWord 21 = .ok (.ldc2_w 72, 3) := by decide +kernel
theorem d_Tokens_sortOfWord_24 : decode b_Tokens_sortOfWord 24 = .ok (.lcmp, 1) := by decide +kernel
theorem d_Tokens_sortOfWord_25 : decode b_Tokens_sortOfWord 25 = .ok (.ifCond .ne 5, 3) := by decide +kernel
theorem d_Tokens_sortOfWord_28 : decode b_Tokens_sortOfWord 28 = .ok (.iconst 5, 1) := by decide +kernel
theorem d_Tokens_sortOfWord_29 : decode b_Tokens_sortOfWord 29 = .ok (.ireturn, 1) := by decide +kernel
theorem d_Tokens_sortOfWord_30 : decode b_Tokens_sortOfWord 30 = .ok (.lload_n 0, 1) := by decide +kernel
theorem d_Tokens_sortOfWord_31 : decode b_Tokens_sortOfWord 31 = .ok (.ldc2_w 74, 3) := by decide +kernel
theorem d_Tokens_sortOfWord_34 : decode b_Tokens_sortOfWord 34 = .ok (.lcmp, 1) := by decide +kernel
theorem d_Tokens_sortOfWord_35 : decode b_Tokens_sortOfWord 35 = .ok (.ifCond .ne 6, 3) := by decide +kernel
theorem d_Tokens_sortOfWord_38 : decode b_Tokens_sortOfWord 38 = .ok (.bipush 6, 2) := by decide +kernel
theorem d_Tokens_sortOfWord_40 : decode b_Tokens_sortOfWord 40 = .ok (.ireturn, 1) := by decide +kernel
theorem d_Tokens_sortOfWord_41 : decode b_Tokens_sortOfWord 41 = .ok (.lload_n 0, 1) := by decide +kernel
theorem d_Tokens_sortOfWord_42 : decode b_Tokens_sortOfWord 42 = .ok (.ldc2_w 76, 3) := by decide +kernel
theorem d_Tokens_sortOfWord_45 : decode b_Tokens_sortOfWord 45 = .ok (.lcmp, 1) := by decide +kernel
theorem d_Tokens_sortOfWord_46 : decode b_Tokens_sortOfWord 46 = .ok (.ifCond .ne 6, 3) := by decide +kernel
theorem d_Tokens_sortOfWord_49 : decode b_Tokens_sortOfWord 49 = .ok (.bipush 7, 2) := by decide +kernel
theorem d_Tokens_sortOfWord_51 : decode b_Tokens_sortOfWord 51 = .ok (.ireturn, 1) := by decide +kernel
theorem d_Tokens_sortOfWord_52 : decode b_Tokens_sortOfWord 52 = .ok (.lload_n 0, 1) := by decide +kernel
theorem d_Tokens_sortOfWord_53 : decode b_Tokens_sortOfWord 53 = .ok (.ldc2_w 78, 3) := by decide +kernel
theorem d_Tokens_sortOfWord_56 : decode b_Tokens_sortOfWord 56 = .ok (.lcmp, 1) := by decide +kernel
theorem d_Tokens_sortOfWord_57 : decode b_Tokens_sortOfWord 57 = .ok (.ifCond .ne 8, 3) := by decide +kernel
theorem d_Tokens_sortOfWord_60 : decode b_Tokens_sortOfWord 60 = .ok (.bipush 8, 2) := by decide +kernel
theorem d_Tokens_sortOfWord_62 : decode b_Tokens_sortOfWord 62 = .ok (.goto 4, 3) := by decide +kernel
theorem d_Tokens_sortOfWord_65 : decode b_Tokens_sortOfWord 65 = .ok (.iconst 1, 1) := by decide +kernel
theorem d_Tokens_sortOfWord_66 : decode b_Tokens_sortOfWord 66 = .ok (.ireturn, 1) := by decide +kernel
abbrev y_Tokens_isLetter : MethodName := ⟨"LanguageServer$Tokens", "isLetter", "(I)Z"⟩
abbrev b_Tokens_isLetter : ByteArray := prog_11_method_9_code
theorem d_Tokens_isLetter_0 : decode b_Tokens_isLetter 0 = .ok (.iload_n 0, 1) := by decide +kernel
theorem d_Tokens_isLetter_1 : decode b_Tokens_isLetter 1 = .ok (.bipush 97, 2) := by decide +kernel
theorem d_Tokens_isLetter_3 : decode b_Tokens_isLetter 3 = .ok (.if_icmp .lt 9, 3) := by decide +kernel
theorem d_Tokens_isLetter_6 : decode b_Tokens_isLetter 6 = .ok (.iload_n 0, 1) := by decide +kernel
theorem d_Tokens_isLetter_7 : decode b_Tokens_isLetter 7 = .ok (.bipush 122, 2) := by decide +kernel
theorem d_Tokens_isLetter_9 : decode b_Tokens_isLetter 9 = .ok (.if_icmp .le 15, 3) := by decide +kernel
theorem d_Tokens_isLetter_12 : decode b_Tokens_isLetter 12 = .ok (.iload_n 0, 1) := by decide +kernel
theorem d_Tokens_isLetter_13 : decode b_Tokens_isLetter 13 = .ok (.bipush 65, 2) := by decide +kernel
theorem d_Tokens_isLetter_15 : decode b_Tokens_isLetter 15 = .ok (.if_icmp .lt 13, 3) := by decide +kernel
theorem d_Tokens_isLetter_18 : decode b_Tokens_isLetter 18 = .ok (.iload_n 0, 1) := by decide +kernel
theorem d_Tokens_isLetter_19 : decode b_Tokens_isLetter 19 = .ok (.bipush 90, 2) := by decide +kernel
theorem d_Tokens_isLetter_21 : decode b_Tokens_isLetter 21 = .ok (.if_icmp .gt 7, 3) := by decide +kernel
theorem d_Tokens_isLetter_24 : decode b_Tokens_isLetter 24 = .ok (.iconst 1, 1) := by decide +kernel
theorem d_Tokens_isLetter_25 : decode b_Tokens_isLetter 25 = .ok (.goto 4, 3) := by decide +kernel
theorem d_Tokens_isLetter_28 : decode b_Tokens_isLetter 28 = .ok (.iconst 0, 1) := by decide +kernel
theorem d_Tokens_isLetter_29 : decode b_Tokens_isLetter 29 = .ok (.ireturn, 1) := by decide +kernel
abbrev y_Tokens_isDigit : MethodName := ⟨"LanguageServer$Tokens", "isDigit", "(I)Z"⟩
abbrev b_Tokens_isDigit : ByteArray := prog_11_method_10_code
theorem d_Tokens_isDigit_0 : decode b_Tokens_isDigit 0 = .ok (.iload_n 0, 1) := by decide +kernel
theorem d_Tokens_isDigit_1 : decode b_Tokens_isDigit 1 = .ok (.bipush 48, 2) := by decide +kernel
theorem d_Tokens_isDigit_3 : decode b_Tokens_isDigit 3 = .ok (.if_icmp .lt 13, 3) := by decide +kernel
theorem d_Tokens_isDigit_6 : decode b_Tokens_isDigit 6 = .ok (.iload_n 0, 1) := by decide +kernel
theorem d_Tokens_isDigit_7 : decode b_Tokens_isDigit 7 = .ok (.bipush 57, 2) := by decide +kernel
theorem d_Tokens_isDigit_9 : decode b_Tokens_isDigit 9 = .ok (.if_icmp .gt 7, 3) := by decide +kernel
theorem d_Tokens_isDigit_12 : decode b_Tokens_isDigit 12 = .ok (.iconst 1, 1) := by decide +kernel
theorem d_Tokens_isDigit_13 : decode b_Tokens_isDigit 13 = .ok (.goto 4, 3) := by decide +kernel
theorem d_Tokens_isDigit_16 : decode b_Tokens_isDigit 16 = .ok (.iconst 0, 1) := by decide +kernel
theorem d_Tokens_isDigit_17 : decode b_Tokens_isDigit 17 = .ok (.ireturn, 1) := by decide +kernel
abbrev y_Tokens_isName : MethodName := ⟨"LanguageServer$Tokens", "isName", "(JI)Z"⟩
abbrev b_Tokens_isName : ByteArray := prog_11_method_8_code
theorem d_Tokens_isName_0 : decode b_Tokens_isName 0 = .ok (.iconst 0, 1) := by decide +kernel
theorem d_Tokens_isName_1 : decode b_Tokens_isName 1 = .ok (.istore_n 3, 1) := by decide +kernel
theorem d_Tokens_isName_2 : decode b_Tokens_isName 2 = .ok (.iload_n 3, 1) := by decide +kernel
theorem d_Tokens_isName_3 : decode b_Tokens_isName 3 = .ok (.iload_n 2, 1) := by decide +kernel
theorem d_Tokens_isName_4 : decode b_Tokens_isName 4 = .ok (.if_icmp .ge 53, 3) := by decide +kernel
theorem d_Tokens_isName_7 : decode b_Tokens_isName 7 = .ok (.lload_n 0, 1) := by decide +kernel
theorem d_Tokens_isName_8 : decode b_Tokens_isName 8 = .ok (.iload_n 3, 1) := by decide +kernel
theorem d_Tokens_isName_9 : decode b_Tokens_isName 9 = .ok (.invokestatic 80, 3) := by decide +kernel
theorem d_Tokens_isName_12 : decode b_Tokens_isName 12 = .ok (.istore 4, 2) := by decide +kernel
theorem d_Tokens_isName_14 : decode b_Tokens_isName 14 = .ok (.iload_n 3, 1) := by decide +kernel
theorem d_Tokens_isName_15 : decode b_Tokens_isName 15 = .ok (.iload_n 2, 1) := by decide +kernel
theorem d_Tokens_isName_16 : decode b_Tokens_isName 16 = .ok (.iconst 1, 1) := by decide +kernel
theorem d_Tokens_isName_17 : decode b_Tokens_isName 17 = .ok (.isub, 1) := by decide +kernel
theorem d_Tokens_isName_18 : decode b_Tokens_isName 18 = .ok (.if_icmp .ne 7, 3) := by decide +kernel
theorem d_Tokens_isName_21 : decode b_Tokens_isName 21 = .ok (.iconst 1, 1) := by decide +kernel
theorem d_Tokens_isName_22 : decode b_Tokens_isName 22 = .ok (.goto 4, 3) := by decide +kernel
theorem d_Tokens_isName_25 : decode b_Tokens_isName 25 = .ok (.iconst 0, 1) := by decide +kernel
theorem d_Tokens_isName_26 : decode b_Tokens_isName 26 = .ok (.istore 5, 2) := by decide +kernel
theorem d_Tokens_isName_28 : decode b_Tokens_isName 28 = .ok (.iload 4, 2) := by decide +kernel
theorem d_Tokens_isName_30 : decode b_Tokens_isName 30 = .ok (.invokestatic 54, 3) := by decide +kernel
theorem d_Tokens_isName_33 : decode b_Tokens_isName 33 = .ok (.ifCond .ne 18, 3) := by decide +kernel
theorem d_Tokens_isName_36 : decode b_Tokens_isName 36 = .ok (.iload 5, 2) := by decide +kernel
theorem d_Tokens_isName_38 : decode b_Tokens_isName 38 = .ok (.ifCond .ne 11, 3) := by decide +kernel
theorem d_Tokens_isName_41 : decode b_Tokens_isName 41 = .ok (.iload 4, 2) := by decide +kernel
theorem d_Tokens_isName_43 : decode b_Tokens_isName 43 = .ok (.invokestatic 58, 3) := by decide +kernel
theorem d_Tokens_isName_46 : decode b_Tokens_isName 46 = .ok (.ifCond .ne 5, 3) := by decide +kernel
theorem d_Tokens_isName_49 : decode b_Tokens_isName 49 = .ok (.iconst 0, 1) := by decide +kernel
theorem d_Tokens_isName_50 : decode b_Tokens_isName 50 = .ok (.ireturn, 1) := by decide +kernel
theorem d_Tokens_isName_51 : decode b_Tokens_isName 51 = .ok (.iinc 3 1, 3) := by decide +kernel
theorem d_Tokens_isName_54 : decode b_Tokens_isName 54 = .ok (.goto (-52), 3) := by decide +kernel
theorem d_Tokens_isName_57 : decode b_Tokens_isName 57 = .ok (.lload_n 0, 1) := by decide +kernel
theorem d_Tokens_isName_58 : decode b_Tokens_isName 58 = .ok (.bipush 8, 2) := by decide +kernel
theorem d_Tokens_isName_60 : decode b_Tokens_isName 60 = .ok (.bipush 8, 2) := by decide +kernel
theorem d_Tokens_isName_62 : decode b_Tokens_isName 62 = .ok (.iload_n 2, 1) := by decide +kernel
theorem d_Tokens_isName_63 : decode b_Tokens_isName 63 = .ok (.isub, 1) := by decide +kernel
theorem d_Tokens_isName_64 : decode b_Tokens_isName 64 = .ok (.imul, 1) := by decide +kernel
theorem d_Tokens_isName_65 : decode b_Tokens_isName 65 = .ok (.lshl, 1) := by decide +kernel
theorem d_Tokens_isName_66 : decode b_Tokens_isName 66 = .ok (.invokestatic 61, 3) := by decide +kernel
theorem d_Tokens_isName_69 : decode b_Tokens_isName 69 = .ok (.iconst 1, 1) := by decide +kernel
theorem d_Tokens_isName_70 : decode b_Tokens_isName 70 = .ok (.if_icmp .ne 7, 3) := by decide +kernel
theorem d_Tokens_isName_73 : decode b_Tokens_isName 73 = .ok (.iconst 1, 1) := by decide +kernel
theorem d_Tokens_isName_74 : decode b_Tokens_isName 74 = .ok (.goto 4, 3) := by decide +kernel
theorem d_Tokens_isName_77 : decode b_Tokens_isName 77 = .ok (.iconst 0, 1) := by decide +kernel
theorem d_Tokens_isName_78 : decode b_Tokens_isName 78 = .ok (.ireturn, 1) := by decide +kernel
abbrev y_Tokens_isSign : MethodName := ⟨"LanguageServer$Tokens", "isSign", "(I)Z"⟩
abbrev b_Tokens_isSign : ByteArray := prog_11_method_11_code
theorem d_Tokens_isSign_0 : decode b_Tokens_isSign 0 = .ok (.iload_n 0, 1) := by decide +kernel
theorem d_Tokens_isSign_1 : decode b_Tokens_isSign 1 = .ok (.lookupswitch 85 #[(40, 83), (41, 83), (43, 83), (44, 83), (46, 83), (59, 83), (61, 83), (123, 83), (125, 83)], 83) := by decide +kernel
theorem d_Tokens_isSign_84 : decode b_Tokens_isSign 84 = .ok (.iconst 1, 1) := by decide +kernel
theorem d_Tokens_isSign_85 : decode b_Tokens_isSign 85 = .ok (.ireturn, 1) := by decide +kernel
theorem d_Tokens_isSign_86 : decode b_Tokens_isSign 86 = .ok (.iconst 0, 1) := by decide +kernel
theorem d_Tokens_isSign_87 : decode b_Tokens_isSign 87 = .ok (.ireturn, 1) := by decide +kernel
