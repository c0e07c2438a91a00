abbrev y_Complaints_clear : MethodName := ⟨"LanguageServer$Complaints", "clear", "()V"⟩
abbrev b_Complaints_clear : ByteArray := prog_2_method_2_code
theorem d_Complaints_clear_0 : decode b_Complaints_clear 0 = .ok (.aload_n 0, 1) := by decide +kernel
theorem d_Complaints_clear_1 : decode b_Complaints_clear 1 = .ok (.getfield 11, 3) := by decide +kernel
theorem d_Complaints_clear_4 : decode b_Complaints_clear 4 = .ok (.iconst 0, 1) := by decide +kernel
theorem d_Complaints_clear_5 : decode b_Complaints_clear 5 = .ok (.invokestatic 21, 3) := by decide +kernel
theorem d_Complaints_clear_8 : decode b_Complaints_clear 8 = .ok (.aload_n 0, 1) := by decide +kernel
theorem d_Complaints_clear_9 : decode b_Complaints_clear 9 = .ok (.iconst (-1), 1) := by decide +kernel
theorem d_Complaints_clear_10 : decode b_Complaints_clear 10 = .ok (.putfield 17, 3) := by decide +kernel
theorem d_Complaints_clear_13 : decode b_Complaints_clear 13 = .ok (.return_, 1) := by decide +kernel
abbrev y_Complaints_setFault : MethodName := ⟨"LanguageServer$Complaints", "setFault", "(I)V"⟩
abbrev b_Complaints_setFault : ByteArray := prog_2_method_3_code
theorem d_Complaints_setFault_0 : decode b_Complaints_setFault 0 = .ok (.aload_n 0, 1) := by decide +kernel
theorem d_Complaints_setFault_1 : decode b_Complaints_setFault 1 = .ok (.iload_n 1, 1) := by decide +kernel
theorem d_Complaints_setFault_2 : decode b_Complaints_setFault 2 = .ok (.putfield 17, 3) := by decide +kernel
theorem d_Complaints_setFault_5 : decode b_Complaints_setFault 5 = .ok (.return_, 1) := by decide +kernel
abbrev y_Complaints_hasFault : MethodName := ⟨"LanguageServer$Complaints", "hasFault", "()Z"⟩
abbrev b_Complaints_hasFault : ByteArray := prog_2_method_4_code
theorem d_Complaints_hasFault_0 : decode b_Complaints_hasFault 0 = .ok (.aload_n 0, 1) := by decide +kernel
theorem d_Complaints_hasFault_1 : decode b_Complaints_hasFault 1 = .ok (.getfield 17, 3) := by decide +kernel
theorem d_Complaints_hasFault_4 : decode b_Complaints_hasFault 4 = .ok (.iconst (-1), 1) := by decide +kernel
theorem d_Complaints_hasFault_5 : decode b_Complaints_hasFault 5 = .ok (.if_icmp .eq 7, 3) := by decide +kernel
theorem d_Complaints_hasFault_8 : decode b_Complaints_hasFault 8 = .ok (.iconst 1, 1) := by decide +kernel
theorem d_Complaints_hasFault_9 : decode b_Complaints_hasFault 9 = .ok (.goto 4, 3) := by decide +kernel
theorem d_Complaints_hasFault_12 : decode b_Complaints_hasFault 12 = .ok (.iconst 0, 1) := by decide +kernel
theorem d_Complaints_hasFault_13 : decode b_Complaints_hasFault 13 = .ok (.ireturn, 1) := by decide +kernel
abbrev y_Complaints_mark : MethodName := ⟨"LanguageServer$Complaints", "mark", "(II)V"⟩
abbrev b_Complaints_mark : ByteArray := prog_2_method_5_code
theorem d_Complaints_mark_0 : decode b_Complaints_mark 0 = .ok (.aload_n 0, 1) := by decide +kernel
theorem d_Complaints_mark_1 : decode b_Complaints_mark 1 = .ok (.getfield 11, 3) := by decide +kernel
theorem d_Complaints_mark_4 : decode b_Complaints_mark 4 = .ok (.iload_n 1, 1) := by decide +kernel
theorem d_Complaints_mark_5 : decode b_Complaints_mark 5 = .ok (.dup2, 1) := by decide +kernel
theorem d_Complaints_mark_6 : decode b_Complaints_mark 6 = .ok (.iaload, 1) := by decide +kernel
theorem d_Complaints_mark_7 : decode b_Complaints_mark 7 = .ok (.iconst 1, 1) := by decide +kernel
theorem d_Complaints_mark_8 : decode b_Complaints_mark 8 = .ok (.iload_n 2, 1) := by decide +kernel
theorem d_Complaints_mark_9 : decode b_Complaints_mark 9 = .ok (.ishl, 1) := by decide +kernel
theorem d_Complaints_mark_10 : decode b_Complaints_mark 10 = .ok (.ior, 1) := by decide +kernel
theorem d_Complaints_mark_11 : decode b_Complaints_mark 11 = .ok (.iastore, 1) := by decide +kernel
theorem d_Complaints_mark_12 : decode b_Complaints_mark 12 = .ok (.return_, 1) := by decide +kernel
abbrev y_Complaints_total : MethodName := ⟨"LanguageServer$Complaints", "total", "()I"⟩
abbrev b_Complaints_total : ByteArray := prog_2_method_6_code
theorem d_Complaints_total_0 : decode b_Complaints_total 0 = .ok (.aload_n 0, 1) := by decide +kernel
theorem d_Complaints_total_1 : decode b_Complaints_total 1 = .ok (.invokevirtual 27, 3) := by decide +kernel
theorem d_Complaints_total_4 : decode b_Complaints_total 4 = .ok (.ifCond .eq 5, 3) := by decide +kernel
theorem d_Complaints_total_7 : decode b_Complaints_total 7 = .ok (.iconst 1, 1) := by decide +kernel
theorem d_Complaints_total_8 : decode b_Complaints_total 8 = .ok (.ireturn, 1) := by decide +kernel
theorem d_Complaints_total_9 : decode b_Complaints_total 9 = .ok (.iconst 0, 1) := by decide +kernel
theorem d_Complaints_total_10 : decode b_Complaints_total 10 = .ok (.istore_n 1, 1) := by decide +kernel
theorem d_Complaints_total_11 : decode b_Complaints_total 11 = .ok (.iconst 0, 1) := by decide +kernel
theorem d_Complaints_total_12 : decode b_Complaints_total 12 = .ok (.istore_n 2, 1) := by decide +kernel
theorem d_Complaints_total_13 : decode b_Complaints_total 13 = .ok (.iload_n 2, 1) := by decide +kernel
theorem d_Complaints_total_14 : decode b_Complaints_total 14 = .ok (.bipush 121, 2) := by decide +kernel
theorem d_Complaints_total_16 : decode b_Complaints_total 16 = .ok (.if_icmp .ge 21, 3) := by decide +kernel
theorem d_Complaints_total_19 : decode b_Complaints_total 19 = .ok (.iload_n 1, 1) := by decide +kernel
theorem d_Complaints_total_20 : decode b_Complaints_total 20 = .ok (.aload_n 0, 1) := by decide +kernel
theorem d_Complaints_total_21 : decode b_Complaints_total 21 = .ok (.getfield 11, 3) := by decide +kernel
theorem d_Complaints_total_24 : decode b_Complaints_total 24 = .ok (.iload_n 2, 1) := by decide +kernel
theorem d_Complaints_total_25 : decode b_Complaints_total 25 = .ok (.iaload, 1) := by decide +kernel
theorem d_Complaints_total_26 : decode b_Complaints_total 26 = .ok (.invokestatic 31, 3) := by decide +kernel
theorem d_Complaints_total_29 : decode b_Complaints_total 29 = .ok (.iadd, 1) := by decide +kernel
theorem d_Complaints_total_30 : decode b_Complaints_total 30 = .ok (.istore_n 1, 1) := by decide +kernel
theorem d_Complaints_total_31 : decode b_Complaints_total 31 = .ok (.iinc 2 1, 3) := by decide +kernel
theorem d_Complaints_total_34 : decode b_Complaints_total 34 = .ok (.goto (-21), 3) := by decide +kernel
theorem d_Complaints_total_37 : decode b_Complaints_total 37 = .ok (.iload_n 1, 1) := by decide +kernel
theorem d_Complaints_total_38 : decode b_Complaints_total 38 = .ok (.ireturn, 1) := by decide +kernel
abbrev y_Complaints_entryAt : MethodName := ⟨"LanguageServer$Complaints", "entryAt", "(I)I"⟩
abbrev b_Complaints_entryAt : ByteArray := prog_2_method_9_code
theorem d_Complaints_entryAt_0 : decode b_Complaints_entryAt 0 = .ok (.iconst 0, 1) := by decide +kernel
theorem d_Complaints_entryAt_1 : decode b_Complaints_entryAt 1 = .ok (.istore_n 2, 1) := by decide +kernel
theorem d_Complaints_entryAt_2 : decode b_Complaints_entryAt 2 = .ok (.iconst 0, 1) := by decide +kernel
theorem d_Complaints_entryAt_3 : decode b_Complaints_entryAt 3 = .ok (.istore_n 3, 1) := by decide +kernel
theorem d_Complaints_entryAt_4 : decode b_Complaints_entryAt 4 = .ok (.iload_n 3, 1) := by decide +kernel
theorem d_Complaints_entryAt_5 : decode b_Complaints_entryAt 5 = .ok (.sipush 1331, 3) := by decide +kernel
theorem d_Complaints_entryAt_8 : decode b_Complaints_entryAt 8 = .ok (.if_icmp .ge 39, 3) := by decide +kernel
theorem d_Complaints_entryAt_11 : decode b_Complaints_entryAt 11 = .ok (.aload_n 0, 1) := by decide +kernel
theorem d_Complaints_entryAt_12 : decode b_Complaints_entryAt 12 = .ok (.getfield 11, 3) := by decide +kernel
theorem d_Complaints_entryAt_15 : decode b_Complaints_entryAt 15 = .ok (.iload_n 3, 1) := by decide +kernel
theorem d_Complaints_entryAt_16 : decode b_Complaints_entryAt 16 = .ok (.bipush 11, 2) := by decide +kernel
theorem d_Complaints_entryAt_18 : decode b_Complaints_entryAt 18 = .ok (.idiv, 1) := by decide +kernel
theorem d_Complaints_entryAt_19 : decode b_Complaints_entryAt 19 = .ok (.iaload, 1) := by decide +kernel
theorem d_Complaints_entryAt_20 : decode b_Complaints_entryAt 20 = .ok (.iload_n 3, 1) := by decide +kernel
theorem d_Complaints_entryAt_21 : decode b_Complaints_entryAt 21 = .ok (.bipush 11, 2) := by decide +kernel
theorem d_Complaints_entryAt_23 : decode b_Complaints_entryAt 23 = .ok (.irem, 1) := by decide +kernel
theorem d_Complaints_entryAt_24 : decode b_Complaints_entryAt 24 = .ok (.ishr, 1) := by decide +kernel
theorem d_Complaints_entryAt_25 : decode b_Complaints_entryAt 25 = .ok (.iconst 1, 1) := by decide +kernel
theorem d_Complaints_entryAt_26 : decode b_Complaints_entryAt 26 = .ok (.iand, 1) := by decide +kernel
theorem d_Complaints_entryAt_27 : decode b_Complaints_entryAt 27 = .ok (.iconst 1, 1) := by decide +kernel
theorem d_Complaints_entryAt_28 : decode b_Complaints_entryAt 28 = .ok (.if_icmp .ne 13, 3) := by decide +kernel
theorem d_Complaints_entryAt_31 : decode b_Complaints_entryAt 31 = .ok (.iload_n 2, 1) := by decide +kernel
theorem d_Complaints_entryAt_32 : decode b_Complaints_entryAt 32 = .ok (.iload_n 1, 1) := by decide +kernel
theorem d_Complaints_entryAt_33 : decode b_Complaints_entryAt 33 = .ok (.if_icmp .ne 5, 3) := by decide +kernel
theorem d_Complaints_entryAt_36 : decode b_Complaints_entryAt 36 = .ok (.iload_n 3, 1) := by decide +kernel
theorem d_Complaints_entryAt_37 : decode b_Complaints_entryAt 37 = .ok (.ireturn, 1) := by decide +kernel
theorem d_Complaints_entryAt_38 : decode b_Complaints_entryAt 38 = .ok (.iinc 2 1, 3) := by decide +kernel
theorem d_Complaints_entryAt_41 : decode b_Complaints_entryAt 41 = .ok (.iinc 3 1, 3) := by decide +kernel
theorem d_Complaints_entryAt_44 : decode b_Complaints_entryAt 44 = .ok (.goto (-40), 3) := by decide +kernel
theorem d_Complaints_entryAt_47 : decode b_Complaints_entryAt 47 = .ok (.iconst 0, 1) := by decide +kernel
theorem d_Complaints_entryAt_48 : decode b_Complaints_entryAt 48 = .ok (.ireturn, 1) := by decide +kernel
abbrev y_Complaints_kindAt : MethodName := ⟨"LanguageServer$Complaints", "kindAt", "(I)I"⟩
abbrev b_Complaints_kindAt : ByteArray := prog_2_method_7_code
theorem d_Complaints_kindAt_0 : decode b_Complaints_kindAt 0 = .ok (.aload_n 0, 1) := by decide +kernel
theorem d_Complaints_kindAt_1 : decode b_Complaints_kindAt 1 = .ok (.invokevirtual 27, 3) := by decide +kernel
theorem d_Complaints_kindAt_4 : decode b_Complaints_kindAt 4 = .ok (.ifCond .eq 7, 3) := by decide +kernel
theorem d_Complaints_kindAt_7 : decode b_Complaints_kindAt 7 = .ok (.iconst 0, 1) := by decide +kernel
theorem d_Complaints_kindAt_8 : decode b_Complaints_kindAt 8 = .ok (.goto 11, 3) := by decide +kernel
theorem d_Complaints_kindAt_11 : decode b_Complaints_kindAt 11 = .ok (.aload_n 0, 1) := by decide +kernel
theorem d_Complaints_kindAt_12 : decode b_Complaints_kindAt 12 = .ok (.iload_n 1, 1) := by decide +kernel
theorem d_Complaints_kindAt_13 : decode b_Complaints_kindAt 13 = .ok (.invokevirtual 37, 3) := by decide +kernel
theorem d_Complaints_kindAt_16 : decode b_Complaints_kindAt 16 = .ok (.bipush 11, 2) := by decide +kernel
theorem d_Complaints_kindAt_18 : decode b_Complaints_kindAt 18 = .ok (.irem, 1) := by decide +kernel
theorem d_Complaints_kindAt_19 : decode b_Complaints_kindAt 19 = .ok (.ireturn, 1) := by decide +kernel
abbrev y_Complaints_placeAt : MethodName := ⟨"LanguageServer$Complaints", "placeAt", "(ILLanguageServer$Tokens;)I"⟩
abbrev b_Complaints_placeAt : ByteArray := prog_2_method_8_code
theorem d_Complaints_placeAt_0 : decode b_Complaints_placeAt 0 = .ok (.aload_n 0, 1) := by decide +kernel
theorem d_Complaints_placeAt_1 : decode b_Complaints_placeAt 1 = .ok (.invokevirtual 27, 3) := by decide +kernel
theorem d_Complaints_placeAt_4 : decode b_Complaints_placeAt 4 = .ok (.ifCond .eq 10, 3) := by decide +kernel
theorem d_Complaints_placeAt_7 : decode b_Complaints_placeAt 7 = .ok (.aload_n 0, 1) := by decide +kernel
theorem d_Complaints_placeAt_8 : decode b_Complaints_placeAt 8 = .ok (.getfield 17, 3) := by decide +kernel
theorem d_Complaints_placeAt_11 : decode b_Complaints_placeAt 11 = .ok (.goto 16, 3) := by decide +kernel
theorem d_Complaints_placeAt_14 : decode b_Complaints_placeAt 14 = .ok (.aload_n 2, 1) := by decide +kernel
theorem d_Complaints_placeAt_15 : decode b_Complaints_placeAt 15 = .ok (.getfield 40, 3) := by decide +kernel
theorem d_Complaints_placeAt_18 : decode b_Complaints_placeAt 18 = .ok (.aload_n 0, 1) := by decide +kernel
theorem d_Complaints_placeAt_19 : decode b_Complaints_placeAt 19 = .ok (.iload_n 1, 1) := by decide +kernel
theorem d_Complaints_placeAt_20 : decode b_Complaints_placeAt 20 = .ok (.invokevirtual 37, 3) := by decide +kernel
theorem d_Complaints_placeAt_23 : decode b_Complaints_placeAt 23 = .ok (.bipush 11, 2) := by decide +kernel
theorem d_Complaints_placeAt_25 : decode b_Complaints_placeAt 25 = .ok (.idiv, 1) := by decide +kernel
theorem d_Complaints_placeAt_26 : decode b_Complaints_placeAt 26 = .ok (.iaload, 1) := by decide +kernel
theorem d_Complaints_placeAt_27 : decode b_Complaints_placeAt 27 = .ok (.ireturn, 1) := by decide +kernel
