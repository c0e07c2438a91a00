abbrev y_Declarer_tell : MethodName := ⟨"LanguageServer$Declarer", "tell", "(IIII)V"⟩
abbrev b_Declarer_tell : ByteArray := prog_3_method_3_code
theorem d_Declarer_tell_0 : decode b_Declarer_tell 0 = .ok (.aload_n 0, 1) := by decide +kernel
theorem d_Declarer_tell_1 : decode b_Declarer_tell 1 = .ok (.getfield 21, 3) := by decide +kernel
theorem d_Declarer_tell_4 : decode b_Declarer_tell 4 = .ok (.iload_n 2, 1) := by decide +kernel
theorem d_Declarer_tell_5 : decode b_Declarer_tell 5 = .ok (.iload_n 1, 1) := by decide +kernel
theorem d_Declarer_tell_6 : decode b_Declarer_tell 6 = .ok (.aload_n 0, 1) := by decide +kernel
theorem d_Declarer_tell_7 : decode b_Declarer_tell 7 = .ok (.getfield 17, 3) := by decide +kernel
theorem d_Declarer_tell_10 : decode b_Declarer_tell 10 = .ok (.getfield 64, 3) := by decide +kernel
theorem d_Declarer_tell_13 : decode b_Declarer_tell 13 = .ok (.iload_n 1, 1) := by decide +kernel
theorem d_Declarer_tell_14 : decode b_Declarer_tell 14 = .ok (.laload, 1) := by decide +kernel
theorem d_Declarer_tell_15 : decode b_Declarer_tell 15 = .ok (.iload_n 3, 1) := by decide +kernel
theorem d_Declarer_tell_16 : decode b_Declarer_tell 16 = .ok (.invokevirtual 70, 3) := by decide +kernel
theorem d_Declarer_tell_19 : decode b_Declarer_tell 19 = .ok (.iconst (-1), 1) := by decide +kernel
theorem d_Declarer_tell_20 : decode b_Declarer_tell 20 = .ok (.if_icmp .ne 16, 3) := by decide +kernel
theorem d_Declarer_tell_23 : decode b_Declarer_tell 23 = .ok (.aload_n 0, 1) := by decide +kernel
theorem d_Declarer_tell_24 : decode b_Declarer_tell 24 = .ok (.getfield 21, 3) := by decide +kernel
theorem d_Declarer_tell_27 : decode b_Declarer_tell 27 = .ok (.getfield 74, 3) := by decide +kernel
theorem d_Declarer_tell_30 : decode b_Declarer_tell 30 = .ok (.iload_n 1, 1) := by decide +kernel
theorem d_Declarer_tell_31 : decode b_Declarer_tell 31 = .ok (.iload_n 1, 1) := by decide +kernel
theorem d_Declarer_tell_32 : decode b_Declarer_tell 32 = .ok (.iastore, 1) := by decide +kernel
theorem d_Declarer_tell_33 : decode b_Declarer_tell 33 = .ok (.goto 13, 3) := by decide +kernel
theorem d_Declarer_tell_36 : decode b_Declarer_tell 36 = .ok (.aload_n 0, 1) := by decide +kernel
theorem d_Declarer_tell_37 : decode b_Declarer_tell 37 = .ok (.getfield 25, 3) := by decide +kernel
theorem d_Declarer_tell_40 : decode b_Declarer_tell 40 = .ok (.iload_n 1, 1) := by decide +kernel
theorem d_Declarer_tell_41 : decode b_Declarer_tell 41 = .ok (.iload 4, 2) := by decide +kernel
theorem d_Declarer_tell_43 : decode b_Declarer_tell 43 = .ok (.invokevirtual 77, 3) := by decide +kernel
theorem d_Declarer_tell_46 : decode b_Declarer_tell 46 = .ok (.return_, 1) := by decide +kernel
abbrev y_Declarer_nameClass : MethodName := ⟨"LanguageServer$Declarer", "nameClass", "(I)V"⟩
abbrev b_Declarer_nameClass : ByteArray := prog_3_method_4_code
theorem d_Declarer_nameClass_0 : decode b_Declarer_nameClass 0 = .ok (.aload_n 0, 1) := by decide +kernel
theorem d_Declarer_nameClass_1 : decode b_Declarer_nameClass 1 = .ok (.getfield 21, 3) := by decide +kernel
theorem d_Declarer_nameClass_4 : decode b_Declarer_nameClass 4 = .ok (.getfield 74, 3) := by decide +kernel
theorem d_Declarer_nameClass_7 : decode b_Declarer_nameClass 7 = .ok (.iload_n 1, 1) := by decide +kernel
theorem d_Declarer_nameClass_8 : decode b_Declarer_nameClass 8 = .ok (.aload_n 0, 1) := by decide +kernel
theorem d_Declarer_nameClass_9 : decode b_Declarer_nameClass 9 = .ok (.getfield 21, 3) := by decide +kernel
theorem d_Declarer_nameClass_12 : decode b_Declarer_nameClass 12 = .ok (.iconst 0, 1) := by decide +kernel
theorem d_Declarer_nameClass_13 : decode b_Declarer_nameClass 13 = .ok (.aload_n 0, 1) := by decide +kernel
theorem d_Declarer_nameClass_14 : decode b_Declarer_nameClass 14 = .ok (.getfield 21, 3) := by decide +kernel
theorem d_Declarer_nameClass_17 : decode b_Declarer_nameClass 17 = .ok (.getfield 29, 3) := by decide +kernel
theorem d_Declarer_nameClass_20 : decode b_Declarer_nameClass 20 = .ok (.aload_n 0, 1) := by decide +kernel
theorem d_Declarer_nameClass_21 : decode b_Declarer_nameClass 21 = .ok (.getfield 17, 3) := by decide +kernel
theorem d_Declarer_nameClass_24 : decode b_Declarer_nameClass 24 = .ok (.getfield 64, 3) := by decide +kernel
theorem d_Declarer_nameClass_27 : decode b_Declarer_nameClass 27 = .ok (.iload_n 1, 1) := by decide +kernel
theorem d_Declarer_nameClass_28 : decode b_Declarer_nameClass 28 = .ok (.laload, 1) := by decide +kernel
theorem d_Declarer_nameClass_29 : decode b_Declarer_nameClass 29 = .ok (.iconst 2, 1) := by decide +kernel
theorem d_Declarer_nameClass_30 : decode b_Declarer_nameClass 30 = .ok (.invokevirtual 70, 3) := by decide +kernel
theorem d_Declarer_nameClass_33 : decode b_Declarer_nameClass 33 = .ok (.iastore, 1) := by decide +kernel
theorem d_Declarer_nameClass_34 : decode b_Declarer_nameClass 34 = .ok (.aload_n 0, 1) := by decide +kernel
theorem d_Declarer_nameClass_35 : decode b_Declarer_nameClass 35 = .ok (.getfield 21, 3) := by decide +kernel
theorem d_Declarer_nameClass_38 : decode b_Declarer_nameClass 38 = .ok (.getfield 74, 3) := by decide +kernel
theorem d_Declarer_nameClass_41 : decode b_Declarer_nameClass 41 = .ok (.iload_n 1, 1) := by decide +kernel
theorem d_Declarer_nameClass_42 : decode b_Declarer_nameClass 42 = .ok (.iaload, 1) := by decide +kernel
theorem d_Declarer_nameClass_43 : decode b_Declarer_nameClass 43 = .ok (.iconst (-1), 1) := by decide +kernel
theorem d_Declarer_nameClass_44 : decode b_Declarer_nameClass 44 = .ok (.if_icmp .ne 12, 3) := by decide +kernel
theorem d_Declarer_nameClass_47 : decode b_Declarer_nameClass 47 = .ok (.aload_n 0, 1) := by decide +kernel
theorem d_Declarer_nameClass_48 : decode b_Declarer_nameClass 48 = .ok (.getfield 25, 3) := by decide +kernel
theorem d_Declarer_nameClass_51 : decode b_Declarer_nameClass 51 = .ok (.iload_n 1, 1) := by decide +kernel
theorem d_Declarer_nameClass_52 : decode b_Declarer_nameClass 52 = .ok (.iconst 2, 1) := by decide +kernel
theorem d_Declarer_nameClass_53 : decode b_Declarer_nameClass 53 = .ok (.invokevirtual 77, 3) := by decide +kernel
theorem d_Declarer_nameClass_56 : decode b_Declarer_nameClass 56 = .ok (.return_, 1) := by decide +kernel
abbrev y_Declarer_typeBefore : MethodName := ⟨"LanguageServer$Declarer", "typeBefore", "(I)I"⟩
abbrev b_Declarer_typeBefore : ByteArray := prog_3_method_5_code
theorem d_Declarer_typeBefore_0 : decode b_Declarer_typeBefore 0 = .ok (.iload_n 1, 1) := by decide +kernel
theorem d_Declarer_typeBefore_1 : decode b_Declarer_typeBefore 1 = .ok (.iconst 1, 1) := by decide +kernel
theorem d_Declarer_typeBefore_2 : decode b_Declarer_typeBefore 2 = .ok (.if_icmp .ge 6, 3) := by decide +kernel
theorem d_Declarer_typeBefore_5 : decode b_Declarer_typeBefore 5 = .ok (.bipush (-2), 2) := by decide +kernel
theorem d_Declarer_typeBefore_7 : decode b_Declarer_typeBefore 7 = .ok (.ireturn, 1) := by decide +kernel
theorem d_Declarer_typeBefore_8 : decode b_Declarer_typeBefore 8 = .ok (.aload_n 0, 1) := by decide +kernel
theorem d_Declarer_typeBefore_9 : decode b_Declarer_typeBefore 9 = .ok (.getfield 17, 3) := by decide +kernel
theorem d_Declarer_typeBefore_12 : decode b_Declarer_typeBefore 12 = .ok (.getfield 81, 3) := by decide +kernel
theorem d_Declarer_typeBefore_15 : decode b_Declarer_typeBefore 15 = .ok (.iload_n 1, 1) := by decide +kernel
theorem d_Declarer_typeBefore_16 : decode b_Declarer_typeBefore 16 = .ok (.iconst 1, 1) := by decide +kernel
theorem d_Declarer_typeBefore_17 : decode b_Declarer_typeBefore 17 = .ok (.isub, 1) := by decide +kernel
theorem d_Declarer_typeBefore_18 : decode b_Declarer_typeBefore 18 = .ok (.iaload, 1) := by decide +kernel
theorem d_Declarer_typeBefore_19 : decode b_Declarer_typeBefore 19 = .ok (.iconst 5, 1) := by decide +kernel
theorem d_Declarer_typeBefore_20 : decode b_Declarer_typeBefore 20 = .ok (.if_icmp .ne 7, 3) := by decide +kernel
theorem d_Declarer_typeBefore_23 : decode b_Declarer_typeBefore 23 = .ok (.iconst (-1), 1) := by decide +kernel
theorem d_Declarer_typeBefore_24 : decode b_Declarer_typeBefore 24 = .ok (.goto 13, 3) := by decide +kernel
theorem d_Declarer_typeBefore_27 : decode b_Declarer_typeBefore 27 = .ok (.aload_n 0, 1) := by decide +kernel
theorem d_Declarer_typeBefore_28 : decode b_Declarer_typeBefore 28 = .ok (.getfield 21, 3) := by decide +kernel
theorem d_Declarer_typeBefore_31 : decode b_Declarer_typeBefore 31 = .ok (.iload_n 1, 1) := by decide +kernel
theorem d_Declarer_typeBefore_32 : decode b_Declarer_typeBefore 32 = .ok (.iconst 1, 1) := by decide +kernel
theorem d_Declarer_typeBefore_33 : decode b_Declarer_typeBefore 33 = .ok (.isub, 1) := by decide +kernel
theorem d_Declarer_typeBefore_34 : decode b_Declarer_typeBefore 34 = .ok (.invokevirtual 86, 3) := by decide +kernel
theorem d_Declarer_typeBefore_37 : decode b_Declarer_typeBefore 37 = .ok (.ireturn, 1) := by decide +kernel
abbrev y_Declarer_superName : MethodName := ⟨"LanguageServer$Declarer", "superName", "(I)I"⟩
abbrev b_Declarer_superName : ByteArray := prog_3_method_7_code
theorem d_Declarer_superName_0 : decode b_Declarer_superName 0 = .ok (.aload_n 0, 1) := by decide +kernel
theorem d_Declarer_superName_1 : decode b_Declarer_superName 1 = .ok (.getfield 21, 3) := by decide +kernel
theorem d_Declarer_superName_4 : decode b_Declarer_superName 4 = .ok (.getfield 102, 3) := by decide +kernel
theorem d_Declarer_superName_7 : decode b_Declarer_superName 7 = .ok (.iload_n 1, 1) := by decide +kernel
theorem d_Declarer_superName_8 : decode b_Declarer_superName 8 = .ok (.iaload, 1) := by decide +kernel
theorem d_Declarer_superName_9 : decode b_Declarer_superName 9 = .ok (.iconst 2, 1) := by decide +kernel
theorem d_Declarer_superName_10 : decode b_Declarer_superName 10 = .ok (.iadd, 1) := by decide +kernel
theorem d_Declarer_superName_11 : decode b_Declarer_superName 11 = .ok (.istore_n 2, 1) := by decide +kernel
theorem d_Declarer_superName_12 : decode b_Declarer_superName 12 = .ok (.iload_n 2, 1) := by decide +kernel
theorem d_Declarer_superName_13 : decode b_Declarer_superName 13 = .ok (.aload_n 0, 1) := by decide +kernel
theorem d_Declarer_superName_14 : decode b_Declarer_superName 14 = .ok (.getfield 21, 3) := by decide +kernel
theorem d_Declarer_superName_17 : decode b_Declarer_superName 17 = .ok (.getfield 29, 3) := by decide +kernel
theorem d_Declarer_superName_20 : decode b_Declarer_superName 20 = .ok (.if_icmp .ge 21, 3) := by decide +kernel
theorem d_Declarer_superName_23 : decode b_Declarer_superName 23 = .ok (.aload_n 0, 1) := by decide +kernel
theorem d_Declarer_superName_24 : decode b_Declarer_superName 24 = .ok (.getfield 21, 3) := by decide +kernel
theorem d_Declarer_superName_27 : decode b_Declarer_superName 27 = .ok (.getfield 33, 3) := by decide +kernel
theorem d_Declarer_superName_30 : decode b_Declarer_superName 30 = .ok (.iload_n 2, 1) := by decide +kernel
theorem d_Declarer_superName_31 : decode b_Declarer_superName 31 = .ok (.iaload, 1) := by decide +kernel
theorem d_Declarer_superName_32 : decode b_Declarer_superName 32 = .ok (.bipush 6, 2) := by decide +kernel
theorem d_Declarer_superName_34 : decode b_Declarer_superName 34 = .ok (.if_icmp .ne 7, 3) := by decide +kernel
theorem d_Declarer_superName_37 : decode b_Declarer_superName 37 = .ok (.iload_n 2, 1) := by decide +kernel
theorem d_Declarer_superName_38 : decode b_Declarer_superName 38 = .ok (.goto 4, 3) := by decide +kernel
theorem d_Declarer_superName_41 : decode b_Declarer_superName 41 = .ok (.iconst (-1), 1) := by decide +kernel
theorem d_Declarer_superName_42 : decode b_Declarer_superName 42 = .ok (.ireturn, 1) := by decide +kernel
abbrev y_Declarer_leadsBack : MethodName := ⟨"LanguageServer$Declarer", "leadsBack", "(I)Z"⟩
abbrev b_Declarer_leadsBack : ByteArray := prog_3_method_8_code
theorem d_Declarer_leadsBack_0 : decode b_Declarer_leadsBack 0 = .ok (.aload_n 0, 1) := by decide +kernel
theorem d_Declarer_leadsBack_1 : decode b_Declarer_leadsBack 1 = .ok (.getfield 11, 3) := by decide +kernel
theorem d_Declarer_leadsBack_4 : decode b_Declarer_leadsBack 4 = .ok (.iload_n 1, 1) := by decide +kernel
theorem d_Declarer_leadsBack_5 : decode b_Declarer_leadsBack 5 = .ok (.iaload, 1) := by decide +kernel
theorem d_Declarer_leadsBack_6 : decode b_Declarer_leadsBack 6 = .ok (.istore_n 2, 1) := by decide +kernel
theorem d_Declarer_leadsBack_7 : decode b_Declarer_leadsBack 7 = .ok (.iconst 0, 1) := by decide +kernel
theorem d_Declarer_leadsBack_8 : decode b_Declarer_leadsBack 8 = .ok (.istore_n 3, 1) := by decide +kernel
theorem d_Declarer_leadsBack_9 : decode b_Declarer_leadsBack 9 = .ok (.iload_n 3, 1) := by decide +kernel
theorem d_Declarer_leadsBack_10 : decode b_Declarer_leadsBack 10 = .ok (.aload_n 0, 1) := by decide +kernel
theorem d_Declarer_leadsBack_11 : decode b_Declarer_leadsBack 11 = .ok (.getfield 21, 3) := by decide +kernel
theorem d_Declarer_leadsBack_14 : decode b_Declarer_leadsBack 14 = .ok (.getfield 89, 3) := by decide +kernel
theorem d_Declarer_leadsBack_17 : decode b_Declarer_leadsBack 17 = .ok (.if_icmp .ge 34, 3) := by decide +kernel
theorem d_Declarer_leadsBack_20 : decode b_Declarer_leadsBack 20 = .ok (.aload_n 0, 1) := by decide +kernel
theorem d_Declarer_leadsBack_21 : decode b_Declarer_leadsBack 21 = .ok (.getfield 21, 3) := by decide +kernel
theorem d_Declarer_leadsBack_24 : decode b_Declarer_leadsBack 24 = .ok (.iload_n 2, 1) := by decide +kernel
theorem d_Declarer_leadsBack_25 : decode b_Declarer_leadsBack 25 = .ok (.invokevirtual 105, 3) := by decide +kernel
theorem d_Declarer_leadsBack_28 : decode b_Declarer_leadsBack 28 = .ok (.ifCond .eq 23, 3) := by decide +kernel
theorem d_Declarer_leadsBack_31 : decode b_Declarer_leadsBack 31 = .ok (.iload_n 2, 1) := by decide +kernel
theorem d_Declarer_leadsBack_32 : decode b_Declarer_leadsBack 32 = .ok (.iload_n 1, 1) := by decide +kernel
theorem d_Declarer_leadsBack_33 : decode b_Declarer_leadsBack 33 = .ok (.if_icmp .ne 5, 3) := by decide +kernel
theorem d_Declarer_leadsBack_36 : decode b_Declarer_leadsBack 36 = .ok (.iconst 1, 1) := by decide +kernel
theorem d_Declarer_leadsBack_37 : decode b_Declarer_leadsBack 37 = .ok (.ireturn, 1) := by decide +kernel
theorem d_Declarer_leadsBack_38 : decode b_Declarer_leadsBack 38 = .ok (.aload_n 0, 1) := by decide +kernel
theorem d_Declarer_leadsBack_39 : decode b_Declarer_leadsBack 39 = .ok (.getfield 11, 3) := by decide +kernel
theorem d_Declarer_leadsBack_42 : decode b_Declarer_leadsBack 42 = .ok (.iload_n 2, 1) := by decide +kernel
theorem d_Declarer_leadsBack_43 : decode b_Declarer_leadsBack 43 = .ok (.iaload, 1) := by decide +kernel
theorem d_Declarer_leadsBack_44 : decode b_Declarer_leadsBack 44 = .ok (.istore_n 2, 1) := by decide +kernel
theorem d_Declarer_leadsBack_45 : decode b_Declarer_leadsBack 45 = .ok (.iinc 3 1, 3) := by decide +kernel
theorem d_Declarer_leadsBack_48 : decode b_Declarer_leadsBack 48 = .ok (.goto (-39), 3) := by decide +kernel
theorem d_Declarer_leadsBack_51 : decode b_Declarer_leadsBack 51 = .ok (.iconst 0, 1) := by decide +kernel
theorem d_Declarer_leadsBack_52 : decode b_Declarer_leadsBack 52 = .ok (.ireturn, 1) := by decide +kernel
abbrev y_Declarer_tieSuperclasses : MethodName := ⟨"LanguageServer$Declarer", "tieSuperclasses", "()V"⟩
abbrev b_Declarer_tieSuperclasses : ByteArray := prog_3_method_6_code
theorem d_Declarer_tieSuperclasses_0 : decode b_Declarer_tieSuperclasses 0 = .ok (.iconst 0, 1) := by decide +kernel
theorem d_Declarer_tieSuperclasses_1 : decode b_Declarer_tieSuperclasses 1 = .ok (.istore_n 1, 1) := by decide +kernel
theorem d_Declarer_tieSuperclasses_2 : decode b_Declarer_tieSuperclasses 2 = .ok (.iload_n 1, 1) := by decide +kernel
theorem d_Declarer_tieSuperclasses_3 : decode b_Declarer_tieSuperclasses 3 = .ok (.aload_n 0, 1) := by decide +kernel
theorem d_Declarer_tieSuperclasses_4 : decode b_Declarer_tieSuperclasses 4 = .ok (.getfield 21, 3) := by decide +kernel
theorem d_Declarer_tieSuperclasses_7 : decode b_Declarer_tieSuperclasses 7 = .ok (.getfield 89, 3) := by decide +kernel
theorem d_Declarer_tieSuperclasses_10 : decode b_Declarer_tieSuperclasses 10 = .ok (.if_icmp .ge 51, 3) := by decide +kernel
theorem d_Declarer_tieSuperclasses_13 : decode b_Declarer_tieSuperclasses 13 = .ok (.aload_n 0, 1) := by decide +kernel
theorem d_Declarer_tieSuperclasses_14 : decode b_Declarer_tieSuperclasses 14 = .ok (.iload_n 1, 1) := by decide +kernel
theorem d_Declarer_tieSuperclasses_15 : decode b_Declarer_tieSuperclasses 15 = .ok (.invokevirtual 92, 3) := by decide +kernel
theorem d_Declarer_tieSuperclasses_18 : decode b_Declarer_tieSuperclasses 18 = .ok (.istore_n 2, 1) := by decide +kernel
theorem d_Declarer_tieSuperclasses_19 : decode b_Declarer_tieSuperclasses 19 = .ok (.aload_n 0, 1) := by decide +kernel
theorem d_Declarer_tieSuperclasses_20 : decode b_Declarer_tieSuperclasses 20 = .ok (.getfield 11, 3) := by decide +kernel
theorem d_Declarer_tieSuperclasses_23 : decode b_Declarer_tieSuperclasses 23 = .ok (.iload_n 1, 1) := by decide +kernel
theorem d_Declarer_tieSuperclasses_24 : decode b_Declarer_tieSuperclasses 24 = .ok (.iload_n 2, 1) := by decide +kernel
theorem d_Declarer_tieSuperclasses_25 : decode b_Declarer_tieSuperclasses 25 = .ok (.iconst (-1), 1) := by decide +kernel
theorem d_Declarer_tieSuperclasses_26 : decode b_Declarer_tieSuperclasses 26 = .ok (.if_icmp .eq 16, 3) := by decide +kernel
theorem d_Declarer_tieSuperclasses_29 : decode b_Declarer_tieSuperclasses 29 = .ok (.aload_n 0, 1) := by decide +kernel
theorem d_Declarer_tieSuperclasses_30 : decode b_Declarer_tieSuperclasses 30 = .ok (.getfield 21, 3) := by decide +kernel
theorem d_Declarer_tieSuperclasses_33 : decode b_Declarer_tieSuperclasses 33 = .ok (.getfield 74, 3) := by decide +kernel
theorem d_Declarer_tieSuperclasses_36 : decode b_Declarer_tieSuperclasses 36 = .ok (.iload_n 2, 1) := by decide +kernel
theorem d_Declarer_tieSuperclasses_37 : decode b_Declarer_tieSuperclasses 37 = .ok (.iaload, 1) := by decide +kernel
theorem d_Declarer_tieSuperclasses_38 : decode b_Declarer_tieSuperclasses 38 = .ok (.iconst (-1), 1) := by decide +kernel
theorem d_Declarer_tieSuperclasses_39 : decode b_Declarer_tieSuperclasses 39 = .ok (.if_icmp .ne 7, 3) := by decide +kernel
theorem d_Declarer_tieSuperclasses_42 : decode b_Declarer_tieSuperclasses 42 = .ok (.iconst (-1), 1) := by decide +kernel
theorem d_Declarer_tieSuperclasses_43 : decode b_Declarer_tieSuperclasses 43 = .ok (.goto 11, 3) := by decide +kernel
theorem d_Declarer_tieSuperclasses_46 : decode b_Declarer_tieSuperclasses 46 = .ok (.aload_n 0, 1) := by decide +kernel
theorem d_Declarer_tieSuperclasses_47 : decode b_Declarer_tieSuperclasses 47 = .ok (.getfield 21, 3) := by decide +kernel
theorem d_Declarer_tieSuperclasses_50 : decode b_Declarer_tieSuperclasses 50 = .ok (.iload_n 2, 1) := by decide +kernel
theorem d_Declarer_tieSuperclasses_51 : decode b_Declarer_tieSuperclasses 51 = .ok (.invokevirtual 86, 3) := by decide +kernel
theorem d_Declarer_tieSuperclasses_54 : decode b_Declarer_tieSuperclasses 54 = .ok (.iastore, 1) := by decide +kernel
theorem d_Declarer_tieSuperclasses_55 : decode b_Declarer_tieSuperclasses 55 = .ok (.iinc 1 1, 3) := by decide +kernel
theorem d_Declarer_tieSuperclasses_58 : decode b_Declarer_tieSuperclasses 58 = .ok (.goto (-56), 3) := by decide +kernel
theorem d_Declarer_tieSuperclasses_61 : decode b_Declarer_tieSuperclasses 61 = .ok (.iconst 0, 1) := by decide +kernel
theorem d_Declarer_tieSuperclasses_62 : decode b_Declarer_tieSuperclasses 62 = .ok (.istore_n 1, 1) := by decide +kernel
theorem d_Declarer_tieSuperclasses_63 : decode b_Declarer_tieSuperclasses 63 = .ok (.iload_n 1, 1) := by decide +kernel
theorem d_Declarer_tieSuperclasses_64 : decode b_Declarer_tieSuperclasses 64 = .ok (.aload_n 0, 1) := by decide +kernel
theorem d_Declarer_tieSuperclasses_65 : decode b_Declarer_tieSuperclasses 65 = .ok (.getfield 21, 3) := by decide +kernel
theorem d_Declarer_tieSuperclasses_68 : decode b_Declarer_tieSuperclasses 68 = .ok (.getfield 89, 3) := by decide +kernel
theorem d_Declarer_tieSuperclasses_71 : decode b_Declarer_tieSuperclasses 71 = .ok (.if_icmp .ge 65, 3) := by decide +kernel
theorem d_Declarer_tieSuperclasses_74 : decode b_Declarer_tieSuperclasses 74 = .ok (.aload_n 0, 1) := by decide +kernel
theorem d_Declarer_tieSuperclasses_75 : decode b_Declarer_tieSuperclasses 75 = .ok (.iload_n 1, 1) := by decide +kernel
theorem d_Declarer_tieSuperclasses_76 : decode b_Declarer_tieSuperclasses 76 = .ok (.invokevirtual 92, 3) := by decide +kernel
theorem d_Declarer_tieSuperclasses_79 : decode b_Declarer_tieSuperclasses 79 = .ok (.istore_n 2, 1) := by decide +kernel
theorem d_Declarer_tieSuperclasses_80 : decode b_Declarer_tieSuperclasses 80 = .ok (.iload_n 2, 1) := by decide +kernel
theorem d_Declarer_tieSuperclasses_81 : decode b_Declarer_tieSuperclasses 81 = .ok (.iconst (-1), 1) := by decide +kernel
theorem d_Declarer_tieSuperclasses_82 : decode b_Declarer_tieSuperclasses 82 = .ok (.if_icmp .eq 33, 3) := by decide +kernel
theorem d_Declarer_tieSuperclasses_85 : decode b_Declarer_tieSuperclasses 85 = .ok (.aload_n 0, 1) := by decide +kernel
theorem d_Declarer_tieSuperclasses_86 : decode b_Declarer_tieSuperclasses 86 = .ok (.iload_n 1, 1) := by decide +kernel
theorem d_Declarer_tieSuperclasses_87 : decode b_Declarer_tieSuperclasses 87 = .ok (.invokevirtual 95, 3) := by decide +kernel
theorem d_Declarer_tieSuperclasses_90 : decode b_Declarer_tieSuperclasses 90 = .ok (.ifCond .eq 25, 3) := by decide +kernel
theorem d_Declarer_tieSuperclasses_93 : decode b_Declarer_tieSuperclasses 93 = .ok (.aload_n 0, 1) := by decide +kernel
theorem d_Declarer_tieSuperclasses_94 : decode b_Declarer_tieSuperclasses 94 = .ok (.getfield 21, 3) := by decide +kernel
theorem d_Declarer_tieSuperclasses_97 : decode b_Declarer_tieSuperclasses 97 = .ok (.getfield 74, 3) := by decide +kernel
theorem d_Declarer_tieSuperclasses_100 : decode b_Declarer_tieSuperclasses 100 = .ok (.iload_n 2, 1) := by decide +kernel
theorem d_Declarer_tieSuperclasses_101 : decode b_Declarer_tieSuperclasses 101 = .ok (.iconst (-1), 1) := by decide +kernel
theorem d_Declarer_tieSuperclasses_102 : decode b_Declarer_tieSuperclasses 102 = .ok (.iastore, 1) := by decide +kernel
theorem d_Declarer_tieSuperclasses_103 : decode b_Declarer_tieSuperclasses 103 = .ok (.aload_n 0, 1) := by decide +kernel
theorem d_Declarer_tieSuperclasses_104 : decode b_Declarer_tieSuperclasses 104 = .ok (.getfield 25, 3) := by decide +kernel
theorem d_Declarer_tieSuperclasses_107 : decode b_Declarer_tieSuperclasses 107 = .ok (.iload_n 2, 1) := by decide +kernel
theorem d_Declarer_tieSuperclasses_108 : decode b_Declarer_tieSuperclasses 108 = .ok (.iconst 3, 1) := by decide +kernel
theorem d_Declarer_tieSuperclasses_109 : decode b_Declarer_tieSuperclasses 109 = .ok (.invokevirtual 77, 3) := by decide +kernel
theorem d_Declarer_tieSuperclasses_112 : decode b_Declarer_tieSuperclasses 112 = .ok (.goto 18, 3) := by decide +kernel
theorem d_Declarer_tieSuperclasses_115 : decode b_Declarer_tieSuperclasses 115 = .ok (.aload_n 0, 1) := by decide +kernel
theorem d_Declarer_tieSuperclasses_116 : decode b_Declarer_tieSuperclasses 116 = .ok (.getfield 21, 3) := by decide +kernel
theorem d_Declarer_tieSuperclasses_119 : decode b_Declarer_tieSuperclasses 119 = .ok (.getfield 99, 3) := by decide +kernel
theorem d_Declarer_tieSuperclasses_122 : decode b_Declarer_tieSuperclasses 122 = .ok (.iload_n 1, 1) := by decide +kernel
theorem d_Declarer_tieSuperclasses_123 : decode b_Declarer_tieSuperclasses 123 = .ok (.aload_n 0, 1) := by decide +kernel
theorem d_Declarer_tieSuperclasses_124 : decode b_Declarer_tieSuperclasses 124 = .ok (.getfield 11, 3) := by decide +kernel
theorem d_Declarer_tieSuperclasses_127 : decode b_Declarer_tieSuperclasses 127 = .ok (.iload_n 1, 1) := by decide +kernel
theorem d_Declarer_tieSuperclasses_128 : decode b_Declarer_tieSuperclasses 128 = .ok (.iaload, 1) := by decide +kernel
theorem d_Declarer_tieSuperclasses_129 : decode b_Declarer_tieSuperclasses 129 = .ok (.iastore, 1) := by decide +kernel
theorem d_Declarer_tieSuperclasses_130 : decode b_Declarer_tieSuperclasses 130 = .ok (.iinc 1 1, 3) := by decide +kernel
theorem d_Declarer_tieSuperclasses_133 : decode b_Declarer_tieSuperclasses 133 = .ok (.goto (-70), 3) := by decide +kernel
theorem d_Declarer_tieSuperclasses_136 : decode b_Declarer_tieSuperclasses 136 = .ok (.return_, 1) := by decide +kernel
abbrev y_Declarer_declare : MethodName := ⟨"LanguageServer$Declarer", "declare", "()V"⟩
abbrev b_Declarer_declare : ByteArray := prog_3_method_2_code
theorem d_Declarer_declare_0 : decode b_Declarer_declare 0 = .ok (.iconst 0, 1) := by decide +kernel
theorem d_Declarer_declare_1 : decode b_Declarer_declare 1 = .ok (.istore_n 1, 1) := by decide +kernel
theorem d_Declarer_declare_2 : decode b_Declarer_declare 2 = .ok (.iload_n 1, 1) := by decide +kernel
theorem d_Declarer_declare_3 : decode b_Declarer_declare 3 = .ok (.aload_n 0, 1) := by decide +kernel
theorem d_Declarer_declare_4 : decode b_Declarer_declare 4 = .ok (.getfield 21, 3) := by decide +kernel
theorem d_Declarer_declare_7 : decode b_Declarer_declare 7 = .ok (.getfield 29, 3) := by decide +kernel
theorem d_Declarer_declare_10 : decode b_Declarer_declare 10 = .ok (.if_icmp .ge 151, 3) := by decide +kernel
theorem d_Declarer_declare_13 : decode b_Declarer_declare 13 = .ok (.aload_n 0, 1) := by decide +kernel
theorem d_Declarer_declare_14 : decode b_Declarer_declare 14 = .ok (.getfield 21, 3) := by decide +kernel
theorem d_Declarer_declare_17 : decode b_Declarer_declare 17 = .ok (.getfield 33, 3) := by decide +kernel
theorem d_Declarer_declare_20 : decode b_Declarer_declare 20 = .ok (.iload_n 1, 1) := by decide +kernel
theorem d_Declarer_declare_21 : decode b_Declarer_declare 21 = .ok (.iaload, 1) := by decide +kernel
theorem d_Declarer_declare_22 : decode b_Declarer_declare 22 = .ok (.tableswitch 133 1 8 #[46, 70, 70, 104, 104, 62, 62, 62], 46) := by decide +kernel
theorem d_Declarer_declare_68 : decode b_Declarer_declare 68 = .ok (.aload_n 0, 1) := by decide +kernel
theorem d_Declarer_declare_69 : decode b_Declarer_declare 69 = .ok (.iload_n 1, 1) := by decide +kernel
theorem d_Declarer_declare_70 : decode b_Declarer_declare 70 = .ok (.putfield 36, 3) := by decide +kernel
theorem d_Declarer_declare_73 : decode b_Declarer_declare 73 = .ok (.aload_n 0, 1) := by decide +kernel
theorem d_Declarer_declare_74 : decode b_Declarer_declare 74 = .ok (.iload_n 1, 1) := by decide +kernel
theorem d_Declarer_declare_75 : decode b_Declarer_declare 75 = .ok (.iconst 0, 1) := by decide +kernel
theorem d_Declarer_declare_76 : decode b_Declarer_declare 76 = .ok (.iconst 2, 1) := by decide +kernel
theorem d_Declarer_declare_77 : decode b_Declarer_declare 77 = .ok (.iconst 1, 1) := by decide +kernel
theorem d_Declarer_declare_78 : decode b_Declarer_declare 78 = .ok (.invokevirtual 43, 3) := by decide +kernel
theorem d_Declarer_declare_81 : decode b_Declarer_declare 81 = .ok (.goto 74, 3) := by decide +kernel
theorem d_Declarer_declare_84 : decode b_Declarer_declare 84 = .ok (.aload_n 0, 1) := by decide +kernel
theorem d_Declarer_declare_85 : decode b_Declarer_declare 85 = .ok (.iload_n 1, 1) := by decide +kernel
theorem d_Declarer_declare_86 : decode b_Declarer_declare 86 = .ok (.invokevirtual 47, 3) := by decide +kernel
theorem d_Declarer_declare_89 : decode b_Declarer_declare 89 = .ok (.goto 66, 3) := by decide +kernel
theorem d_Declarer_declare_92 : decode b_Declarer_declare 92 = .ok (.aload_n 0, 1) := by decide +kernel
theorem d_Declarer_declare_93 : decode b_Declarer_declare 93 = .ok (.iload_n 1, 1) := by decide +kernel
theorem d_Declarer_declare_94 : decode b_Declarer_declare 94 = .ok (.putfield 51, 3) := by decide +kernel
theorem d_Declarer_declare_97 : decode b_Declarer_declare 97 = .ok (.aload_n 0, 1) := by decide +kernel
theorem d_Declarer_declare_98 : decode b_Declarer_declare 98 = .ok (.getfield 21, 3) := by decide +kernel
theorem d_Declarer_declare_101 : decode b_Declarer_declare 101 = .ok (.getfield 54, 3) := by decide +kernel
theorem d_Declarer_declare_104 : decode b_Declarer_declare 104 = .ok (.iload_n 1, 1) := by decide +kernel
theorem d_Declarer_declare_105 : decode b_Declarer_declare 105 = .ok (.aload_n 0, 1) := by decide +kernel
theorem d_Declarer_declare_106 : decode b_Declarer_declare 106 = .ok (.iload_n 1, 1) := by decide +kernel
theorem d_Declarer_declare_107 : decode b_Declarer_declare 107 = .ok (.invokevirtual 57, 3) := by decide +kernel
theorem d_Declarer_declare_110 : decode b_Declarer_declare 110 = .ok (.iastore, 1) := by decide +kernel
theorem d_Declarer_declare_111 : decode b_Declarer_declare 111 = .ok (.aload_n 0, 1) := by decide +kernel
theorem d_Declarer_declare_112 : decode b_Declarer_declare 112 = .ok (.iload_n 1, 1) := by decide +kernel
theorem d_Declarer_declare_113 : decode b_Declarer_declare 113 = .ok (.aload_n 0, 1) := by decide +kernel
theorem d_Declarer_declare_114 : decode b_Declarer_declare 114 = .ok (.getfield 36, 3) := by decide +kernel
theorem d_Declarer_declare_117 : decode b_Declarer_declare 117 = .ok (.bipush 12, 2) := by decide +kernel
theorem d_Declarer_declare_119 : decode b_Declarer_declare 119 = .ok (.iconst 4, 1) := by decide +kernel
theorem d_Declarer_declare_120 : decode b_Declarer_declare 120 = .ok (.invokevirtual 43, 3) := by decide +kernel
theorem d_Declarer_declare_123 : decode b_Declarer_declare 123 = .ok (.goto 32, 3) := by decide +kernel
theorem d_Declarer_declare_126 : decode b_Declarer_declare 126 = .ok (.aload_n 0, 1) := by decide +kernel
theorem d_Declarer_declare_127 : decode b_Declarer_declare 127 = .ok (.getfield 21, 3) := by decide +kernel
theorem d_Declarer_declare_130 : decode b_Declarer_declare 130 = .ok (.getfield 54, 3) := by decide +kernel
theorem d_Declarer_declare_133 : decode b_Declarer_declare 133 = .ok (.iload_n 1, 1) := by decide +kernel
theorem d_Declarer_declare_134 : decode b_Declarer_declare 134 = .ok (.aload_n 0, 1) := by decide +kernel
theorem d_Declarer_declare_135 : decode b_Declarer_declare 135 = .ok (.iload_n 1, 1) := by decide +kernel
theorem d_Declarer_declare_136 : decode b_Declarer_declare 136 = .ok (.invokevirtual 57, 3) := by decide +kernel
theorem d_Declarer_declare_139 : decode b_Declarer_declare 139 = .ok (.iastore, 1) := by decide +kernel
theorem d_Declarer_declare_140 : decode b_Declarer_declare 140 = .ok (.aload_n 0, 1) := by decide +kernel
theorem d_Declarer_declare_141 : decode b_Declarer_declare 141 = .ok (.iload_n 1, 1) := by decide +kernel
theorem d_Declarer_declare_142 : decode b_Declarer_declare 142 = .ok (.aload_n 0, 1) := by decide +kernel
theorem d_Declarer_declare_143 : decode b_Declarer_declare 143 = .ok (.getfield 51, 3) := by decide +kernel
theorem d_Declarer_declare_146 : decode b_Declarer_declare 146 = .ok (.bipush 48, 2) := by decide +kernel
theorem d_Declarer_declare_148 : decode b_Declarer_declare 148 = .ok (.iconst 5, 1) := by decide +kernel
theorem d_Declarer_declare_149 : decode b_Declarer_declare 149 = .ok (.invokevirtual 43, 3) := by decide +kernel
theorem d_Declarer_declare_152 : decode b_Declarer_declare 152 = .ok (.goto 3, 3) := by decide +kernel
theorem d_Declarer_declare_155 : decode b_Declarer_declare 155 = .ok (.iinc 1 1, 3) := by decide +kernel
theorem d_Declarer_declare_158 : decode b_Declarer_declare 158 = .ok (.goto (-156), 3) := by decide +kernel
theorem d_Declarer_declare_161 : decode b_Declarer_declare 161 = .ok (.aload_n 0, 1) := by decide +kernel
theorem d_Declarer_declare_162 : decode b_Declarer_declare 162 = .ok (.invokevirtual 61, 3) := by decide +kernel
theorem d_Declarer_declare_165 : decode b_Declarer_declare 165 = .ok (.return_, 1) := by decide +kernel
