abbrev y_Mo_references : MethodName := ⟨"LanguageServerModel", "references", "(I)I"⟩
abbrev b_Mo_references : ByteArray := prog_13_method_62_code
theorem d_Mo_references_0 : decode b_Mo_references 0 = .ok (.aload_n 0, 1) := by decide +kernel
theorem d_Mo_references_1 : decode b_Mo_references 1 = .ok (.iconst 0, 1) := by decide +kernel
theorem d_Mo_references_2 : decode b_Mo_references 2 = .ok (.putfield 81, 3) := by decide +kernel
theorem d_Mo_references_5 : decode b_Mo_references 5 = .ok (.aload_n 0, 1) := by decide +kernel
theorem d_Mo_references_6 : decode b_Mo_references 6 = .ok (.iload_n 1, 1) := by decide +kernel
theorem d_Mo_references_7 : decode b_Mo_references 7 = .ok (.invokevirtual 280, 3) := by decide +kernel
theorem d_Mo_references_10 : decode b_Mo_references 10 = .ok (.istore_n 2, 1) := by decide +kernel
theorem d_Mo_references_11 : decode b_Mo_references 11 = .ok (.iload_n 2, 1) := by decide +kernel
theorem d_Mo_references_12 : decode b_Mo_references 12 = .ok (.ifCond .ge 11, 3) := by decide +kernel
theorem d_Mo_references_15 : decode b_Mo_references 15 = .ok (.aload_n 0, 1) := by decide +kernel
theorem d_Mo_references_16 : decode b_Mo_references 16 = .ok (.iconst 1, 1) := by decide +kernel
theorem d_Mo_references_17 : decode b_Mo_references 17 = .ok (.invokevirtual 92, 3) := by decide +kernel
theorem d_Mo_references_20 : decode b_Mo_references 20 = .ok (.goto 13, 3) := by decide +kernel
theorem d_Mo_references_23 : decode b_Mo_references 23 = .ok (.aload_n 0, 1) := by decide +kernel
theorem d_Mo_references_24 : decode b_Mo_references 24 = .ok (.aload_n 0, 1) := by decide +kernel
theorem d_Mo_references_25 : decode b_Mo_references 25 = .ok (.getfield 50, 3) := by decide +kernel
theorem d_Mo_references_28 : decode b_Mo_references 28 = .ok (.iload_n 2, 1) := by decide +kernel
theorem d_Mo_references_29 : decode b_Mo_references 29 = .ok (.iaload, 1) := by decide +kernel
theorem d_Mo_references_30 : decode b_Mo_references 30 = .ok (.invokevirtual 283, 3) := by decide +kernel
theorem d_Mo_references_33 : decode b_Mo_references 33 = .ok (.ireturn, 1) := by decide +kernel
abbrev y_Mo_reference : MethodName := ⟨"LanguageServerModel", "reference", "(II)I"⟩
abbrev b_Mo_reference : ByteArray := prog_13_method_63_code
theorem d_Mo_reference_0 : decode b_Mo_reference 0 = .ok (.aload_n 0, 1) := by decide +kernel
theorem d_Mo_reference_1 : decode b_Mo_reference 1 = .ok (.iconst 0, 1) := by decide +kernel
theorem d_Mo_reference_2 : decode b_Mo_reference 2 = .ok (.putfield 81, 3) := by decide +kernel
theorem d_Mo_reference_5 : decode b_Mo_reference 5 = .ok (.aload_n 0, 1) := by decide +kernel
theorem d_Mo_reference_6 : decode b_Mo_reference 6 = .ok (.iload_n 1, 1) := by decide +kernel
theorem d_Mo_reference_7 : decode b_Mo_reference 7 = .ok (.invokevirtual 280, 3) := by decide +kernel
theorem d_Mo_reference_10 : decode b_Mo_reference 10 = .ok (.istore_n 3, 1) := by decide +kernel
theorem d_Mo_reference_11 : decode b_Mo_reference 11 = .ok (.iload_n 3, 1) := by decide +kernel
theorem d_Mo_reference_12 : decode b_Mo_reference 12 = .ok (.ifCond .lt 7, 3) := by decide +kernel
theorem d_Mo_reference_15 : decode b_Mo_reference 15 = .ok (.iload_n 2, 1) := by decide +kernel
theorem d_Mo_reference_16 : decode b_Mo_reference 16 = .ok (.ifCond .ge 9, 3) := by decide +kernel
theorem d_Mo_reference_19 : decode b_Mo_reference 19 = .ok (.aload_n 0, 1) := by decide +kernel
theorem d_Mo_reference_20 : decode b_Mo_reference 20 = .ok (.iconst 1, 1) := by decide +kernel
theorem d_Mo_reference_21 : decode b_Mo_reference 21 = .ok (.invokevirtual 92, 3) := by decide +kernel
theorem d_Mo_reference_24 : decode b_Mo_reference 24 = .ok (.ireturn, 1) := by decide +kernel
theorem d_Mo_reference_25 : decode b_Mo_reference 25 = .ok (.iload_n 2, 1) := by decide +kernel
theorem d_Mo_reference_26 : decode b_Mo_reference 26 = .ok (.istore 4, 2) := by decide +kernel
theorem d_Mo_reference_28 : decode b_Mo_reference 28 = .ok (.iconst 0, 1) := by decide +kernel
theorem d_Mo_reference_29 : decode b_Mo_reference 29 = .ok (.istore 5, 2) := by decide +kernel
theorem d_Mo_reference_31 : decode b_Mo_reference 31 = .ok (.iload 5, 2) := by decide +kernel
theorem d_Mo_reference_33 : decode b_Mo_reference 33 = .ok (.aload_n 0, 1) := by decide +kernel
theorem d_Mo_reference_34 : decode b_Mo_reference 34 = .ok (.getfield 118, 3) := by decide +kernel
theorem d_Mo_reference_37 : decode b_Mo_reference 37 = .ok (.if_icmp .ge 44, 3) := by decide +kernel
theorem d_Mo_reference_40 : decode b_Mo_reference 40 = .ok (.aload_n 0, 1) := by decide +kernel
theorem d_Mo_reference_41 : decode b_Mo_reference 41 = .ok (.getfield 50, 3) := by decide +kernel
theorem d_Mo_reference_44 : decode b_Mo_reference 44 = .ok (.iload 5, 2) := by decide +kernel
theorem d_Mo_reference_46 : decode b_Mo_reference 46 = .ok (.iaload, 1) := by decide +kernel
theorem d_Mo_reference_47 : decode b_Mo_reference 47 = .ok (.aload_n 0, 1) := by decide +kernel
theorem d_Mo_reference_48 : decode b_Mo_reference 48 = .ok (.getfield 50, 3) := by decide +kernel
theorem d_Mo_reference_51 : decode b_Mo_reference 51 = .ok (.iload_n 3, 1) := by decide +kernel
theorem d_Mo_reference_52 : decode b_Mo_reference 52 = .ok (.iaload, 1) := by decide +kernel
theorem d_Mo_reference_53 : decode b_Mo_reference 53 = .ok (.if_icmp .eq 6, 3) := by decide +kernel
theorem d_Mo_reference_56 : decode b_Mo_reference 56 = .ok (.goto 19, 3) := by decide +kernel
theorem d_Mo_reference_59 : decode b_Mo_reference 59 = .ok (.iload 4, 2) := by decide +kernel
theorem d_Mo_reference_61 : decode b_Mo_reference 61 = .ok (.ifCond .ne 11, 3) := by decide +kernel
theorem d_Mo_reference_64 : decode b_Mo_reference 64 = .ok (.aload_n 0, 1) := by decide +kernel
theorem d_Mo_reference_65 : decode b_Mo_reference 65 = .ok (.getfield 23, 3) := by decide +kernel
theorem d_Mo_reference_68 : decode b_Mo_reference 68 = .ok (.iload 5, 2) := by decide +kernel
theorem d_Mo_reference_70 : decode b_Mo_reference 70 = .ok (.iaload, 1) := by decide +kernel
theorem d_Mo_reference_71 : decode b_Mo_reference 71 = .ok (.ireturn, 1) := by decide +kernel
theorem d_Mo_reference_72 : decode b_Mo_reference 72 = .ok (.iinc 4 (-1), 3) := by decide +kernel
theorem d_Mo_reference_75 : decode b_Mo_reference 75 = .ok (.iinc 5 1, 3) := by decide +kernel
theorem d_Mo_reference_78 : decode b_Mo_reference 78 = .ok (.goto (-47), 3) := by decide +kernel
theorem d_Mo_reference_81 : decode b_Mo_reference 81 = .ok (.aload_n 0, 1) := by decide +kernel
theorem d_Mo_reference_82 : decode b_Mo_reference 82 = .ok (.iconst 1, 1) := by decide +kernel
theorem d_Mo_reference_83 : decode b_Mo_reference 83 = .ok (.invokevirtual 92, 3) := by decide +kernel
theorem d_Mo_reference_86 : decode b_Mo_reference 86 = .ok (.ireturn, 1) := by decide +kernel
abbrev y_Mo_hasMember : MethodName := ⟨"LanguageServerModel", "hasMember", "(II)Z"⟩
abbrev b_Mo_hasMember : ByteArray := prog_13_method_64_code
theorem d_Mo_hasMember_0 : decode b_Mo_hasMember 0 = .ok (.aload_n 0, 1) := by decide +kernel
theorem d_Mo_hasMember_1 : decode b_Mo_hasMember 1 = .ok (.getfield 29, 3) := by decide +kernel
theorem d_Mo_hasMember_4 : decode b_Mo_hasMember 4 = .ok (.iload_n 2, 1) := by decide +kernel
theorem d_Mo_hasMember_5 : decode b_Mo_hasMember 5 = .ok (.iaload, 1) := by decide +kernel
theorem d_Mo_hasMember_6 : decode b_Mo_hasMember 6 = .ok (.invokestatic 195, 3) := by decide +kernel
theorem d_Mo_hasMember_9 : decode b_Mo_hasMember 9 = .ok (.ifCond .eq 22, 3) := by decide +kernel
theorem d_Mo_hasMember_12 : decode b_Mo_hasMember 12 = .ok (.aload_n 0, 1) := by decide +kernel
theorem d_Mo_hasMember_13 : decode b_Mo_hasMember 13 = .ok (.iload_n 1, 1) := by decide +kernel
theorem d_Mo_hasMember_14 : decode b_Mo_hasMember 14 = .ok (.aload_n 0, 1) := by decide +kernel
theorem d_Mo_hasMember_15 : decode b_Mo_hasMember 15 = .ok (.getfield 19, 3) := by decide +kernel
theorem d_Mo_hasMember_18 : decode b_Mo_hasMember 18 = .ok (.iload_n 2, 1) := by decide +kernel
theorem d_Mo_hasMember_19 : decode b_Mo_hasMember 19 = .ok (.laload, 1) := by decide +kernel
theorem d_Mo_hasMember_20 : decode b_Mo_hasMember 20 = .ok (.invokevirtual 220, 3) := by decide +kernel
theorem d_Mo_hasMember_23 : decode b_Mo_hasMember 23 = .ok (.iload_n 2, 1) := by decide +kernel
theorem d_Mo_hasMember_24 : decode b_Mo_hasMember 24 = .ok (.if_icmp .ne 7, 3) := by decide +kernel
theorem d_Mo_hasMember_27 : decode b_Mo_hasMember 27 = .ok (.iconst 1, 1) := by decide +kernel
theorem d_Mo_hasMember_28 : decode b_Mo_hasMember 28 = .ok (.goto 4, 3) := by decide +kernel
theorem d_Mo_hasMember_31 : decode b_Mo_hasMember 31 = .ok (.iconst 0, 1) := by decide +kernel
theorem d_Mo_hasMember_32 : decode b_Mo_hasMember 32 = .ok (.ireturn, 1) := by decide +kernel
abbrev y_Mo_members : MethodName := ⟨"LanguageServerModel", "members", "(I)I"⟩
abbrev b_Mo_members : ByteArray := prog_13_method_65_code
theorem d_Mo_members_0 : decode b_Mo_members 0 = .ok (.aload_n 0, 1) := by decide +kernel
theorem d_Mo_members_1 : decode b_Mo_members 1 = .ok (.iconst 0, 1) := by decide +kernel
theorem d_Mo_members_2 : decode b_Mo_members 2 = .ok (.putfield 81, 3) := by decide +kernel
theorem d_Mo_members_5 : decode b_Mo_members 5 = .ok (.aload_n 0, 1) := by decide +kernel
theorem d_Mo_members_6 : decode b_Mo_members 6 = .ok (.invokevirtual 274, 3) := by decide +kernel
theorem d_Mo_members_9 : decode b_Mo_members 9 = .ok (.iload_n 1, 1) := by decide +kernel
theorem d_Mo_members_10 : decode b_Mo_members 10 = .ok (.ifCond .lt 11, 3) := by decide +kernel
theorem d_Mo_members_13 : decode b_Mo_members 13 = .ok (.iload_n 1, 1) := by decide +kernel
theorem d_Mo_members_14 : decode b_Mo_members 14 = .ok (.aload_n 0, 1) := by decide +kernel
theorem d_Mo_members_15 : decode b_Mo_members 15 = .ok (.getfield 180, 3) := by decide +kernel
theorem d_Mo_members_18 : decode b_Mo_members 18 = .ok (.if_icmp .lt 9, 3) := by decide +kernel
theorem d_Mo_members_21 : decode b_Mo_members 21 = .ok (.aload_n 0, 1) := by decide +kernel
theorem d_Mo_members_22 : decode b_Mo_members 22 = .ok (.iconst 1, 1) := by decide +kernel
theorem d_Mo_members_23 : decode b_Mo_members 23 = .ok (.invokevirtual 92, 3) := by decide +kernel
theorem d_Mo_members_26 : decode b_Mo_members 26 = .ok (.ireturn, 1) := by decide +kernel
theorem d_Mo_members_27 : decode b_Mo_members 27 = .ok (.iconst 0, 1) := by decide +kernel
theorem d_Mo_members_28 : decode b_Mo_members 28 = .ok (.istore_n 2, 1) := by decide +kernel
theorem d_Mo_members_29 : decode b_Mo_members 29 = .ok (.iconst 0, 1) := by decide +kernel
theorem d_Mo_members_30 : decode b_Mo_members 30 = .ok (.istore_n 3, 1) := by decide +kernel
theorem d_Mo_members_31 : decode b_Mo_members 31 = .ok (.iload_n 3, 1) := by decide +kernel
theorem d_Mo_members_32 : decode b_Mo_members 32 = .ok (.aload_n 0, 1) := by decide +kernel
theorem d_Mo_members_33 : decode b_Mo_members 33 = .ok (.getfield 118, 3) := by decide +kernel
theorem d_Mo_members_36 : decode b_Mo_members 36 = .ok (.if_icmp .ge 21, 3) := by decide +kernel
theorem d_Mo_members_39 : decode b_Mo_members 39 = .ok (.aload_n 0, 1) := by decide +kernel
theorem d_Mo_members_40 : decode b_Mo_members 40 = .ok (.iload_n 1, 1) := by decide +kernel
theorem d_Mo_members_41 : decode b_Mo_members 41 = .ok (.iload_n 3, 1) := by decide +kernel
theorem d_Mo_members_42 : decode b_Mo_members 42 = .ok (.invokevirtual 286, 3) := by decide +kernel
theorem d_Mo_members_45 : decode b_Mo_members 45 = .ok (.ifCond .eq 6, 3) := by decide +kernel
theorem d_Mo_members_48 : decode b_Mo_members 48 = .ok (.iinc 2 1, 3) := by decide +kernel
theorem d_Mo_members_51 : decode b_Mo_members 51 = .ok (.iinc 3 1, 3) := by decide +kernel
theorem d_Mo_members_54 : decode b_Mo_members 54 = .ok (.goto (-23), 3) := by decide +kernel
theorem d_Mo_members_57 : decode b_Mo_members 57 = .ok (.iload_n 2, 1) := by decide +kernel
theorem d_Mo_members_58 : decode b_Mo_members 58 = .ok (.ireturn, 1) := by decide +kernel
abbrev y_Mo_aligned : MethodName := ⟨"LanguageServerModel", "aligned", "(J)J"⟩
abbrev b_Mo_aligned : ByteArray := prog_13_method_66_code
theorem d_Mo_aligned_0 : decode b_Mo_aligned 0 = .ok (.lload_n 0, 1) := by decide +kernel
theorem d_Mo_aligned_1 : decode b_Mo_aligned 1 = .ok (.lstore_n 2, 1) := by decide +kernel
theorem d_Mo_aligned_2 : decode b_Mo_aligned 2 = .ok (.iconst 0, 1) := by decide +kernel
theorem d_Mo_aligned_3 : decode b_Mo_aligned 3 = .ok (.istore 4, 2) := by decide +kernel
theorem d_Mo_aligned_5 : decode b_Mo_aligned 5 = .ok (.iload 4, 2) := by decide +kernel
theorem d_Mo_aligned_7 : decode b_Mo_aligned 7 = .ok (.bipush 8, 2) := by decide +kernel
theorem d_Mo_aligned_9 : decode b_Mo_aligned 9 = .ok (.if_icmp .ge 29, 3) := by decide +kernel
theorem d_Mo_aligned_12 : decode b_Mo_aligned 12 = .ok (.lload_n 2, 1) := by decide +kernel
theorem d_Mo_aligned_13 : decode b_Mo_aligned 13 = .ok (.lconst 0, 1) := by decide +kernel
theorem d_Mo_aligned_14 : decode b_Mo_aligned 14 = .ok (.lcmp, 1) := by decide +kernel
theorem d_Mo_aligned_15 : decode b_Mo_aligned 15 = .ok (.ifCond .eq 23, 3) := by decide +kernel
theorem d_Mo_aligned_18 : decode b_Mo_aligned 18 = .ok (.lload_n 2, 1) := by decide +kernel
theorem d_Mo_aligned_19 : decode b_Mo_aligned 19 = .ok (.bipush 56, 2) := by decide +kernel
theorem d_Mo_aligned_21 : decode b_Mo_aligned 21 = .ok (.lshr, 1) := by decide +kernel
theorem d_Mo_aligned_22 : decode b_Mo_aligned 22 = .ok (.lconst 0, 1) := by decide +kernel
theorem d_Mo_aligned_23 : decode b_Mo_aligned 23 = .ok (.lcmp, 1) := by decide +kernel
theorem d_Mo_aligned_24 : decode b_Mo_aligned 24 = .ok (.ifCond .ne 14, 3) := by decide +kernel
theorem d_Mo_aligned_27 : decode b_Mo_aligned 27 = .ok (.lload_n 2, 1) := by decide +kernel
theorem d_Mo_aligned_28 : decode b_Mo_aligned 28 = .ok (.bipush 8, 2) := by decide +kernel
theorem d_Mo_aligned_30 : decode b_Mo_aligned 30 = .ok (.lshl, 1) := by decide +kernel
theorem d_Mo_aligned_31 : decode b_Mo_aligned 31 = .ok (.lstore_n 2, 1) := by decide +kernel
theorem d_Mo_aligned_32 : decode b_Mo_aligned 32 = .ok (.iinc 4 1, 3) := by decide +kernel
theorem d_Mo_aligned_35 : decode b_Mo_aligned 35 = .ok (.goto (-30), 3) := by decide +kernel
theorem d_Mo_aligned_38 : decode b_Mo_aligned 38 = .ok (.lload_n 2, 1) := by decide +kernel
theorem d_Mo_aligned_39 : decode b_Mo_aligned 39 = .ok (.lreturn, 1) := by decide +kernel
abbrev y_Mo_before : MethodName := ⟨"LanguageServerModel", "before", "(II)I"⟩
abbrev b_Mo_before : ByteArray := prog_13_method_67_code
theorem d_Mo_before_0 : decode b_Mo_before 0 = .ok (.iconst 0, 1) := by decide +kernel
theorem d_Mo_before_1 : decode b_Mo_before 1 = .ok (.istore_n 3, 1) := by decide +kernel
theorem d_Mo_before_2 : decode b_Mo_before 2 = .ok (.iconst 0, 1) := by decide +kernel
theorem d_Mo_before_3 : decode b_Mo_before 3 = .ok (.istore 4, 2) := by decide +kernel
theorem d_Mo_before_5 : decode b_Mo_before 5 = .ok (.iload 4, 2) := by decide +kernel
theorem d_Mo_before_7 : decode b_Mo_before 7 = .ok (.aload_n 0, 1) := by decide +kernel
theorem d_Mo_before_8 : decode b_Mo_before 8 = .ok (.getfield 118, 3) := by decide +kernel
theorem d_Mo_before_11 : decode b_Mo_before 11 = .ok (.if_icmp .ge 45, 3) := by decide +kernel
theorem d_Mo_before_14 : decode b_Mo_before 14 = .ok (.aload_n 0, 1) := by decide +kernel
theorem d_Mo_before_15 : decode b_Mo_before 15 = .ok (.iload_n 1, 1) := by decide +kernel
theorem d_Mo_before_16 : decode b_Mo_before 16 = .ok (.iload 4, 2) := by decide +kernel
theorem d_Mo_before_18 : decode b_Mo_before 18 = .ok (.invokevirtual 286, 3) := by decide +kernel
theorem d_Mo_before_21 : decode b_Mo_before 21 = .ok (.ifCond .eq 29, 3) := by decide +kernel
theorem d_Mo_before_24 : decode b_Mo_before 24 = .ok (.aload_n 0, 1) := by decide +kernel
theorem d_Mo_before_25 : decode b_Mo_before 25 = .ok (.getfield 19, 3) := by decide +kernel
theorem d_Mo_before_28 : decode b_Mo_before 28 = .ok (.iload 4, 2) := by decide +kernel
theorem d_Mo_before_30 : decode b_Mo_before 30 = .ok (.laload, 1) := by decide +kernel
theorem d_Mo_before_31 : decode b_Mo_before 31 = .ok (.invokestatic 289, 3) := by decide +kernel
theorem d_Mo_before_34 : decode b_Mo_before 34 = .ok (.aload_n 0, 1) := by decide +kernel
theorem d_Mo_before_35 : decode b_Mo_before 35 = .ok (.getfield 19, 3) := by decide +kernel
theorem d_Mo_before_38 : decode b_Mo_before 38 = .ok (.iload_n 2, 1) := by decide +kernel
theorem d_Mo_before_39 : decode b_Mo_before 39 = .ok (.laload, 1) := by decide +kernel
theorem d_Mo_before_40 : decode b_Mo_before 40 = .ok (.invokestatic 289, 3) := by decide +kernel
theorem d_Mo_before_43 : decode b_Mo_before 43 = .ok (.lcmp, 1) := by decide +kernel
theorem d_Mo_before_44 : decode b_Mo_before 44 = .ok (.ifCond .ge 6, 3) := by decide +kernel
theorem d_Mo_before_47 : decode b_Mo_before 47 = .ok (.iinc 3 1, 3) := by decide +kernel
theorem d_Mo_before_50 : decode b_Mo_before 50 = .ok (.iinc 4 1, 3) := by decide +kernel
theorem d_Mo_before_53 : decode b_Mo_before 53 = .ok (.goto (-48), 3) := by decide +kernel
theorem d_Mo_before_56 : decode b_Mo_before 56 = .ok (.iload_n 3, 1) := by decide +kernel
theorem d_Mo_before_57 : decode b_Mo_before 57 = .ok (.ireturn, 1) := by decide +kernel
abbrev y_Mo_member : MethodName := ⟨"LanguageServerModel", "member", "(II)I"⟩
abbrev b_Mo_member : ByteArray := prog_13_method_68_code
theorem d_Mo_member_0 : decode b_Mo_member 0 = .ok (.aload_n 0, 1) := by decide +kernel
theorem d_Mo_member_1 : decode b_Mo_member 1 = .ok (.iconst 0, 1) := by decide +kernel
theorem d_Mo_member_2 : decode b_Mo_member 2 = .ok (.putfield 81, 3) := by decide +kernel
theorem d_Mo_member_5 : decode b_Mo_member 5 = .ok (.aload_n 0, 1) := by decide +kernel
theorem d_Mo_member_6 : decode b_Mo_member 6 = .ok (.invokevirtual 274, 3) := by decide +kernel
theorem d_Mo_member_9 : decode b_Mo_member 9 = .ok (.iload_n 1, 1) := by decide +kernel
theorem d_Mo_member_10 : decode b_Mo_member 10 = .ok (.ifCond .lt 11, 3) := by decide +kernel
theorem d_Mo_member_13 : decode b_Mo_member 13 = .ok (.iload_n 1, 1) := by decide +kernel
theorem d_Mo_member_14 : decode b_Mo_member 14 = .ok (.aload_n 0, 1) := by decide +kernel
theorem d_Mo_member_15 : decode b_Mo_member 15 = .ok (.getfield 180, 3) := by decide +kernel
theorem d_Mo_member_18 : decode b_Mo_member 18 = .ok (.if_icmp .lt 9, 3) := by decide +kernel
theorem d_Mo_member_21 : decode b_Mo_member 21 = .ok (.aload_n 0, 1) := by decide +kernel
theorem d_Mo_member_22 : decode b_Mo_member 22 = .ok (.iconst 1, 1) := by decide +kernel
theorem d_Mo_member_23 : decode b_Mo_member 23 = .ok (.invokevirtual 92, 3) := by decide +kernel
theorem d_Mo_member_26 : decode b_Mo_member 26 = .ok (.ireturn, 1) := by decide +kernel
theorem d_Mo_member_27 : decode b_Mo_member 27 = .ok (.iconst 0, 1) := by decide +kernel
theorem d_Mo_member_28 : decode b_Mo_member 28 = .ok (.istore_n 3, 1) := by decide +kernel
theorem d_Mo_member_29 : decode b_Mo_member 29 = .ok (.iload_n 3, 1) := by decide +kernel
theorem d_Mo_member_30 : decode b_Mo_member 30 = .ok (.aload_n 0, 1) := by decide +kernel
theorem d_Mo_member_31 : decode b_Mo_member 31 = .ok (.getfield 118, 3) := by decide +kernel
theorem d_Mo_member_34 : decode b_Mo_member 34 = .ok (.if_icmp .ge 35, 3) := by decide +kernel
theorem d_Mo_member_37 : decode b_Mo_member 37 = .ok (.aload_n 0, 1) := by decide +kernel
theorem d_Mo_member_38 : decode b_Mo_member 38 = .ok (.iload_n 1, 1) := by decide +kernel
theorem d_Mo_member_39 : decode b_Mo_member 39 = .ok (.iload_n 3, 1) := by decide +kernel
theorem d_Mo_member_40 : decode b_Mo_member 40 = .ok (.invokevirtual 286, 3) := by decide +kernel
theorem d_Mo_member_43 : decode b_Mo_member 43 = .ok (.ifCond .eq 20, 3) := by decide +kernel
theorem d_Mo_member_46 : decode b_Mo_member 46 = .ok (.aload_n 0, 1) := by decide +kernel
theorem d_Mo_member_47 : decode b_Mo_member 47 = .ok (.iload_n 1, 1) := by decide +kernel
theorem d_Mo_member_48 : decode b_Mo_member 48 = .ok (.iload_n 3, 1) := by decide +kernel
theorem d_Mo_member_49 : decode b_Mo_member 49 = .ok (.invokevirtual 293, 3) := by decide +kernel
theorem d_Mo_member_52 : decode b_Mo_member 52 = .ok (.iload_n 2, 1) := by decide +kernel
theorem d_Mo_member_53 : decode b_Mo_member 53 = .ok (.if_icmp .ne 10, 3) := by decide +kernel
theorem d_Mo_member_56 : decode b_Mo_member 56 = .ok (.aload_n 0, 1) := by decide +kernel
theorem d_Mo_member_57 : decode b_Mo_member 57 = .ok (.getfield 23, 3) := by decide +kernel
theorem d_Mo_member_60 : decode b_Mo_member 60 = .ok (.iload_n 3, 1) := by decide +kernel
theorem d_Mo_member_61 : decode b_Mo_member 61 = .ok (.iaload, 1) := by decide +kernel
theorem d_Mo_member_62 : decode b_Mo_member 62 = .ok (.ireturn, 1) := by decide +kernel
theorem d_Mo_member_63 : decode b_Mo_member 63 = .ok (.iinc 3 1, 3) := by decide +kernel
theorem d_Mo_member_66 : decode b_Mo_member 66 = .ok (.goto (-37), 3) := by decide +kernel
theorem d_Mo_member_69 : decode b_Mo_member 69 = .ok (.aload_n 0, 1) := by decide +kernel
theorem d_Mo_member_70 : decode b_Mo_member 70 = .ok (.iconst 1, 1) := by decide +kernel
theorem d_Mo_member_71 : decode b_Mo_member 71 = .ok (.invokevirtual 92, 3) := by decide +kernel
theorem d_Mo_member_74 : decode b_Mo_member 74 = .ok (.ireturn, 1) := by decide +kernel
abbrev y_Mo_newName : MethodName := ⟨"LanguageServerModel", "newName", "(JI)Z"⟩
abbrev b_Mo_newName : ByteArray := prog_13_method_69_code
theorem d_Mo_newName_0 : decode b_Mo_newName 0 = .ok (.iload_n 3, 1) := by decide +kernel
theorem d_Mo_newName_1 : decode b_Mo_newName 1 = .ok (.iconst 1, 1) := by decide +kernel
theorem d_Mo_newName_2 : decode b_Mo_newName 2 = .ok (.if_icmp .lt 9, 3) := by decide +kernel
theorem d_Mo_newName_5 : decode b_Mo_newName 5 = .ok (.iload_n 3, 1) := by decide +kernel
theorem d_Mo_newName_6 : decode b_Mo_newName 6 = .ok (.bipush 8, 2) := by decide +kernel
theorem d_Mo_newName_8 : decode b_Mo_newName 8 = .ok (.if_icmp .le 5, 3) := by decide +kernel
theorem d_Mo_newName_11 : decode b_Mo_newName 11 = .ok (.iconst 0, 1) := by decide +kernel
theorem d_Mo_newName_12 : decode b_Mo_newName 12 = .ok (.ireturn, 1) := by decide +kernel
theorem d_Mo_newName_13 : decode b_Mo_newName 13 = .ok (.lconst 0, 1) := by decide +kernel
theorem d_Mo_newName_14 : decode b_Mo_newName 14 = .ok (.lstore 4, 2) := by decide +kernel
theorem d_Mo_newName_16 : decode b_Mo_newName 16 = .ok (.iload_n 3, 1) := by decide +kernel
theorem d_Mo_newName_17 : decode b_Mo_newName 17 = .ok (.iconst 1, 1) := by decide +kernel
theorem d_Mo_newName_18 : decode b_Mo_newName 18 = .ok (.isub, 1) := by decide +kernel
theorem d_Mo_newName_19 : decode b_Mo_newName 19 = .ok (.istore 6, 2) := by decide +kernel
theorem d_Mo_newName_21 : decode b_Mo_newName 21 = .ok (.iload 6, 2) := by decide +kernel
theorem d_Mo_newName_23 : decode b_Mo_newName 23 = .ok (.ifCond .lt 54, 3) := by decide +kernel
theorem d_Mo_newName_26 : decode b_Mo_newName 26 = .ok (.lload_n 1, 1) := by decide +kernel
theorem d_Mo_newName_27 : decode b_Mo_newName 27 = .ok (.iload 6, 2) := by decide +kernel
theorem d_Mo_newName_29 : decode b_Mo_newName 29 = .ok (.invokestatic 96, 3) := by decide +kernel
theorem d_Mo_newName_32 : decode b_Mo_newName 32 = .ok (.istore 7, 2) := by decide +kernel
theorem d_Mo_newName_34 : decode b_Mo_newName 34 = .ok (.iload 7, 2) := by decide +kernel
theorem d_Mo_newName_36 : decode b_Mo_newName 36 = .ok (.invokestatic 112, 3) := by decide +kernel
theorem d_Mo_newName_39 : decode b_Mo_newName 39 = .ok (.ifCond .ne 21, 3) := by decide +kernel
theorem d_Mo_newName_42 : decode b_Mo_newName 42 = .ok (.iload 6, 2) := by decide +kernel
theorem d_Mo_newName_44 : decode b_Mo_newName 44 = .ok (.iload_n 3, 1) := by decide +kernel
theorem d_Mo_newName_45 : decode b_Mo_newName 45 = .ok (.iconst 1, 1) := by decide +kernel
theorem d_Mo_newName_46 : decode b_Mo_newName 46 = .ok (.isub, 1) := by decide +kernel
theorem d_Mo_newName_47 : decode b_Mo_newName 47 = .ok (.if_icmp .eq 11, 3) := by decide +kernel
theorem d_Mo_newName_50 : decode b_Mo_newName 50 = .ok (.iload 7, 2) := by decide +kernel
theorem d_Mo_newName_52 : decode b_Mo_newName 52 = .ok (.invokestatic 115, 3) := by decide +kernel
theorem d_Mo_newName_55 : decode b_Mo_newName 55 = .ok (.ifCond .ne 5, 3) := by decide +kernel
theorem d_Mo_newName_58 : decode b_Mo_newName 58 = .ok (.iconst 0, 1) := by decide +kernel
theorem d_Mo_newName_59 : decode b_Mo_newName 59 = .ok (.ireturn, 1) := by decide +kernel
theorem d_Mo_newName_60 : decode b_Mo_newName 60 = .ok (.lload 4, 2) := by decide +kernel
theorem d_Mo_newName_62 : decode b_Mo_newName 62 = .ok (.bipush 8, 2) := by decide +kernel
theorem d_Mo_newName_64 : decode b_Mo_newName 64 = .ok (.lshl, 1) := by decide +kernel
theorem d_Mo_newName_65 : decode b_Mo_newName 65 = .ok (.iload 7, 2) := by decide +kernel
theorem d_Mo_newName_67 : decode b_Mo_newName 67 = .ok (.i2l, 1) := by decide +kernel
theorem d_Mo_newName_68 : decode b_Mo_newName 68 = .ok (.lor, 1) := by decide +kernel
theorem d_Mo_newName_69 : decode b_Mo_newName 69 = .ok (.lstore 4, 2) := by decide +kernel
theorem d_Mo_newName_71 : decode b_Mo_newName 71 = .ok (.iinc 6 (-1), 3) := by decide +kernel
theorem d_Mo_newName_74 : decode b_Mo_newName 74 = .ok (.goto (-53), 3) := by decide +kernel
theorem d_Mo_newName_77 : decode b_Mo_newName 77 = .ok (.lload 4, 2) := by decide +kernel
theorem d_Mo_newName_79 : decode b_Mo_newName 79 = .ok (.invokestatic 121, 3) := by decide +kernel
theorem d_Mo_newName_82 : decode b_Mo_newName 82 = .ok (.iconst 1, 1) := by decide +kernel
theorem d_Mo_newName_83 : decode b_Mo_newName 83 = .ok (.if_icmp .ne 7, 3) := by decide +kernel
theorem d_Mo_newName_86 : decode b_Mo_newName 86 = .ok (.iconst 1, 1) := by decide +kernel
theorem d_Mo_newName_87 : decode b_Mo_newName 87 = .ok (.goto 4, 3) := by decide +kernel
theorem d_Mo_newName_90 : decode b_Mo_newName 90 = .ok (.iconst 0, 1) := by decide +kernel
theorem d_Mo_newName_91 : decode b_Mo_newName 91 = .ok (.ireturn, 1) := by decide +kernel
abbrev y_Mo_save : MethodName := ⟨"LanguageServerModel", "save", "()V"⟩
abbrev b_Mo_save : ByteArray := prog_13_method_70_code
theorem d_Mo_save_0 : decode b_Mo_save 0 = .ok (.aload_n 0, 1) := by decide +kernel
theorem d_Mo_save_1 : decode b_Mo_save 1 = .ok (.aload_n 0, 1) := by decide +kernel
theorem d_Mo_save_2 : decode b_Mo_save 2 = .ok (.getfield 85, 3) := by decide +kernel
theorem d_Mo_save_5 : decode b_Mo_save 5 = .ok (.putfield 296, 3) := by decide +kernel
theorem d_Mo_save_8 : decode b_Mo_save 8 = .ok (.iconst 0, 1) := by decide +kernel
theorem d_Mo_save_9 : decode b_Mo_save 9 = .ok (.istore_n 1, 1) := by decide +kernel
theorem d_Mo_save_10 : decode b_Mo_save 10 = .ok (.iload_n 1, 1) := by decide +kernel
theorem d_Mo_save_11 : decode b_Mo_save 11 = .ok (.sipush 240, 3) := by decide +kernel
theorem d_Mo_save_14 : decode b_Mo_save 14 = .ok (.if_icmp .ge 21, 3) := by decide +kernel
theorem d_Mo_save_17 : decode b_Mo_save 17 = .ok (.aload_n 0, 1) := by decide +kernel
theorem d_Mo_save_18 : decode b_Mo_save 18 = .ok (.getfield 13, 3) := by decide +kernel
theorem d_Mo_save_21 : decode b_Mo_save 21 = .ok (.iload_n 1, 1) := by decide +kernel
theorem d_Mo_save_22 : decode b_Mo_save 22 = .ok (.aload_n 0, 1) := by decide +kernel
theorem d_Mo_save_23 : decode b_Mo_save 23 = .ok (.getfield 7, 3) := by decide +kernel
theorem d_Mo_save_26 : decode b_Mo_save 26 = .ok (.iload_n 1, 1) := by decide +kernel
theorem d_Mo_save_27 : decode b_Mo_save 27 = .ok (.iaload, 1) := by decide +kernel
theorem d_Mo_save_28 : decode b_Mo_save 28 = .ok (.iastore, 1) := by decide +kernel
theorem d_Mo_save_29 : decode b_Mo_save 29 = .ok (.iinc 1 1, 3) := by decide +kernel
theorem d_Mo_save_32 : decode b_Mo_save 32 = .ok (.goto (-22), 3) := by decide +kernel
theorem d_Mo_save_35 : decode b_Mo_save 35 = .ok (.iconst 0, 1) := by decide +kernel
theorem d_Mo_save_36 : decode b_Mo_save 36 = .ok (.istore_n 1, 1) := by decide +kernel
theorem d_Mo_save_37 : decode b_Mo_save 37 = .ok (.iload_n 1, 1) := by decide +kernel
theorem d_Mo_save_38 : decode b_Mo_save 38 = .ok (.bipush 124, 2) := by decide +kernel
theorem d_Mo_save_40 : decode b_Mo_save 40 = .ok (.if_icmp .ge 33, 3) := by decide +kernel
theorem d_Mo_save_43 : decode b_Mo_save 43 = .ok (.aload_n 0, 1) := by decide +kernel
theorem d_Mo_save_44 : decode b_Mo_save 44 = .ok (.getfield 53, 3) := by decide +kernel
theorem d_Mo_save_47 : decode b_Mo_save 47 = .ok (.iload_n 1, 1) := by decide +kernel
theorem d_Mo_save_48 : decode b_Mo_save 48 = .ok (.iload_n 1, 1) := by decide +kernel
theorem d_Mo_save_49 : decode b_Mo_save 49 = .ok (.aload_n 0, 1) := by decide +kernel
theorem d_Mo_save_50 : decode b_Mo_save 50 = .ok (.getfield 118, 3) := by decide +kernel
theorem d_Mo_save_53 : decode b_Mo_save 53 = .ok (.if_icmp .ge 12, 3) := by decide +kernel
theorem d_Mo_save_56 : decode b_Mo_save 56 = .ok (.aload_n 0, 1) := by decide +kernel
theorem d_Mo_save_57 : decode b_Mo_save 57 = .ok (.getfield 50, 3) := by decide +kernel
theorem d_Mo_save_60 : decode b_Mo_save 60 = .ok (.iload_n 1, 1) := by decide +kernel
theorem d_Mo_save_61 : decode b_Mo_save 61 = .ok (.iaload, 1) := by decide +kernel
theorem d_Mo_save_62 : decode b_Mo_save 62 = .ok (.goto 4, 3) := by decide +kernel
theorem d_Mo_save_65 : decode b_Mo_save 65 = .ok (.iconst (-1), 1) := by decide +kernel
theorem d_Mo_save_66 : decode b_Mo_save 66 = .ok (.iastore, 1) := by decide +kernel
theorem d_Mo_save_67 : decode b_Mo_save 67 = .ok (.iinc 1 1, 3) := by decide +kernel
theorem d_Mo_save_70 : decode b_Mo_save 70 = .ok (.goto (-33), 3) := by decide +kernel
theorem d_Mo_save_73 : decode b_Mo_save 73 = .ok (.return_, 1) := by decide +kernel
abbrev y_Mo_back : MethodName := ⟨"LanguageServerModel", "back", "()I"⟩
abbrev b_Mo_back : ByteArray := prog_13_method_71_code
theorem d_Mo_back_0 : decode b_Mo_back 0 = .ok (.aload_n 0, 1) := by decide +kernel
theorem d_Mo_back_1 : decode b_Mo_back 1 = .ok (.aload_n 0, 1) := by decide +kernel
theorem d_Mo_back_2 : decode b_Mo_back 2 = .ok (.getfield 296, 3) := by decide +kernel
theorem d_Mo_back_5 : decode b_Mo_back 5 = .ok (.putfield 85, 3) := by decide +kernel
theorem d_Mo_back_8 : decode b_Mo_back 8 = .ok (.iconst 0, 1) := by decide +kernel
theorem d_Mo_back_9 : decode b_Mo_back 9 = .ok (.istore_n 1, 1) := by decide +kernel
theorem d_Mo_back_10 : decode b_Mo_back 10 = .ok (.iload_n 1, 1) := by decide +kernel
theorem d_Mo_back_11 : decode b_Mo_back 11 = .ok (.sipush 240, 3) := by decide +kernel
theorem d_Mo_back_14 : decode b_Mo_back 14 = .ok (.if_icmp .ge 21, 3) := by decide +kernel
theorem d_Mo_back_17 : decode b_Mo_back 17 = .ok (.aload_n 0, 1) := by decide +kernel
theorem d_Mo_back_18 : decode b_Mo_back 18 = .ok (.getfield 7, 3) := by decide +kernel
theorem d_Mo_back_21 : decode b_Mo_back 21 = .ok (.iload_n 1, 1) := by decide +kernel
theorem d_Mo_back_22 : decode b_Mo_back 22 = .ok (.aload_n 0, 1) := by decide +kernel
theorem d_Mo_back_23 : decode b_Mo_back 23 = .ok (.getfield 13, 3) := by decide +kernel
theorem d_Mo_back_26 : decode b_Mo_back 26 = .ok (.iload_n 1, 1) := by decide +kernel
theorem d_Mo_back_27 : decode b_Mo_back 27 = .ok (.iaload, 1) := by decide +kernel
theorem d_Mo_back_28 : decode b_Mo_back 28 = .ok (.iastore, 1) := by decide +kernel
theorem d_Mo_back_29 : decode b_Mo_back 29 = .ok (.iinc 1 1, 3) := by decide +kernel
theorem d_Mo_back_32 : decode b_Mo_back 32 = .ok (.goto (-22), 3) := by decide +kernel
theorem d_Mo_back_35 : decode b_Mo_back 35 = .ok (.aload_n 0, 1) := by decide +kernel
theorem d_Mo_back_36 : decode b_Mo_back 36 = .ok (.iconst 3, 1) := by decide +kernel
theorem d_Mo_back_37 : decode b_Mo_back 37 = .ok (.invokevirtual 92, 3) := by decide +kernel
theorem d_Mo_back_40 : decode b_Mo_back 40 = .ok (.ireturn, 1) := by decide +kernel
abbrev y_Mo_replace : MethodName := ⟨"LanguageServerModel", "replace", "(IIJI)V"⟩
abbrev b_Mo_replace : ByteArray := prog_13_method_72_code
theorem d_Mo_replace_0 : decode b_Mo_replace 0 = .ok (.aload_n 0, 1) := by decide +kernel
theorem d_Mo_replace_1 : decode b_Mo_replace 1 = .ok (.iload_n 1, 1) := by decide +kernel
theorem d_Mo_replace_2 : decode b_Mo_replace 2 = .ok (.iload_n 2, 1) := by decide +kernel
theorem d_Mo_replace_3 : decode b_Mo_replace 3 = .ok (.invokevirtual 299, 3) := by decide +kernel
theorem d_Mo_replace_6 : decode b_Mo_replace 6 = .ok (.pop, 1) := by decide +kernel
theorem d_Mo_replace_7 : decode b_Mo_replace 7 = .ok (.iload 5, 2) := by decide +kernel
theorem d_Mo_replace_9 : decode b_Mo_replace 9 = .ok (.iconst 1, 1) := by decide +kernel
theorem d_Mo_replace_10 : decode b_Mo_replace 10 = .ok (.isub, 1) := by decide +kernel
theorem d_Mo_replace_11 : decode b_Mo_replace 11 = .ok (.istore 6, 2) := by decide +kernel
theorem d_Mo_replace_13 : decode b_Mo_replace 13 = .ok (.iload 6, 2) := by decide +kernel
theorem d_Mo_replace_15 : decode b_Mo_replace 15 = .ok (.ifCond .lt 29, 3) := by decide +kernel
theorem d_Mo_replace_18 : decode b_Mo_replace 18 = .ok (.aload_n 0, 1) := by decide +kernel
theorem d_Mo_replace_19 : decode b_Mo_replace 19 = .ok (.iload_n 1, 1) := by decide +kernel
theorem d_Mo_replace_20 : decode b_Mo_replace 20 = .ok (.iload 5, 2) := by decide +kernel
theorem d_Mo_replace_22 : decode b_Mo_replace 22 = .ok (.iadd, 1) := by decide +kernel
theorem d_Mo_replace_23 : decode b_Mo_replace 23 = .ok (.iconst 1, 1) := by decide +kernel
theorem d_Mo_replace_24 : decode b_Mo_replace 24 = .ok (.isub, 1) := by decide +kernel
theorem d_Mo_replace_25 : decode b_Mo_replace 25 = .ok (.iload 6, 2) := by decide +kernel
theorem d_Mo_replace_27 : decode b_Mo_replace 27 = .ok (.isub, 1) := by decide +kernel
theorem d_Mo_replace_28 : decode b_Mo_replace 28 = .ok (.lload_n 3, 1) := by decide +kernel
theorem d_Mo_replace_29 : decode b_Mo_replace 29 = .ok (.iload 6, 2) := by decide +kernel
theorem d_Mo_replace_31 : decode b_Mo_replace 31 = .ok (.invokestatic 96, 3) := by decide +kernel
theorem d_Mo_replace_34 : decode b_Mo_replace 34 = .ok (.invokevirtual 302, 3) := by decide +kernel
theorem d_Mo_replace_37 : decode b_Mo_replace 37 = .ok (.pop, 1) := by decide +kernel
theorem d_Mo_replace_38 : decode b_Mo_replace 38 = .ok (.iinc 6 (-1), 3) := by decide +kernel
theorem d_Mo_replace_41 : decode b_Mo_replace 41 = .ok (.goto (-28), 3) := by decide +kernel
theorem d_Mo_replace_44 : decode b_Mo_replace 44 = .ok (.return_, 1) := by decide +kernel
abbrev y_Mo_same : MethodName := ⟨"LanguageServerModel", "same", "(I)Z"⟩
abbrev b_Mo_same : ByteArray := prog_13_method_73_code
theorem d_Mo_same_0 : decode b_Mo_same 0 = .ok (.iconst 0, 1) := by decide +kernel
theorem d_Mo_same_1 : decode b_Mo_same 1 = .ok (.istore_n 2, 1) := by decide +kernel
theorem d_Mo_same_2 : decode b_Mo_same 2 = .ok (.iload_n 2, 1) := by decide +kernel
theorem d_Mo_same_3 : decode b_Mo_same 3 = .ok (.bipush 124, 2) := by decide +kernel
theorem d_Mo_same_5 : decode b_Mo_same 5 = .ok (.if_icmp .ge 77, 3) := by decide +kernel
theorem d_Mo_same_8 : decode b_Mo_same 8 = .ok (.aload_n 0, 1) := by decide +kernel
theorem d_Mo_same_9 : decode b_Mo_same 9 = .ok (.getfield 53, 3) := by decide +kernel
theorem d_Mo_same_12 : decode b_Mo_same 12 = .ok (.iload_n 2, 1) := by decide +kernel
theorem d_Mo_same_13 : decode b_Mo_same 13 = .ok (.iaload, 1) := by decide +kernel
theorem d_Mo_same_14 : decode b_Mo_same 14 = .ok (.aload_n 0, 1) := by decide +kernel
theorem d_Mo_same_15 : decode b_Mo_same 15 = .ok (.getfield 53, 3) := by decide +kernel
theorem d_Mo_same_18 : decode b_Mo_same 18 = .ok (.iload_n 1, 1) := by decide +kernel
theorem d_Mo_same_19 : decode b_Mo_same 19 = .ok (.iaload, 1) := by decide +kernel
theorem d_Mo_same_20 : decode b_Mo_same 20 = .ok (.if_icmp .ne 7, 3) := by decide +kernel
theorem d_Mo_same_23 : decode b_Mo_same 23 = .ok (.iconst 1, 1) := by decide +kernel
theorem d_Mo_same_24 : decode b_Mo_same 24 = .ok (.goto 4, 3) := by decide +kernel
theorem d_Mo_same_27 : decode b_Mo_same 27 = .ok (.iconst 0, 1) := by decide +kernel
theorem d_Mo_same_28 : decode b_Mo_same 28 = .ok (.istore_n 3, 1) := by decide +kernel
theorem d_Mo_same_29 : decode b_Mo_same 29 = .ok (.iload_n 2, 1) := by decide +kernel
theorem d_Mo_same_30 : decode b_Mo_same 30 = .ok (.aload_n 0, 1) := by decide +kernel
theorem d_Mo_same_31 : decode b_Mo_same 31 = .ok (.getfield 118, 3) := by decide +kernel
theorem d_Mo_same_34 : decode b_Mo_same 34 = .ok (.if_icmp .ge 31, 3) := by decide +kernel
theorem d_Mo_same_37 : decode b_Mo_same 37 = .ok (.aload_n 0, 1) := by decide +kernel
theorem d_Mo_same_38 : decode b_Mo_same 38 = .ok (.getfield 50, 3) := by decide +kernel
theorem d_Mo_same_41 : decode b_Mo_same 41 = .ok (.iload_n 2, 1) := by decide +kernel
theorem d_Mo_same_42 : decode b_Mo_same 42 = .ok (.iaload, 1) := by decide +kernel
theorem d_Mo_same_43 : decode b_Mo_same 43 = .ok (.aload_n 0, 1) := by decide +kernel
theorem d_Mo_same_44 : decode b_Mo_same 44 = .ok (.getfield 50, 3) := by decide +kernel
theorem d_Mo_same_47 : decode b_Mo_same 47 = .ok (.iload_n 1, 1) := by decide +kernel
theorem d_Mo_same_48 : decode b_Mo_same 48 = .ok (.iaload, 1) := by decide +kernel
theorem d_Mo_same_49 : decode b_Mo_same 49 = .ok (.if_icmp .ne 16, 3) := by decide +kernel
theorem d_Mo_same_52 : decode b_Mo_same 52 = .ok (.aload_n 0, 1) := by decide +kernel
theorem d_Mo_same_53 : decode b_Mo_same 53 = .ok (.getfield 50, 3) := by decide +kernel
theorem d_Mo_same_56 : decode b_Mo_same 56 = .ok (.iload_n 2, 1) := by decide +kernel
theorem d_Mo_same_57 : decode b_Mo_same 57 = .ok (.iaload, 1) := by decide +kernel
theorem d_Mo_same_58 : decode b_Mo_same 58 = .ok (.ifCond .lt 7, 3) := by decide +kernel
theorem d_Mo_same_61 : decode b_Mo_same 61 = .ok (.iconst 1, 1) := by decide +kernel
theorem d_Mo_same_62 : decode b_Mo_same 62 = .ok (.goto 4, 3) := by decide +kernel
theorem d_Mo_same_65 : decode b_Mo_same 65 = .ok (.iconst 0, 1) := by decide +kernel
theorem d_Mo_same_66 : decode b_Mo_same 66 = .ok (.istore 4, 2) := by decide +kernel
theorem d_Mo_same_68 : decode b_Mo_same 68 = .ok (.iload_n 3, 1) := by decide +kernel
theorem d_Mo_same_69 : decode b_Mo_same 69 = .ok (.iload 4, 2) := by decide +kernel
theorem d_Mo_same_71 : decode b_Mo_same 71 = .ok (.if_icmp .eq 5, 3) := by decide +kernel
theorem d_Mo_same_74 : decode b_Mo_same 74 = .ok (.iconst 0, 1) := by decide +kernel
theorem d_Mo_same_75 : decode b_Mo_same 75 = .ok (.ireturn, 1) := by decide +kernel
theorem d_Mo_same_76 : decode b_Mo_same 76 = .ok (.iinc 2 1, 3) := by decide +kernel
theorem d_Mo_same_79 : decode b_Mo_same 79 = .ok (.goto (-77), 3) := by decide +kernel
theorem d_Mo_same_82 : decode b_Mo_same 82 = .ok (.iconst 1, 1) := by decide +kernel
theorem d_Mo_same_83 : decode b_Mo_same 83 = .ok (.ireturn, 1) := by decide +kernel
