theorem wd_2 : (Jvm.Cond.initialized "LanguageServer$Reading") ∈ Tg := tg_1 (i := 2) rfl rfl
theorem wd_47 : (Jvm.Cond.fieldLink "LanguageServer$Reading" (98 : Nat) "LanguageServer$Text" "length" "I") ∈ Tg := tg_1 (i := 47) rfl rfl
theorem wd_584 : (Jvm.Cond.instanceMethod ({ cls := "LanguageServer$Complaints", name := "total", desc := "()I" } : Jvm.MethodName)) ∈ Tg := tg_3 (i := 104) rfl rfl
theorem wd_585 : (Jvm.Cond.selects "LanguageServer$Complaints" ({ cls := "LanguageServer$Complaints", name := "total", desc := "()I" } : Jvm.MethodName) ({ cls := "LanguageServer$Complaints", name := "total", desc := "()I" } : Jvm.MethodName)) ∈ Tg := tg_3 (i := 105) rfl rfl
theorem wd_586 : (Jvm.Cond.code ({ cls := "LanguageServer$Complaints", name := "total", desc := "()I" } : Jvm.MethodName) prog_2_method_6_code (3 : Nat) (Option.some Jvm.ClassFile.FieldType.int)) ∈ Tg := tg_3 (i := 106) rfl rfl
theorem wd_698 : (Jvm.Cond.instanceMethod ({ cls := "LanguageServer$Reading", name := "touch", desc := "()V" } : Jvm.MethodName)) ∈ Tg := tg_3 (i := 218) rfl rfl
theorem wd_699 : (Jvm.Cond.selects "LanguageServer$Reading" ({ cls := "LanguageServer$Reading", name := "touch", desc := "()V" } : Jvm.MethodName) ({ cls := "LanguageServer$Reading", name := "touch", desc := "()V" } : Jvm.MethodName)) ∈ Tg := tg_3 (i := 219) rfl rfl
theorem wd_700 : (Jvm.Cond.code ({ cls := "LanguageServer$Reading", name := "touch", desc := "()V" } : Jvm.MethodName) prog_7_method_2_code (1 : Nat) (Option.none : Option Jvm.ClassFile.FieldType)) ∈ Tg := tg_3 (i := 220) rfl rfl
theorem wd_717 : (Jvm.Cond.instanceMethod ({ cls := "LanguageServer$Text", name := "addBytes", desc := "(JI)V" } : Jvm.MethodName)) ∈ Tg := tg_3 (i := 237) rfl rfl
theorem wd_718 : (Jvm.Cond.selects "LanguageServer$Text" ({ cls := "LanguageServer$Text", name := "addBytes", desc := "(JI)V" } : Jvm.MethodName) ({ cls := "LanguageServer$Text", name := "addBytes", desc := "(JI)V" } : Jvm.MethodName)) ∈ Tg := tg_3 (i := 238) rfl rfl
theorem wd_719 : (Jvm.Cond.code ({ cls := "LanguageServer$Text", name := "addBytes", desc := "(JI)V" } : Jvm.MethodName) prog_10_method_4_code (5 : Nat) (Option.none : Option Jvm.ClassFile.FieldType)) ∈ Tg := tg_3 (i := 239) rfl rfl
theorem wd_873 : (Jvm.Cond.methodLink "LanguageServer$Reading" (101 : Nat) ({ cls := "LanguageServer$Text", name := "addPart", desc := "(LLanguageServer$Text;II)V" } : Jvm.MethodName)) ∈ Tg := tg_4 (i := 153) rfl rfl
theorem wd_874 : (Jvm.Cond.instanceMethod ({ cls := "LanguageServer$Text", name := "addPart", desc := "(LLanguageServer$Text;II)V" } : Jvm.MethodName)) ∈ Tg := tg_4 (i := 154) rfl rfl
theorem wd_875 : (Jvm.Cond.selects "LanguageServer$Text" ({ cls := "LanguageServer$Text", name := "addPart", desc := "(LLanguageServer$Text;II)V" } : Jvm.MethodName) ({ cls := "LanguageServer$Text", name := "addPart", desc := "(LLanguageServer$Text;II)V" } : Jvm.MethodName)) ∈ Tg := tg_4 (i := 155) rfl rfl
theorem wd_876 : (Jvm.Cond.code ({ cls := "LanguageServer$Text", name := "addPart", desc := "(LLanguageServer$Text;II)V" } : Jvm.MethodName) prog_10_method_5_code (5 : Nat) (Option.none : Option Jvm.ClassFile.FieldType)) ∈ Tg := tg_4 (i := 156) rfl rfl
theorem wd_877 : (Jvm.Cond.methodLink "LanguageServer$Reading" (105 : Nat) ({ cls := "LanguageServer$Text", name := "addBytes", desc := "(JI)V" } : Jvm.MethodName)) ∈ Tg := tg_4 (i := 157) rfl rfl
theorem wd_878 : (Jvm.Cond.methodLink "LanguageServer$Reading" (109 : Nat) ({ cls := "LanguageServer$Reading", name := "touch", desc := "()V" } : Jvm.MethodName)) ∈ Tg := tg_4 (i := 158) rfl rfl
theorem wd_883 : (Jvm.Cond.methodLink "LanguageServer$Reading" (112 : Nat) ({ cls := "LanguageServer$Complaints", name := "total", desc := "()I" } : Jvm.MethodName)) ∈ Tg := tg_4 (i := 163) rfl rfl
abbrev y_Text_addPart : MethodName := ⟨"LanguageServer$Text", "addPart", "(LLanguageServer$Text;II)V"⟩
abbrev b_Text_addPart : ByteArray := prog_10_method_5_code
theorem d_Text_addPart_0 : decode b_Text_addPart 0 = .ok (.iload_n 2, 1) := by decide +kernel
theorem d_Text_addPart_1 : decode b_Text_addPart 1 = .ok (.istore 4, 2) := by decide +kernel
theorem d_Text_addPart_3 : decode b_Text_addPart 3 = .ok (.iload 4, 2) := by decide +kernel
theorem d_Text_addPart_5 : decode b_Text_addPart 5 = .ok (.iload_n 3, 1) := by decide +kernel
theorem d_Text_addPart_6 : decode b_Text_addPart 6 = .ok (.if_icmp .ge 20, 3) := by decide +kernel
theorem d_Text_addPart_9 : decode b_Text_addPart 9 = .ok (.aload_n 0, 1) := by decide +kernel
theorem d_Text_addPart_10 : decode b_Text_addPart 10 = .ok (.aload_n 1, 1) := by decide +kernel
theorem d_Text_addPart_11 : decode b_Text_addPart 11 = .ok (.getfield 9, 3) := by decide +kernel
theorem d_Text_addPart_14 : decode b_Text_addPart 14 = .ok (.iload 4, 2) := by decide +kernel
theorem d_Text_addPart_16 : decode b_Text_addPart 16 = .ok (.iaload, 1) := by decide +kernel
theorem d_Text_addPart_17 : decode b_Text_addPart 17 = .ok (.invokevirtual 29, 3) := by decide +kernel
theorem d_Text_addPart_20 : decode b_Text_addPart 20 = .ok (.iinc 4 1, 3) := by decide +kernel
theorem d_Text_addPart_23 : decode b_Text_addPart 23 = .ok (.goto (-20), 3) := by decide +kernel
theorem d_Text_addPart_26 : decode b_Text_addPart 26 = .ok (.return_, 1) := by decide +kernel
abbrev y_Reading_takeRenamed : MethodName := ⟨"LanguageServer$Reading", "takeRenamed", "(LLanguageServer$Reading;IJI)V"⟩
abbrev b_Reading_takeRenamed : ByteArray := prog_7_method_7_code
theorem d_Reading_takeRenamed_0 : decode b_Reading_takeRenamed 0 = .ok (.aload_n 0, 1) := by decide +kernel
theorem d_Reading_takeRenamed_1 : decode b_Reading_takeRenamed 1 = .ok (.getfield 12, 3) := by decide +kernel
theorem d_Reading_takeRenamed_4 : decode b_Reading_takeRenamed 4 = .ok (.iconst 0, 1) := by decide +kernel
theorem d_Reading_takeRenamed_5 : decode b_Reading_takeRenamed 5 = .ok (.putfield 98, 3) := by decide +kernel
theorem d_Reading_takeRenamed_8 : decode b_Reading_takeRenamed 8 = .ok (.iconst 0, 1) := by decide +kernel
theorem d_Reading_takeRenamed_9 : decode b_Reading_takeRenamed 9 = .ok (.istore 6, 2) := by decide +kernel
theorem d_Reading_takeRenamed_11 : decode b_Reading_takeRenamed 11 = .ok (.iconst 0, 1) := by decide +kernel
theorem d_Reading_takeRenamed_12 : decode b_Reading_takeRenamed 12 = .ok (.istore 7, 2) := by decide +kernel
theorem d_Reading_takeRenamed_14 : decode b_Reading_takeRenamed 14 = .ok (.iload 7, 2) := by decide +kernel
theorem d_Reading_takeRenamed_16 : decode b_Reading_takeRenamed 16 = .ok (.aload_n 1, 1) := by decide +kernel
theorem d_Reading_takeRenamed_17 : decode b_Reading_takeRenamed 17 = .ok (.getfield 30, 3) := by decide +kernel
theorem d_Reading_takeRenamed_20 : decode b_Reading_takeRenamed 20 = .ok (.getfield 84, 3) := by decide +kernel
theorem d_Reading_takeRenamed_23 : decode b_Reading_takeRenamed 23 = .ok (.if_icmp .ge 68, 3) := by decide +kernel
theorem d_Reading_takeRenamed_26 : decode b_Reading_takeRenamed 26 = .ok (.aload_n 1, 1) := by decide +kernel
theorem d_Reading_takeRenamed_27 : decode b_Reading_takeRenamed 27 = .ok (.getfield 30, 3) := by decide +kernel
theorem d_Reading_takeRenamed_30 : decode b_Reading_takeRenamed 30 = .ok (.getfield 95, 3) := by decide +kernel
theorem d_Reading_takeRenamed_33 : decode b_Reading_takeRenamed 33 = .ok (.iload 7, 2) := by decide +kernel
theorem d_Reading_takeRenamed_35 : decode b_Reading_takeRenamed 35 = .ok (.iaload, 1) := by decide +kernel
theorem d_Reading_takeRenamed_36 : decode b_Reading_takeRenamed 36 = .ok (.iload_n 2, 1) := by decide +kernel
theorem d_Reading_takeRenamed_37 : decode b_Reading_takeRenamed 37 = .ok (.if_icmp .ne 48, 3) := by decide +kernel
theorem d_Reading_takeRenamed_40 : decode b_Reading_takeRenamed 40 = .ok (.aload_n 0, 1) := by decide +kernel
theorem d_Reading_takeRenamed_41 : decode b_Reading_takeRenamed 41 = .ok (.getfield 12, 3) := by decide +kernel
theorem d_Reading_takeRenamed_44 : decode b_Reading_takeRenamed 44 = .ok (.aload_n 1, 1) := by decide +kernel
theorem d_Reading_takeRenamed_45 : decode b_Reading_takeRenamed 45 = .ok (.getfield 12, 3) := by decide +kernel
theorem d_Reading_takeRenamed_48 : decode b_Reading_takeRenamed 48 = .ok (.iload 6, 2) := by decide +kernel
theorem d_Reading_takeRenamed_50 : decode b_Reading_takeRenamed 50 = .ok (.aload_n 1, 1) := by decide +kernel
theorem d_Reading_takeRenamed_51 : decode b_Reading_takeRenamed 51 = .ok (.getfield 21, 3) := by decide +kernel
theorem d_Reading_takeRenamed_54 : decode b_Reading_takeRenamed 54 = .ok (.getfield 88, 3) := by decide +kernel
theorem d_Reading_takeRenamed_57 : decode b_Reading_takeRenamed 57 = .ok (.iload 7, 2) := by decide +kernel
theorem d_Reading_takeRenamed_59 : decode b_Reading_takeRenamed 59 = .ok (.iaload, 1) := by decide +kernel
theorem d_Reading_takeRenamed_60 : decode b_Reading_takeRenamed 60 = .ok (.invokevirtual 101, 3) := by decide +kernel
theorem d_Reading_takeRenamed_63 : decode b_Reading_takeRenamed 63 = .ok (.aload_n 0, 1) := by decide +kernel
theorem d_Reading_takeRenamed_64 : decode b_Reading_takeRenamed 64 = .ok (.getfield 12, 3) := by decide +kernel
theorem d_Reading_takeRenamed_67 : decode b_Reading_takeRenamed 67 = .ok (.lload_n 3, 1) := by decide +kernel
theorem d_Reading_takeRenamed_68 : decode b_Reading_takeRenamed 68 = .ok (.iload 5, 2) := by decide +kernel
theorem d_Reading_takeRenamed_70 : decode b_Reading_takeRenamed 70 = .ok (.invokevirtual 105, 3) := by decide +kernel
theorem d_Reading_takeRenamed_73 : decode b_Reading_takeRenamed 73 = .ok (.aload_n 1, 1) := by decide +kernel
theorem d_Reading_takeRenamed_74 : decode b_Reading_takeRenamed 74 = .ok (.getfield 21, 3) := by decide +kernel
theorem d_Reading_takeRenamed_77 : decode b_Reading_takeRenamed 77 = .ok (.getfield 92, 3) := by decide +kernel
theorem d_Reading_takeRenamed_80 : decode b_Reading_takeRenamed 80 = .ok (.iload 7, 2) := by decide +kernel
theorem d_Reading_takeRenamed_82 : decode b_Reading_takeRenamed 82 = .ok (.iaload, 1) := by decide +kernel
theorem d_Reading_takeRenamed_83 : decode b_Reading_takeRenamed 83 = .ok (.istore 6, 2) := by decide +kernel
theorem d_Reading_takeRenamed_85 : decode b_Reading_takeRenamed 85 = .ok (.iinc 7 1, 3) := by decide +kernel
theorem d_Reading_takeRenamed_88 : decode b_Reading_takeRenamed 88 = .ok (.goto (-74), 3) := by decide +kernel
theorem d_Reading_takeRenamed_91 : decode b_Reading_takeRenamed 91 = .ok (.aload_n 0, 1) := by decide +kernel
theorem d_Reading_takeRenamed_92 : decode b_Reading_takeRenamed 92 = .ok (.getfield 12, 3) := by decide +kernel
theorem d_Reading_takeRenamed_95 : decode b_Reading_takeRenamed 95 = .ok (.aload_n 1, 1) := by decide +kernel
theorem d_Reading_takeRenamed_96 : decode b_Reading_takeRenamed 96 = .ok (.getfield 12, 3) := by decide +kernel
theorem d_Reading_takeRenamed_99 : decode b_Reading_takeRenamed 99 = .ok (.iload 6, 2) := by decide +kernel
theorem d_Reading_takeRenamed_101 : decode b_Reading_takeRenamed 101 = .ok (.aload_n 1, 1) := by decide +kernel
theorem d_Reading_takeRenamed_102 : decode b_Reading_takeRenamed 102 = .ok (.getfield 12, 3) := by decide +kernel
theorem d_Reading_takeRenamed_105 : decode b_Reading_takeRenamed 105 = .ok (.getfield 98, 3) := by decide +kernel
theorem d_Reading_takeRenamed_108 : decode b_Reading_takeRenamed 108 = .ok (.invokevirtual 101, 3) := by decide +kernel
theorem d_Reading_takeRenamed_111 : decode b_Reading_takeRenamed 111 = .ok (.aload_n 0, 1) := by decide +kernel
theorem d_Reading_takeRenamed_112 : decode b_Reading_takeRenamed 112 = .ok (.invokevirtual 109, 3) := by decide +kernel
theorem d_Reading_takeRenamed_115 : decode b_Reading_takeRenamed 115 = .ok (.return_, 1) := by decide +kernel
abbrev y_Reading_agreesWith : MethodName := ⟨"LanguageServer$Reading", "agreesWith", "(LLanguageServer$Reading;I)Z"⟩
abbrev b_Reading_agreesWith : ByteArray := prog_7_method_8_code
theorem d_Reading_agreesWith_0 : decode b_Reading_agreesWith 0 = .ok (.aload_n 0, 1) := by decide +kernel
theorem d_Reading_agreesWith_1 : decode b_Reading_agreesWith 1 = .ok (.getfield 30, 3) := by decide +kernel
theorem d_Reading_agreesWith_4 : decode b_Reading_agreesWith 4 = .ok (.getfield 95, 3) := by decide +kernel
theorem d_Reading_agreesWith_7 : decode b_Reading_agreesWith 7 = .ok (.iload_n 2, 1) := by decide +kernel
theorem d_Reading_agreesWith_8 : decode b_Reading_agreesWith 8 = .ok (.iaload, 1) := by decide +kernel
theorem d_Reading_agreesWith_9 : decode b_Reading_agreesWith 9 = .ok (.istore_n 3, 1) := by decide +kernel
theorem d_Reading_agreesWith_10 : decode b_Reading_agreesWith 10 = .ok (.iload_n 3, 1) := by decide +kernel
theorem d_Reading_agreesWith_11 : decode b_Reading_agreesWith 11 = .ok (.iconst (-1), 1) := by decide +kernel
theorem d_Reading_agreesWith_12 : decode b_Reading_agreesWith 12 = .ok (.if_icmp .eq 20, 3) := by decide +kernel
theorem d_Reading_agreesWith_15 : decode b_Reading_agreesWith 15 = .ok (.aload_n 0, 1) := by decide +kernel
theorem d_Reading_agreesWith_16 : decode b_Reading_agreesWith 16 = .ok (.getfield 37, 3) := by decide +kernel
theorem d_Reading_agreesWith_19 : decode b_Reading_agreesWith 19 = .ok (.invokevirtual 112, 3) := by decide +kernel
theorem d_Reading_agreesWith_22 : decode b_Reading_agreesWith 22 = .ok (.aload_n 1, 1) := by decide +kernel
theorem d_Reading_agreesWith_23 : decode b_Reading_agreesWith 23 = .ok (.getfield 37, 3) := by decide +kernel
theorem d_Reading_agreesWith_26 : decode b_Reading_agreesWith 26 = .ok (.invokevirtual 112, 3) := by decide +kernel
theorem d_Reading_agreesWith_29 : decode b_Reading_agreesWith 29 = .ok (.if_icmp .eq 5, 3) := by decide +kernel
theorem d_Reading_agreesWith_32 : decode b_Reading_agreesWith 32 = .ok (.iconst 0, 1) := by decide +kernel
theorem d_Reading_agreesWith_33 : decode b_Reading_agreesWith 33 = .ok (.ireturn, 1) := by decide +kernel
theorem d_Reading_agreesWith_34 : decode b_Reading_agreesWith 34 = .ok (.iconst 0, 1) := by decide +kernel
theorem d_Reading_agreesWith_35 : decode b_Reading_agreesWith 35 = .ok (.istore 4, 2) := by decide +kernel
theorem d_Reading_agreesWith_37 : decode b_Reading_agreesWith 37 = .ok (.iload 4, 2) := by decide +kernel
theorem d_Reading_agreesWith_39 : decode b_Reading_agreesWith 39 = .ok (.aload_n 0, 1) := by decide +kernel
theorem d_Reading_agreesWith_40 : decode b_Reading_agreesWith 40 = .ok (.getfield 30, 3) := by decide +kernel
theorem d_Reading_agreesWith_43 : decode b_Reading_agreesWith 43 = .ok (.getfield 84, 3) := by decide +kernel
theorem d_Reading_agreesWith_46 : decode b_Reading_agreesWith 46 = .ok (.if_icmp .ge 52, 3) := by decide +kernel
theorem d_Reading_agreesWith_49 : decode b_Reading_agreesWith 49 = .ok (.aload_n 0, 1) := by decide +kernel
theorem d_Reading_agreesWith_50 : decode b_Reading_agreesWith 50 = .ok (.getfield 30, 3) := by decide +kernel
theorem d_Reading_agreesWith_53 : decode b_Reading_agreesWith 53 = .ok (.getfield 95, 3) := by decide +kernel
theorem d_Reading_agreesWith_56 : decode b_Reading_agreesWith 56 = .ok (.iload 4, 2) := by decide +kernel
theorem d_Reading_agreesWith_58 : decode b_Reading_agreesWith 58 = .ok (.iaload, 1) := by decide +kernel
theorem d_Reading_agreesWith_59 : decode b_Reading_agreesWith 59 = .ok (.iload_n 3, 1) := by decide +kernel
theorem d_Reading_agreesWith_60 : decode b_Reading_agreesWith 60 = .ok (.if_icmp .ne 7, 3) := by decide +kernel
theorem d_Reading_agreesWith_63 : decode b_Reading_agreesWith 63 = .ok (.iconst 1, 1) := by decide +kernel
theorem d_Reading_agreesWith_64 : decode b_Reading_agreesWith 64 = .ok (.goto 4, 3) := by decide +kernel
theorem d_Reading_agreesWith_67 : decode b_Reading_agreesWith 67 = .ok (.iconst 0, 1) := by decide +kernel
theorem d_Reading_agreesWith_68 : decode b_Reading_agreesWith 68 = .ok (.aload_n 1, 1) := by decide +kernel
theorem d_Reading_agreesWith_69 : decode b_Reading_agreesWith 69 = .ok (.getfield 30, 3) := by decide +kernel
theorem d_Reading_agreesWith_72 : decode b_Reading_agreesWith 72 = .ok (.getfield 95, 3) := by decide +kernel
theorem d_Reading_agreesWith_75 : decode b_Reading_agreesWith 75 = .ok (.iload 4, 2) := by decide +kernel
theorem d_Reading_agreesWith_77 : decode b_Reading_agreesWith 77 = .ok (.iaload, 1) := by decide +kernel
theorem d_Reading_agreesWith_78 : decode b_Reading_agreesWith 78 = .ok (.iload_n 2, 1) := by decide +kernel
theorem d_Reading_agreesWith_79 : decode b_Reading_agreesWith 79 = .ok (.if_icmp .ne 7, 3) := by decide +kernel
theorem d_Reading_agreesWith_82 : decode b_Reading_agreesWith 82 = .ok (.iconst 1, 1) := by decide +kernel
theorem d_Reading_agreesWith_83 : decode b_Reading_agreesWith 83 = .ok (.goto 4, 3) := by decide +kernel
theorem d_Reading_agreesWith_86 : decode b_Reading_agreesWith 86 = .ok (.iconst 0, 1) := by decide +kernel
theorem d_Reading_agreesWith_87 : decode b_Reading_agreesWith 87 = .ok (.if_icmp .eq 5, 3) := by decide +kernel
theorem d_Reading_agreesWith_90 : decode b_Reading_agreesWith 90 = .ok (.iconst 0, 1) := by decide +kernel
theorem d_Reading_agreesWith_91 : decode b_Reading_agreesWith 91 = .ok (.ireturn, 1) := by decide +kernel
theorem d_Reading_agreesWith_92 : decode b_Reading_agreesWith 92 = .ok (.iinc 4 1, 3) := by decide +kernel
theorem d_Reading_agreesWith_95 : decode b_Reading_agreesWith 95 = .ok (.goto (-58), 3) := by decide +kernel
theorem d_Reading_agreesWith_98 : decode b_Reading_agreesWith 98 = .ok (.iconst 1, 1) := by decide +kernel
theorem d_Reading_agreesWith_99 : decode b_Reading_agreesWith 99 = .ok (.ireturn, 1) := by decide +kernel
