theorem wd_43 : (Jvm.Cond.fieldLink "LanguageServer" (74 : Nat) "LanguageServer$Text" "codes" "[I") ∈ Tg := tg_1 (i := 43) rfl rfl
theorem wd_45 : (Jvm.Cond.fieldLink "LanguageServer" (23 : Nat) "LanguageServer$Text" "length" "I") ∈ Tg := tg_1 (i := 45) rfl rfl
theorem wd_63 : (Jvm.Cond.fieldLink "LanguageServer" (107 : Nat) "LanguageServer$Tokens" "start" "[I") ∈ Tg := tg_1 (i := 63) rfl rfl
theorem wd_68 : (Jvm.Cond.fieldLink "LanguageServer" (151 : Nat) "LanguageServer$Tokens" "end" "[I") ∈ Tg := tg_1 (i := 68) rfl rfl
theorem wd_111 : (Jvm.Cond.fieldLink "LanguageServer" (119 : Nat) "LanguageServer$Outline" "typeOf" "[I") ∈ Tg := tg_1 (i := 111) rfl rfl
theorem wd_117 : (Jvm.Cond.fieldLink "LanguageServer" (143 : Nat) "LanguageServer$Outline" "listed" "[I") ∈ Tg := tg_1 (i := 117) rfl rfl
theorem wd_122 : (Jvm.Cond.fieldLink "LanguageServer" (167 : Nat) "LanguageServer$Outline" "size" "I") ∈ Tg := tg_1 (i := 122) rfl rfl
theorem wd_125 : (Jvm.Cond.fieldLink "LanguageServer" (164 : Nat) "LanguageServer$Outline" "classes" "I") ∈ Tg := tg_1 (i := 125) rfl rfl
theorem wd_270 : (Jvm.Cond.fieldLink "LanguageServer" (19 : Nat) "LanguageServer$Reading" "source" "LLanguageServer$Text;") ∈ Tg := tg_2 (i := 30) rfl rfl
theorem wd_272 : (Jvm.Cond.fieldLink "LanguageServer" (97 : Nat) "LanguageServer$Reading" "tokens" "LLanguageServer$Tokens;") ∈ Tg := tg_2 (i := 32) rfl rfl
theorem wd_274 : (Jvm.Cond.fieldLink "LanguageServer" (115 : Nat) "LanguageServer$Reading" "outline" "LLanguageServer$Outline;") ∈ Tg := tg_2 (i := 34) rfl rfl
theorem wd_276 : (Jvm.Cond.fieldLink "LanguageServer" (81 : Nat) "LanguageServer$Reading" "complaints" "LLanguageServer$Complaints;") ∈ Tg := tg_2 (i := 36) rfl rfl
theorem wd_298 : (Jvm.Cond.fieldLink "LanguageServer" (10 : Nat) "LanguageServer" "shown" "LLanguageServer$Reading;") ∈ Tg := tg_2 (i := 58) rfl rfl
theorem wd_299 : (Jvm.Cond.fieldLink "LanguageServer" (16 : Nat) "LanguageServer" "trial" "LLanguageServer$Reading;") ∈ Tg := tg_2 (i := 59) rfl rfl
theorem wd_309 : (Jvm.Cond.methodLink "LanguageServer" (78 : Nat) ({ cls := "LanguageServer$Reading", name := "refresh", desc := "()V" } : Jvm.MethodName)) ∈ Tg := tg_2 (i := 69) rfl rfl
theorem wd_310 : (Jvm.Cond.instanceMethod ({ cls := "LanguageServer$Reading", name := "refresh", desc := "()V" } : Jvm.MethodName)) ∈ Tg := tg_2 (i := 70) rfl rfl
theorem wd_311 : (Jvm.Cond.selects "LanguageServer$Reading" ({ cls := "LanguageServer$Reading", name := "refresh", desc := "()V" } : Jvm.MethodName) ({ cls := "LanguageServer$Reading", name := "refresh", desc := "()V" } : Jvm.MethodName)) ∈ Tg := tg_2 (i := 71) rfl rfl
theorem wd_312 : (Jvm.Cond.code ({ cls := "LanguageServer$Reading", name := "refresh", desc := "()V" } : Jvm.MethodName) prog_7_method_3_code (1 : Nat) (Option.none : Option Jvm.ClassFile.FieldType)) ∈ Tg := tg_2 (i := 72) rfl rfl
theorem wd_583 : (Jvm.Cond.methodLink "LanguageServer" (85 : Nat) ({ cls := "LanguageServer$Complaints", name := "total", desc := "()I" } : Jvm.MethodName)) ∈ Tg := tg_3 (i := 103) rfl rfl
theorem wd_690 : (Jvm.Cond.methodLink "LanguageServer" (45 : Nat) ({ cls := "LanguageServer$Text", name := "put", desc := "(II)V" } : Jvm.MethodName)) ∈ Tg := tg_3 (i := 210) rfl rfl
theorem wd_691 : (Jvm.Cond.instanceMethod ({ cls := "LanguageServer$Text", name := "put", desc := "(II)V" } : Jvm.MethodName)) ∈ Tg := tg_3 (i := 211) rfl rfl
theorem wd_692 : (Jvm.Cond.selects "LanguageServer$Text" ({ cls := "LanguageServer$Text", name := "put", desc := "(II)V" } : Jvm.MethodName) ({ cls := "LanguageServer$Text", name := "put", desc := "(II)V" } : Jvm.MethodName)) ∈ Tg := tg_3 (i := 212) rfl rfl
theorem wd_693 : (Jvm.Cond.code ({ cls := "LanguageServer$Text", name := "put", desc := "(II)V" } : Jvm.MethodName) prog_10_method_2_code (3 : Nat) (Option.none : Option Jvm.ClassFile.FieldType)) ∈ Tg := tg_3 (i := 213) rfl rfl
theorem wd_697 : (Jvm.Cond.methodLink "LanguageServer" (49 : Nat) ({ cls := "LanguageServer$Reading", name := "touch", desc := "()V" } : Jvm.MethodName)) ∈ Tg := tg_3 (i := 217) rfl rfl
theorem wd_708 : (Jvm.Cond.methodLink "LanguageServer" (52 : Nat) ({ cls := "LanguageServer", name := "areCodes", desc := "(JI)Z" } : Jvm.MethodName)) ∈ Tg := tg_3 (i := 228) rfl rfl
theorem wd_709 : (Jvm.Cond.static ({ cls := "LanguageServer", name := "areCodes", desc := "(JI)Z" } : Jvm.MethodName)) ∈ Tg := tg_3 (i := 229) rfl rfl
theorem wd_710 : (Jvm.Cond.code ({ cls := "LanguageServer", name := "areCodes", desc := "(JI)Z" } : Jvm.MethodName) prog_1_method_18_code (4 : Nat) (Option.some Jvm.ClassFile.FieldType.boolean)) ∈ Tg := tg_3 (i := 230) rfl rfl
theorem wd_716 : (Jvm.Cond.methodLink "LanguageServer" (60 : Nat) ({ cls := "LanguageServer$Text", name := "addBytes", desc := "(JI)V" } : Jvm.MethodName)) ∈ Tg := tg_3 (i := 236) rfl rfl
theorem wd_733 : (Jvm.Cond.methodLink "LanguageServer" (66 : Nat) ({ cls := "LanguageServer$Text", name := "take", desc := "(II)V" } : Jvm.MethodName)) ∈ Tg := tg_4 (i := 13) rfl rfl
theorem wd_734 : (Jvm.Cond.instanceMethod ({ cls := "LanguageServer$Text", name := "take", desc := "(II)V" } : Jvm.MethodName)) ∈ Tg := tg_4 (i := 14) rfl rfl
theorem wd_735 : (Jvm.Cond.selects "LanguageServer$Text" ({ cls := "LanguageServer$Text", name := "take", desc := "(II)V" } : Jvm.MethodName) ({ cls := "LanguageServer$Text", name := "take", desc := "(II)V" } : Jvm.MethodName)) ∈ Tg := tg_4 (i := 15) rfl rfl
theorem wd_736 : (Jvm.Cond.code ({ cls := "LanguageServer$Text", name := "take", desc := "(II)V" } : Jvm.MethodName) prog_10_method_6_code (3 : Nat) (Option.none : Option Jvm.ClassFile.FieldType)) ∈ Tg := tg_4 (i := 16) rfl rfl
theorem wd_769 : (Jvm.Cond.methodLink "LanguageServer" (93 : Nat) ({ cls := "LanguageServer$Complaints", name := "kindAt", desc := "(I)I" } : Jvm.MethodName)) ∈ Tg := tg_4 (i := 49) rfl rfl
theorem wd_770 : (Jvm.Cond.instanceMethod ({ cls := "LanguageServer$Complaints", name := "kindAt", desc := "(I)I" } : Jvm.MethodName)) ∈ Tg := tg_4 (i := 50) rfl rfl
theorem wd_771 : (Jvm.Cond.selects "LanguageServer$Complaints" ({ cls := "LanguageServer$Complaints", name := "kindAt", desc := "(I)I" } : Jvm.MethodName) ({ cls := "LanguageServer$Complaints", name := "kindAt", desc := "(I)I" } : Jvm.MethodName)) ∈ Tg := tg_4 (i := 51) rfl rfl
theorem wd_772 : (Jvm.Cond.code ({ cls := "LanguageServer$Complaints", name := "kindAt", desc := "(I)I" } : Jvm.MethodName) prog_2_method_7_code (2 : Nat) (Option.some Jvm.ClassFile.FieldType.int)) ∈ Tg := tg_4 (i := 52) rfl rfl
theorem wd_777 : (Jvm.Cond.methodLink "LanguageServer" (101 : Nat) ({ cls := "LanguageServer$Complaints", name := "placeAt", desc := "(ILLanguageServer$Tokens;)I" } : Jvm.MethodName)) ∈ Tg := tg_4 (i := 57) rfl rfl
theorem wd_778 : (Jvm.Cond.instanceMethod ({ cls := "LanguageServer$Complaints", name := "placeAt", desc := "(ILLanguageServer$Tokens;)I" } : Jvm.MethodName)) ∈ Tg := tg_4 (i := 58) rfl rfl
theorem wd_779 : (Jvm.Cond.selects "LanguageServer$Complaints" ({ cls := "LanguageServer$Complaints", name := "placeAt", desc := "(ILLanguageServer$Tokens;)I" } : Jvm.MethodName) ({ cls := "LanguageServer$Complaints", name := "placeAt", desc := "(ILLanguageServer$Tokens;)I" } : Jvm.MethodName)) ∈ Tg := tg_4 (i := 59) rfl rfl
theorem wd_780 : (Jvm.Cond.code ({ cls := "LanguageServer$Complaints", name := "placeAt", desc := "(ILLanguageServer$Tokens;)I" } : Jvm.MethodName) prog_2_method_8_code (3 : Nat) (Option.some Jvm.ClassFile.FieldType.int)) ∈ Tg := tg_4 (i := 60) rfl rfl
theorem wd_789 : (Jvm.Cond.methodLink "LanguageServer" (112 : Nat) ({ cls := "LanguageServer", name := "declarationFor", desc := "(I)I" } : Jvm.MethodName)) ∈ Tg := tg_4 (i := 69) rfl rfl
theorem wd_791 : (Jvm.Cond.instanceMethod ({ cls := "LanguageServer", name := "declarationFor", desc := "(I)I" } : Jvm.MethodName)) ∈ Tg := tg_4 (i := 71) rfl rfl
theorem wd_792 : (Jvm.Cond.code ({ cls := "LanguageServer", name := "declarationFor", desc := "(I)I" } : Jvm.MethodName) prog_1_method_16_code (3 : Nat) (Option.some Jvm.ClassFile.FieldType.int)) ∈ Tg := tg_4 (i := 72) rfl rfl
theorem wd_793 : (Jvm.Cond.methodLink "LanguageServer" (172 : Nat) ({ cls := "LanguageServer$Reading", name := "declarationAt", desc := "(I)I" } : Jvm.MethodName)) ∈ Tg := tg_4 (i := 73) rfl rfl
theorem wd_794 : (Jvm.Cond.instanceMethod ({ cls := "LanguageServer$Reading", name := "declarationAt", desc := "(I)I" } : Jvm.MethodName)) ∈ Tg := tg_4 (i := 74) rfl rfl
theorem wd_795 : (Jvm.Cond.selects "LanguageServer$Reading" ({ cls := "LanguageServer$Reading", name := "declarationAt", desc := "(I)I" } : Jvm.MethodName) ({ cls := "LanguageServer$Reading", name := "declarationAt", desc := "(I)I" } : Jvm.MethodName)) ∈ Tg := tg_4 (i := 75) rfl rfl
theorem wd_796 : (Jvm.Cond.code ({ cls := "LanguageServer$Reading", name := "declarationAt", desc := "(I)I" } : Jvm.MethodName) prog_7_method_4_code (3 : Nat) (Option.some Jvm.ClassFile.FieldType.int)) ∈ Tg := tg_4 (i := 76) rfl rfl
theorem wd_812 : (Jvm.Cond.methodLink "LanguageServer" (124 : Nat) ({ cls := "LanguageServer$Reading", name := "uses", desc := "(I)I" } : Jvm.MethodName)) ∈ Tg := tg_4 (i := 92) rfl rfl
theorem wd_813 : (Jvm.Cond.instanceMethod ({ cls := "LanguageServer$Reading", name := "uses", desc := "(I)I" } : Jvm.MethodName)) ∈ Tg := tg_4 (i := 93) rfl rfl
theorem wd_814 : (Jvm.Cond.selects "LanguageServer$Reading" ({ cls := "LanguageServer$Reading", name := "uses", desc := "(I)I" } : Jvm.MethodName) ({ cls := "LanguageServer$Reading", name := "uses", desc := "(I)I" } : Jvm.MethodName)) ∈ Tg := tg_4 (i := 94) rfl rfl
theorem wd_815 : (Jvm.Cond.code ({ cls := "LanguageServer$Reading", name := "uses", desc := "(I)I" } : Jvm.MethodName) prog_7_method_5_code (4 : Nat) (Option.some Jvm.ClassFile.FieldType.int)) ∈ Tg := tg_4 (i := 95) rfl rfl
theorem wd_823 : (Jvm.Cond.methodLink "LanguageServer" (127 : Nat) ({ cls := "LanguageServer$Reading", name := "useAt", desc := "(II)I" } : Jvm.MethodName)) ∈ Tg := tg_4 (i := 103) rfl rfl
theorem wd_824 : (Jvm.Cond.instanceMethod ({ cls := "LanguageServer$Reading", name := "useAt", desc := "(II)I" } : Jvm.MethodName)) ∈ Tg := tg_4 (i := 104) rfl rfl
theorem wd_825 : (Jvm.Cond.selects "LanguageServer$Reading" ({ cls := "LanguageServer$Reading", name := "useAt", desc := "(II)I" } : Jvm.MethodName) ({ cls := "LanguageServer$Reading", name := "useAt", desc := "(II)I" } : Jvm.MethodName)) ∈ Tg := tg_4 (i := 105) rfl rfl
theorem wd_826 : (Jvm.Cond.code ({ cls := "LanguageServer$Reading", name := "useAt", desc := "(II)I" } : Jvm.MethodName) prog_7_method_6_code (5 : Nat) (Option.some Jvm.ClassFile.FieldType.int)) ∈ Tg := tg_4 (i := 106) rfl rfl
theorem wd_835 : (Jvm.Cond.methodLink "LanguageServer" (133 : Nat) ({ cls := "LanguageServer$Outline", name := "isClass", desc := "(I)Z" } : Jvm.MethodName)) ∈ Tg := tg_4 (i := 115) rfl rfl
theorem wd_837 : (Jvm.Cond.methodLink "LanguageServer" (138 : Nat) ({ cls := "LanguageServer$Outline", name := "listMembers", desc := "(I)I" } : Jvm.MethodName)) ∈ Tg := tg_4 (i := 117) rfl rfl
theorem wd_838 : (Jvm.Cond.instanceMethod ({ cls := "LanguageServer$Outline", name := "listMembers", desc := "(I)I" } : Jvm.MethodName)) ∈ Tg := tg_4 (i := 118) rfl rfl
theorem wd_839 : (Jvm.Cond.selects "LanguageServer$Outline" ({ cls := "LanguageServer$Outline", name := "listMembers", desc := "(I)I" } : Jvm.MethodName) ({ cls := "LanguageServer$Outline", name := "listMembers", desc := "(I)I" } : Jvm.MethodName)) ∈ Tg := tg_4 (i := 119) rfl rfl
theorem wd_840 : (Jvm.Cond.code ({ cls := "LanguageServer$Outline", name := "listMembers", desc := "(I)I" } : Jvm.MethodName) prog_5_method_9_code (7 : Nat) (Option.some Jvm.ClassFile.FieldType.int)) ∈ Tg := tg_4 (i := 120) rfl rfl
theorem wd_864 : (Jvm.Cond.methodLink "LanguageServer" (146 : Nat) ({ cls := "LanguageServer$Tokens", name := "isName", desc := "(JI)Z" } : Jvm.MethodName)) ∈ Tg := tg_4 (i := 144) rfl rfl
theorem wd_865 : (Jvm.Cond.static ({ cls := "LanguageServer$Tokens", name := "isName", desc := "(JI)Z" } : Jvm.MethodName)) ∈ Tg := tg_4 (i := 145) rfl rfl
theorem wd_866 : (Jvm.Cond.code ({ cls := "LanguageServer$Tokens", name := "isName", desc := "(JI)Z" } : Jvm.MethodName) prog_11_method_8_code (6 : Nat) (Option.some Jvm.ClassFile.FieldType.boolean)) ∈ Tg := tg_4 (i := 146) rfl rfl
theorem wd_869 : (Jvm.Cond.methodLink "LanguageServer" (154 : Nat) ({ cls := "LanguageServer$Reading", name := "takeRenamed", desc := "(LLanguageServer$Reading;IJI)V" } : Jvm.MethodName)) ∈ Tg := tg_4 (i := 149) rfl rfl
theorem wd_870 : (Jvm.Cond.instanceMethod ({ cls := "LanguageServer$Reading", name := "takeRenamed", desc := "(LLanguageServer$Reading;IJI)V" } : Jvm.MethodName)) ∈ Tg := tg_4 (i := 150) rfl rfl
theorem wd_871 : (Jvm.Cond.selects "LanguageServer$Reading" ({ cls := "LanguageServer$Reading", name := "takeRenamed", desc := "(LLanguageServer$Reading;IJI)V" } : Jvm.MethodName) ({ cls := "LanguageServer$Reading", name := "takeRenamed", desc := "(LLanguageServer$Reading;IJI)V" } : Jvm.MethodName)) ∈ Tg := tg_4 (i := 151) rfl rfl
theorem wd_872 : (Jvm.Cond.code ({ cls := "LanguageServer$Reading", name := "takeRenamed", desc := "(LLanguageServer$Reading;IJI)V" } : Jvm.MethodName) prog_7_method_7_code (8 : Nat) (Option.none : Option Jvm.ClassFile.FieldType)) ∈ Tg := tg_4 (i := 152) rfl rfl
theorem wd_879 : (Jvm.Cond.methodLink "LanguageServer" (158 : Nat) ({ cls := "LanguageServer$Reading", name := "agreesWith", desc := "(LLanguageServer$Reading;I)Z" } : Jvm.MethodName)) ∈ Tg := tg_4 (i := 159) rfl rfl
theorem wd_880 : (Jvm.Cond.instanceMethod ({ cls := "LanguageServer$Reading", name := "agreesWith", desc := "(LLanguageServer$Reading;I)Z" } : Jvm.MethodName)) ∈ Tg := tg_4 (i := 160) rfl rfl
theorem wd_881 : (Jvm.Cond.selects "LanguageServer$Reading" ({ cls := "LanguageServer$Reading", name := "agreesWith", desc := "(LLanguageServer$Reading;I)Z" } : Jvm.MethodName) ({ cls := "LanguageServer$Reading", name := "agreesWith", desc := "(LLanguageServer$Reading;I)Z" } : Jvm.MethodName)) ∈ Tg := tg_4 (i := 161) rfl rfl
theorem wd_882 : (Jvm.Cond.code ({ cls := "LanguageServer$Reading", name := "agreesWith", desc := "(LLanguageServer$Reading;I)Z" } : Jvm.MethodName) prog_7_method_8_code (5 : Nat) (Option.some Jvm.ClassFile.FieldType.boolean)) ∈ Tg := tg_4 (i := 162) rfl rfl
theorem wp_41 : Jvm.Cond.selects "LanguageServer" ⟨"LanguageServer", "declarationFor", "(I)I"⟩ ⟨"LanguageServer", "declarationFor", "(I)I"⟩ ∈ Tg := tgp_3 (i := 9) (q := (⟨"LanguageServer", "declarationFor", "(I)I"⟩, 2)) rfl rfl
abbrev y_LS_declarationFor : MethodName := ⟨"LanguageServer", "declarationFor", "(I)I"⟩
abbrev b_LS_declarationFor : ByteArray := prog_1_method_16_code
theorem d_LS_declarationFor_0 : decode b_LS_declarationFor 0 = .ok (.aload_n 0, 1) := by decide +kernel
theorem d_LS_declarationFor_1 : decode b_LS_declarationFor 1 = .ok (.getfield 10, 3) := by decide +kernel
theorem d_LS_declarationFor_4 : decode b_LS_declarationFor 4 = .ok (.iload_n 1, 1) := by decide +kernel
theorem d_LS_declarationFor_5 : decode b_LS_declarationFor 5 = .ok (.invokevirtual 172, 3) := by decide +kernel
theorem d_LS_declarationFor_8 : decode b_LS_declarationFor 8 = .ok (.istore_n 2, 1) := by decide +kernel
theorem d_LS_declarationFor_9 : decode b_LS_declarationFor 9 = .ok (.iload_n 2, 1) := by decide +kernel
theorem d_LS_declarationFor_10 : decode b_LS_declarationFor 10 = .ok (.iconst (-1), 1) := by decide +kernel
theorem d_LS_declarationFor_11 : decode b_LS_declarationFor 11 = .ok (.if_icmp .ne 13, 3) := by decide +kernel
theorem d_LS_declarationFor_14 : decode b_LS_declarationFor 14 = .ok (.new 69, 3) := by decide +kernel
theorem d_LS_declarationFor_17 : decode b_LS_declarationFor 17 = .ok (.dup, 1) := by decide +kernel
theorem d_LS_declarationFor_18 : decode b_LS_declarationFor 18 = .ok (.ldc 175, 2) := by decide +kernel
theorem d_LS_declarationFor_20 : decode b_LS_declarationFor 20 = .ok (.invokespecial 73, 3) := by decide +kernel
theorem d_LS_declarationFor_23 : decode b_LS_declarationFor 23 = .ok (.athrow, 1) := by decide +kernel
theorem d_LS_declarationFor_24 : decode b_LS_declarationFor 24 = .ok (.iload_n 2, 1) := by decide +kernel
theorem d_LS_declarationFor_25 : decode b_LS_declarationFor 25 = .ok (.ireturn, 1) := by decide +kernel
abbrev y_LS_insert : MethodName := ⟨"LanguageServer", "insert", "(II)I"⟩
abbrev b_LS_insert : ByteArray := prog_1_method_2_code
theorem d_LS_insert_0 : decode b_LS_insert 0 = .ok (.aload_n 0, 1) := by decide +kernel
theorem d_LS_insert_1 : decode b_LS_insert 1 = .ok (.getfield 10, 3) := by decide +kernel
theorem d_LS_insert_4 : decode b_LS_insert 4 = .ok (.getfield 19, 3) := by decide +kernel
theorem d_LS_insert_7 : decode b_LS_insert 7 = .ok (.astore_n 3, 1) := by decide +kernel
theorem d_LS_insert_8 : decode b_LS_insert 8 = .ok (.iload_n 1, 1) := by decide +kernel
theorem d_LS_insert_9 : decode b_LS_insert 9 = .ok (.ifCond .lt 18, 3) := by decide +kernel
theorem d_LS_insert_12 : decode b_LS_insert 12 = .ok (.iload_n 1, 1) := by decide +kernel
theorem d_LS_insert_13 : decode b_LS_insert 13 = .ok (.aload_n 3, 1) := by decide +kernel
theorem d_LS_insert_14 : decode b_LS_insert 14 = .ok (.getfield 23, 3) := by decide +kernel
theorem d_LS_insert_17 : decode b_LS_insert 17 = .ok (.if_icmp .gt 10, 3) := by decide +kernel
theorem d_LS_insert_20 : decode b_LS_insert 20 = .ok (.iload_n 2, 1) := by decide +kernel
theorem d_LS_insert_21 : decode b_LS_insert 21 = .ok (.invokestatic 29, 3) := by decide +kernel
theorem d_LS_insert_24 : decode b_LS_insert 24 = .ok (.ifCond .ne 13, 3) := by decide +kernel
theorem d_LS_insert_27 : decode b_LS_insert 27 = .ok (.new 33, 3) := by decide +kernel
theorem d_LS_insert_30 : decode b_LS_insert 30 = .ok (.dup, 1) := by decide +kernel
theorem d_LS_insert_31 : decode b_LS_insert 31 = .ok (.ldc 35, 2) := by decide +kernel
theorem d_LS_insert_33 : decode b_LS_insert 33 = .ok (.invokespecial 37, 3) := by decide +kernel
theorem d_LS_insert_36 : decode b_LS_insert 36 = .ok (.athrow, 1) := by decide +kernel
theorem d_LS_insert_37 : decode b_LS_insert 37 = .ok (.aload_n 3, 1) := by decide +kernel
theorem d_LS_insert_38 : decode b_LS_insert 38 = .ok (.getfield 23, 3) := by decide +kernel
theorem d_LS_insert_41 : decode b_LS_insert 41 = .ok (.sipush 240, 3) := by decide +kernel
theorem d_LS_insert_44 : decode b_LS_insert 44 = .ok (.if_icmp .lt 13, 3) := by decide +kernel
theorem d_LS_insert_47 : decode b_LS_insert 47 = .ok (.new 40, 3) := by decide +kernel
theorem d_LS_insert_50 : decode b_LS_insert 50 = .ok (.dup, 1) := by decide +kernel
theorem d_LS_insert_51 : decode b_LS_insert 51 = .ok (.ldc 42, 2) := by decide +kernel
theorem d_LS_insert_53 : decode b_LS_insert 53 = .ok (.invokespecial 44, 3) := by decide +kernel
theorem d_LS_insert_56 : decode b_LS_insert 56 = .ok (.athrow, 1) := by decide +kernel
theorem d_LS_insert_57 : decode b_LS_insert 57 = .ok (.aload_n 3, 1) := by decide +kernel
theorem d_LS_insert_58 : decode b_LS_insert 58 = .ok (.iload_n 1, 1) := by decide +kernel
theorem d_LS_insert_59 : decode b_LS_insert 59 = .ok (.iload_n 2, 1) := by decide +kernel
theorem d_LS_insert_60 : decode b_LS_insert 60 = .ok (.invokevirtual 45, 3) := by decide +kernel
theorem d_LS_insert_63 : decode b_LS_insert 63 = .ok (.aload_n 0, 1) := by decide +kernel
theorem d_LS_insert_64 : decode b_LS_insert 64 = .ok (.getfield 10, 3) := by decide +kernel
theorem d_LS_insert_67 : decode b_LS_insert 67 = .ok (.invokevirtual 49, 3) := by decide +kernel
theorem d_LS_insert_70 : decode b_LS_insert 70 = .ok (.aload_n 3, 1) := by decide +kernel
theorem d_LS_insert_71 : decode b_LS_insert 71 = .ok (.getfield 23, 3) := by decide +kernel
theorem d_LS_insert_74 : decode b_LS_insert 74 = .ok (.ireturn, 1) := by decide +kernel
abbrev y_LS_append : MethodName := ⟨"LanguageServer", "append", "(JI)I"⟩
abbrev b_LS_append : ByteArray := prog_1_method_3_code
theorem d_LS_append_0 : decode b_LS_append 0 = .ok (.aload_n 0, 1) := by decide +kernel
theorem d_LS_append_1 : decode b_LS_append 1 = .ok (.getfield 10, 3) := by decide +kernel
theorem d_LS_append_4 : decode b_LS_append 4 = .ok (.getfield 19, 3) := by decide +kernel
theorem d_LS_append_7 : decode b_LS_append 7 = .ok (.astore 4, 2) := by decide +kernel
theorem d_LS_append_9 : decode b_LS_append 9 = .ok (.iload_n 3, 1) := by decide +kernel
theorem d_LS_append_10 : decode b_LS_append 10 = .ok (.iconst 1, 1) := by decide +kernel
theorem d_LS_append_11 : decode b_LS_append 11 = .ok (.if_icmp .lt 17, 3) := by decide +kernel
theorem d_LS_append_14 : decode b_LS_append 14 = .ok (.iload_n 3, 1) := by decide +kernel
theorem d_LS_append_15 : decode b_LS_append 15 = .ok (.bipush 8, 2) := by decide +kernel
theorem d_LS_append_17 : decode b_LS_append 17 = .ok (.if_icmp .gt 11, 3) := by decide +kernel
theorem d_LS_append_20 : decode b_LS_append 20 = .ok (.lload_n 1, 1) := by decide +kernel
theorem d_LS_append_21 : decode b_LS_append 21 = .ok (.iload_n 3, 1) := by decide +kernel
theorem d_LS_append_22 : decode b_LS_append 22 = .ok (.invokestatic 52, 3) := by decide +kernel
theorem d_LS_append_25 : decode b_LS_append 25 = .ok (.ifCond .ne 13, 3) := by decide +kernel
theorem d_LS_append_28 : decode b_LS_append 28 = .ok (.new 33, 3) := by decide +kernel
theorem d_LS_append_31 : decode b_LS_append 31 = .ok (.dup, 1) := by decide +kernel
theorem d_LS_append_32 : decode b_LS_append 32 = .ok (.ldc 56, 2) := by decide +kernel
theorem d_LS_append_34 : decode b_LS_append 34 = .ok (.invokespecial 37, 3) := by decide +kernel
theorem d_LS_append_37 : decode b_LS_append 37 = .ok (.athrow, 1) := by decide +kernel
theorem d_LS_append_38 : decode b_LS_append 38 = .ok (.aload 4, 2) := by decide +kernel
theorem d_LS_append_40 : decode b_LS_append 40 = .ok (.getfield 23, 3) := by decide +kernel
theorem d_LS_append_43 : decode b_LS_append 43 = .ok (.iload_n 3, 1) := by decide +kernel
theorem d_LS_append_44 : decode b_LS_append 44 = .ok (.iadd, 1) := by decide +kernel
theorem d_LS_append_45 : decode b_LS_append 45 = .ok (.sipush 240, 3) := by decide +kernel
theorem d_LS_append_48 : decode b_LS_append 48 = .ok (.if_icmp .le 13, 3) := by decide +kernel
theorem d_LS_append_51 : decode b_LS_append 51 = .ok (.new 40, 3) := by decide +kernel
theorem d_LS_append_54 : decode b_LS_append 54 = .ok (.dup, 1) := by decide +kernel
theorem d_LS_append_55 : decode b_LS_append 55 = .ok (.ldc 58, 2) := by decide +kernel
theorem d_LS_append_57 : decode b_LS_append 57 = .ok (.invokespecial 44, 3) := by decide +kernel
theorem d_LS_append_60 : decode b_LS_append 60 = .ok (.athrow, 1) := by decide +kernel
theorem d_LS_append_61 : decode b_LS_append 61 = .ok (.aload 4, 2) := by decide +kernel
theorem d_LS_append_63 : decode b_LS_append 63 = .ok (.lload_n 1, 1) := by decide +kernel
theorem d_LS_append_64 : decode b_LS_append 64 = .ok (.iload_n 3, 1) := by decide +kernel
theorem d_LS_append_65 : decode b_LS_append 65 = .ok (.invokevirtual 60, 3) := by decide +kernel
theorem d_LS_append_68 : decode b_LS_append 68 = .ok (.aload_n 0, 1) := by decide +kernel
theorem d_LS_append_69 : decode b_LS_append 69 = .ok (.getfield 10, 3) := by decide +kernel
theorem d_LS_append_72 : decode b_LS_append 72 = .ok (.invokevirtual 49, 3) := by decide +kernel
theorem d_LS_append_75 : decode b_LS_append 75 = .ok (.aload 4, 2) := by decide +kernel
theorem d_LS_append_77 : decode b_LS_append 77 = .ok (.getfield 23, 3) := by decide +kernel
theorem d_LS_append_80 : decode b_LS_append 80 = .ok (.ireturn, 1) := by decide +kernel
abbrev y_LS_delete : MethodName := ⟨"LanguageServer", "delete", "(II)I"⟩
abbrev b_LS_delete : ByteArray := prog_1_method_4_code
theorem d_LS_delete_0 : decode b_LS_delete 0 = .ok (.aload_n 0, 1) := by decide +kernel
theorem d_LS_delete_1 : decode b_LS_delete 1 = .ok (.getfield 10, 3) := by decide +kernel
theorem d_LS_delete_4 : decode b_LS_delete 4 = .ok (.getfield 19, 3) := by decide +kernel
theorem d_LS_delete_7 : decode b_LS_delete 7 = .ok (.astore_n 3, 1) := by decide +kernel
theorem d_LS_delete_8 : decode b_LS_delete 8 = .ok (.iload_n 1, 1) := by decide +kernel
theorem d_LS_delete_9 : decode b_LS_delete 9 = .ok (.ifCond .lt 25, 3) := by decide +kernel
theorem d_LS_delete_12 : decode b_LS_delete 12 = .ok (.iload_n 1, 1) := by decide +kernel
theorem d_LS_delete_13 : decode b_LS_delete 13 = .ok (.aload_n 3, 1) := by decide +kernel
theorem d_LS_delete_14 : decode b_LS_delete 14 = .ok (.getfield 23, 3) := by decide +kernel
theorem d_LS_delete_17 : decode b_LS_delete 17 = .ok (.if_icmp .gt 17, 3) := by decide +kernel
theorem d_LS_delete_20 : decode b_LS_delete 20 = .ok (.iload_n 2, 1) := by decide +kernel
theorem d_LS_delete_21 : decode b_LS_delete 21 = .ok (.ifCond .lt 13, 3) := by decide +kernel
theorem d_LS_delete_24 : decode b_LS_delete 24 = .ok (.iload_n 2, 1) := by decide +kernel
theorem d_LS_delete_25 : decode b_LS_delete 25 = .ok (.aload_n 3, 1) := by decide +kernel
theorem d_LS_delete_26 : decode b_LS_delete 26 = .ok (.getfield 23, 3) := by decide +kernel
theorem d_LS_delete_29 : decode b_LS_delete 29 = .ok (.iload_n 1, 1) := by decide +kernel
theorem d_LS_delete_30 : decode b_LS_delete 30 = .ok (.isub, 1) := by decide +kernel
theorem d_LS_delete_31 : decode b_LS_delete 31 = .ok (.if_icmp .le 13, 3) := by decide +kernel
theorem d_LS_delete_34 : decode b_LS_delete 34 = .ok (.new 33, 3) := by decide +kernel
theorem d_LS_delete_37 : decode b_LS_delete 37 = .ok (.dup, 1) := by decide +kernel
theorem d_LS_delete_38 : decode b_LS_delete 38 = .ok (.ldc 64, 2) := by decide +kernel
theorem d_LS_delete_40 : decode b_LS_delete 40 = .ok (.invokespecial 37, 3) := by decide +kernel
theorem d_LS_delete_43 : decode b_LS_delete 43 = .ok (.athrow, 1) := by decide +kernel
theorem d_LS_delete_44 : decode b_LS_delete 44 = .ok (.aload_n 3, 1) := by decide +kernel
theorem d_LS_delete_45 : decode b_LS_delete 45 = .ok (.iload_n 1, 1) := by decide +kernel
theorem d_LS_delete_46 : decode b_LS_delete 46 = .ok (.iload_n 2, 1) := by decide +kernel
theorem d_LS_delete_47 : decode b_LS_delete 47 = .ok (.invokevirtual 66, 3) := by decide +kernel
theorem d_LS_delete_50 : decode b_LS_delete 50 = .ok (.aload_n 0, 1) := by decide +kernel
theorem d_LS_delete_51 : decode b_LS_delete 51 = .ok (.getfield 10, 3) := by decide +kernel
theorem d_LS_delete_54 : decode b_LS_delete 54 = .ok (.invokevirtual 49, 3) := by decide +kernel
theorem d_LS_delete_57 : decode b_LS_delete 57 = .ok (.aload_n 3, 1) := by decide +kernel
theorem d_LS_delete_58 : decode b_LS_delete 58 = .ok (.getfield 23, 3) := by decide +kernel
theorem d_LS_delete_61 : decode b_LS_delete 61 = .ok (.ireturn, 1) := by decide +kernel
abbrev y_LS_text : MethodName := ⟨"LanguageServer", "text", "(I)I"⟩
abbrev b_LS_text : ByteArray := prog_1_method_5_code
theorem d_LS_text_0 : decode b_LS_text 0 = .ok (.iload_n 1, 1) := by decide +kernel
theorem d_LS_text_1 : decode b_LS_text 1 = .ok (.ifCond .lt 17, 3) := by decide +kernel
theorem d_LS_text_4 : decode b_LS_text 4 = .ok (.iload_n 1, 1) := by decide +kernel
theorem d_LS_text_5 : decode b_LS_text 5 = .ok (.aload_n 0, 1) := by decide +kernel
theorem d_LS_text_6 : decode b_LS_text 6 = .ok (.getfield 10, 3) := by decide +kernel
theorem d_LS_text_9 : decode b_LS_text 9 = .ok (.getfield 19, 3) := by decide +kernel
theorem d_LS_text_12 : decode b_LS_text 12 = .ok (.getfield 23, 3) := by decide +kernel
theorem d_LS_text_15 : decode b_LS_text 15 = .ok (.if_icmp .lt 13, 3) := by decide +kernel
theorem d_LS_text_18 : decode b_LS_text 18 = .ok (.new 69, 3) := by decide +kernel
theorem d_LS_text_21 : decode b_LS_text 21 = .ok (.dup, 1) := by decide +kernel
theorem d_LS_text_22 : decode b_LS_text 22 = .ok (.ldc 71, 2) := by decide +kernel
theorem d_LS_text_24 : decode b_LS_text 24 = .ok (.invokespecial 73, 3) := by decide +kernel
theorem d_LS_text_27 : decode b_LS_text 27 = .ok (.athrow, 1) := by decide +kernel
theorem d_LS_text_28 : decode b_LS_text 28 = .ok (.aload_n 0, 1) := by decide +kernel
theorem d_LS_text_29 : decode b_LS_text 29 = .ok (.getfield 10, 3) := by decide +kernel
theorem d_LS_text_32 : decode b_LS_text 32 = .ok (.getfield 19, 3) := by decide +kernel
theorem d_LS_text_35 : decode b_LS_text 35 = .ok (.getfield 74, 3) := by decide +kernel
theorem d_LS_text_38 : decode b_LS_text 38 = .ok (.iload_n 1, 1) := by decide +kernel
theorem d_LS_text_39 : decode b_LS_text 39 = .ok (.iaload, 1) := by decide +kernel
theorem d_LS_text_40 : decode b_LS_text 40 = .ok (.ireturn, 1) := by decide +kernel
abbrev y_LS_diagnostics : MethodName := ⟨"LanguageServer", "diagnostics", "()I"⟩
abbrev b_LS_diagnostics : ByteArray := prog_1_method_6_code
theorem d_LS_diagnostics_0 : decode b_LS_diagnostics 0 = .ok (.aload_n 0, 1) := by decide +kernel
theorem d_LS_diagnostics_1 : decode b_LS_diagnostics 1 = .ok (.getfield 10, 3) := by decide +kernel
theorem d_LS_diagnostics_4 : decode b_LS_diagnostics 4 = .ok (.invokevirtual 78, 3) := by decide +kernel
theorem d_LS_diagnostics_7 : decode b_LS_diagnostics 7 = .ok (.aload_n 0, 1) := by decide +kernel
theorem d_LS_diagnostics_8 : decode b_LS_diagnostics 8 = .ok (.getfield 10, 3) := by decide +kernel
theorem d_LS_diagnostics_11 : decode b_LS_diagnostics 11 = .ok (.getfield 81, 3) := by decide +kernel
theorem d_LS_diagnostics_14 : decode b_LS_diagnostics 14 = .ok (.invokevirtual 85, 3) := by decide +kernel
theorem d_LS_diagnostics_17 : decode b_LS_diagnostics 17 = .ok (.ireturn, 1) := by decide +kernel
abbrev y_LS_diagnostic : MethodName := ⟨"LanguageServer", "diagnostic", "(II)I"⟩
abbrev b_LS_diagnostic : ByteArray := prog_1_method_7_code
theorem d_LS_diagnostic_0 : decode b_LS_diagnostic 0 = .ok (.aload_n 0, 1) := by decide +kernel
theorem d_LS_diagnostic_1 : decode b_LS_diagnostic 1 = .ok (.getfield 10, 3) := by decide +kernel
theorem d_LS_diagnostic_4 : decode b_LS_diagnostic 4 = .ok (.invokevirtual 78, 3) := by decide +kernel
theorem d_LS_diagnostic_7 : decode b_LS_diagnostic 7 = .ok (.iload_n 1, 1) := by decide +kernel
theorem d_LS_diagnostic_8 : decode b_LS_diagnostic 8 = .ok (.ifCond .lt 17, 3) := by decide +kernel
theorem d_LS_diagnostic_11 : decode b_LS_diagnostic 11 = .ok (.iload_n 1, 1) := by decide +kernel
theorem d_LS_diagnostic_12 : decode b_LS_diagnostic 12 = .ok (.aload_n 0, 1) := by decide +kernel
theorem d_LS_diagnostic_13 : decode b_LS_diagnostic 13 = .ok (.getfield 10, 3) := by decide +kernel
theorem d_LS_diagnostic_16 : decode b_LS_diagnostic 16 = .ok (.getfield 81, 3) := by decide +kernel
theorem d_LS_diagnostic_19 : decode b_LS_diagnostic 19 = .ok (.invokevirtual 85, 3) := by decide +kernel
theorem d_LS_diagnostic_22 : decode b_LS_diagnostic 22 = .ok (.if_icmp .lt 13, 3) := by decide +kernel
theorem d_LS_diagnostic_25 : decode b_LS_diagnostic 25 = .ok (.new 69, 3) := by decide +kernel
theorem d_LS_diagnostic_28 : decode b_LS_diagnostic 28 = .ok (.dup, 1) := by decide +kernel
theorem d_LS_diagnostic_29 : decode b_LS_diagnostic 29 = .ok (.ldc 91, 2) := by decide +kernel
theorem d_LS_diagnostic_31 : decode b_LS_diagnostic 31 = .ok (.invokespecial 73, 3) := by decide +kernel
theorem d_LS_diagnostic_34 : decode b_LS_diagnostic 34 = .ok (.athrow, 1) := by decide +kernel
theorem d_LS_diagnostic_35 : decode b_LS_diagnostic 35 = .ok (.iload_n 2, 1) := by decide +kernel
theorem d_LS_diagnostic_36 : decode b_LS_diagnostic 36 = .ok (.ifCond .ne 15, 3) := by decide +kernel
theorem d_LS_diagnostic_39 : decode b_LS_diagnostic 39 = .ok (.aload_n 0, 1) := by decide +kernel
theorem d_LS_diagnostic_40 : decode b_LS_diagnostic 40 = .ok (.getfield 10, 3) := by decide +kernel
theorem d_LS_diagnostic_43 : decode b_LS_diagnostic 43 = .ok (.getfield 81, 3) := by decide +kernel
theorem d_LS_diagnostic_46 : decode b_LS_diagnostic 46 = .ok (.iload_n 1, 1) := by decide +kernel
theorem d_LS_diagnostic_47 : decode b_LS_diagnostic 47 = .ok (.invokevirtual 93, 3) := by decide +kernel
theorem d_LS_diagnostic_50 : decode b_LS_diagnostic 50 = .ok (.ireturn, 1) := by decide +kernel
theorem d_LS_diagnostic_51 : decode b_LS_diagnostic 51 = .ok (.iload_n 2, 1) := by decide +kernel
theorem d_LS_diagnostic_52 : decode b_LS_diagnostic 52 = .ok (.iconst 1, 1) := by decide +kernel
theorem d_LS_diagnostic_53 : decode b_LS_diagnostic 53 = .ok (.if_icmp .ne 22, 3) := by decide +kernel
theorem d_LS_diagnostic_56 : decode b_LS_diagnostic 56 = .ok (.aload_n 0, 1) := by decide +kernel
theorem d_LS_diagnostic_57 : decode b_LS_diagnostic 57 = .ok (.getfield 10, 3) := by decide +kernel
theorem d_LS_diagnostic_60 : decode b_LS_diagnostic 60 = .ok (.getfield 81, 3) := by decide +kernel
theorem d_LS_diagnostic_63 : decode b_LS_diagnostic 63 = .ok (.iload_n 1, 1) := by decide +kernel
theorem d_LS_diagnostic_64 : decode b_LS_diagnostic 64 = .ok (.aload_n 0, 1) := by decide +kernel
theorem d_LS_diagnostic_65 : decode b_LS_diagnostic 65 = .ok (.getfield 10, 3) := by decide +kernel
theorem d_LS_diagnostic_68 : decode b_LS_diagnostic 68 = .ok (.getfield 97, 3) := by decide +kernel
theorem d_LS_diagnostic_71 : decode b_LS_diagnostic 71 = .ok (.invokevirtual 101, 3) := by decide +kernel
theorem d_LS_diagnostic_74 : decode b_LS_diagnostic 74 = .ok (.ireturn, 1) := by decide +kernel
theorem d_LS_diagnostic_75 : decode b_LS_diagnostic 75 = .ok (.new 33, 3) := by decide +kernel
theorem d_LS_diagnostic_78 : decode b_LS_diagnostic 78 = .ok (.dup, 1) := by decide +kernel
theorem d_LS_diagnostic_79 : decode b_LS_diagnostic 79 = .ok (.ldc 105, 2) := by decide +kernel
theorem d_LS_diagnostic_81 : decode b_LS_diagnostic 81 = .ok (.invokespecial 37, 3) := by decide +kernel
theorem d_LS_diagnostic_84 : decode b_LS_diagnostic 84 = .ok (.athrow, 1) := by decide +kernel
abbrev y_LS_definition : MethodName := ⟨"LanguageServer", "definition", "(I)I"⟩
abbrev b_LS_definition : ByteArray := prog_1_method_8_code
theorem d_LS_definition_0 : decode b_LS_definition 0 = .ok (.aload_n 0, 1) := by decide +kernel
theorem d_LS_definition_1 : decode b_LS_definition 1 = .ok (.getfield 10, 3) := by decide +kernel
theorem d_LS_definition_4 : decode b_LS_definition 4 = .ok (.invokevirtual 78, 3) := by decide +kernel
theorem d_LS_definition_7 : decode b_LS_definition 7 = .ok (.aload_n 0, 1) := by decide +kernel
theorem d_LS_definition_8 : decode b_LS_definition 8 = .ok (.getfield 10, 3) := by decide +kernel
theorem d_LS_definition_11 : decode b_LS_definition 11 = .ok (.getfield 97, 3) := by decide +kernel
theorem d_LS_definition_14 : decode b_LS_definition 14 = .ok (.getfield 107, 3) := by decide +kernel
theorem d_LS_definition_17 : decode b_LS_definition 17 = .ok (.aload_n 0, 1) := by decide +kernel
theorem d_LS_definition_18 : decode b_LS_definition 18 = .ok (.iload_n 1, 1) := by decide +kernel
theorem d_LS_definition_19 : decode b_LS_definition 19 = .ok (.invokevirtual 112, 3) := by decide +kernel
theorem d_LS_definition_22 : decode b_LS_definition 22 = .ok (.iaload, 1) := by decide +kernel
theorem d_LS_definition_23 : decode b_LS_definition 23 = .ok (.ireturn, 1) := by decide +kernel
abbrev y_LS_type : MethodName := ⟨"LanguageServer", "type", "(I)I"⟩
abbrev b_LS_type : ByteArray := prog_1_method_9_code
theorem d_LS_type_0 : decode b_LS_type 0 = .ok (.aload_n 0, 1) := by decide +kernel
theorem d_LS_type_1 : decode b_LS_type 1 = .ok (.getfield 10, 3) := by decide +kernel
theorem d_LS_type_4 : decode b_LS_type 4 = .ok (.invokevirtual 78, 3) := by decide +kernel
theorem d_LS_type_7 : decode b_LS_type 7 = .ok (.aload_n 0, 1) := by decide +kernel
theorem d_LS_type_8 : decode b_LS_type 8 = .ok (.getfield 10, 3) := by decide +kernel
theorem d_LS_type_11 : decode b_LS_type 11 = .ok (.getfield 115, 3) := by decide +kernel
theorem d_LS_type_14 : decode b_LS_type 14 = .ok (.getfield 119, 3) := by decide +kernel
theorem d_LS_type_17 : decode b_LS_type 17 = .ok (.aload_n 0, 1) := by decide +kernel
theorem d_LS_type_18 : decode b_LS_type 18 = .ok (.iload_n 1, 1) := by decide +kernel
theorem d_LS_type_19 : decode b_LS_type 19 = .ok (.invokevirtual 112, 3) := by decide +kernel
theorem d_LS_type_22 : decode b_LS_type 22 = .ok (.iaload, 1) := by decide +kernel
theorem d_LS_type_23 : decode b_LS_type 23 = .ok (.ireturn, 1) := by decide +kernel
abbrev y_LS_references : MethodName := ⟨"LanguageServer", "references", "(I)I"⟩
abbrev b_LS_references : ByteArray := prog_1_method_10_code
theorem d_LS_references_0 : decode b_LS_references 0 = .ok (.aload_n 0, 1) := by decide +kernel
theorem d_LS_references_1 : decode b_LS_references 1 = .ok (.getfield 10, 3) := by decide +kernel
theorem d_LS_references_4 : decode b_LS_references 4 = .ok (.invokevirtual 78, 3) := by decide +kernel
theorem d_LS_references_7 : decode b_LS_references 7 = .ok (.aload_n 0, 1) := by decide +kernel
theorem d_LS_references_8 : decode b_LS_references 8 = .ok (.getfield 10, 3) := by decide +kernel
theorem d_LS_references_11 : decode b_LS_references 11 = .ok (.aload_n 0, 1) := by decide +kernel
theorem d_LS_references_12 : decode b_LS_references 12 = .ok (.iload_n 1, 1) := by decide +kernel
theorem d_LS_references_13 : decode b_LS_references 13 = .ok (.invokevirtual 112, 3) := by decide +kernel
theorem d_LS_references_16 : decode b_LS_references 16 = .ok (.invokevirtual 124, 3) := by decide +kernel
theorem d_LS_references_19 : decode b_LS_references 19 = .ok (.ireturn, 1) := by decide +kernel
abbrev y_LS_reference : MethodName := ⟨"LanguageServer", "reference", "(II)I"⟩
abbrev b_LS_reference : ByteArray := prog_1_method_11_code
theorem d_LS_reference_0 : decode b_LS_reference 0 = .ok (.aload_n 0, 1) := by decide +kernel
theorem d_LS_reference_1 : decode b_LS_reference 1 = .ok (.getfield 10, 3) := by decide +kernel
theorem d_LS_reference_4 : decode b_LS_reference 4 = .ok (.invokevirtual 78, 3) := by decide +kernel
theorem d_LS_reference_7 : decode b_LS_reference 7 = .ok (.aload_n 0, 1) := by decide +kernel
theorem d_LS_reference_8 : decode b_LS_reference 8 = .ok (.getfield 10, 3) := by decide +kernel
theorem d_LS_reference_11 : decode b_LS_reference 11 = .ok (.aload_n 0, 1) := by decide +kernel
theorem d_LS_reference_12 : decode b_LS_reference 12 = .ok (.iload_n 1, 1) := by decide +kernel
theorem d_LS_reference_13 : decode b_LS_reference 13 = .ok (.invokevirtual 112, 3) := by decide +kernel
theorem d_LS_reference_16 : decode b_LS_reference 16 = .ok (.iload_n 2, 1) := by decide +kernel
theorem d_LS_reference_17 : decode b_LS_reference 17 = .ok (.invokevirtual 127, 3) := by decide +kernel
theorem d_LS_reference_20 : decode b_LS_reference 20 = .ok (.istore_n 3, 1) := by decide +kernel
theorem d_LS_reference_21 : decode b_LS_reference 21 = .ok (.iload_n 3, 1) := by decide +kernel
theorem d_LS_reference_22 : decode b_LS_reference 22 = .ok (.iconst (-1), 1) := by decide +kernel
theorem d_LS_reference_23 : decode b_LS_reference 23 = .ok (.if_icmp .ne 13, 3) := by decide +kernel
theorem d_LS_reference_26 : decode b_LS_reference 26 = .ok (.new 69, 3) := by decide +kernel
theorem d_LS_reference_29 : decode b_LS_reference 29 = .ok (.dup, 1) := by decide +kernel
theorem d_LS_reference_30 : decode b_LS_reference 30 = .ok (.ldc 131, 2) := by decide +kernel
theorem d_LS_reference_32 : decode b_LS_reference 32 = .ok (.invokespecial 73, 3) := by decide +kernel
theorem d_LS_reference_35 : decode b_LS_reference 35 = .ok (.athrow, 1) := by decide +kernel
theorem d_LS_reference_36 : decode b_LS_reference 36 = .ok (.aload_n 0, 1) := by decide +kernel
theorem d_LS_reference_37 : decode b_LS_reference 37 = .ok (.getfield 10, 3) := by decide +kernel
theorem d_LS_reference_40 : decode b_LS_reference 40 = .ok (.getfield 97, 3) := by decide +kernel
theorem d_LS_reference_43 : decode b_LS_reference 43 = .ok (.getfield 107, 3) := by decide +kernel
theorem d_LS_reference_46 : decode b_LS_reference 46 = .ok (.iload_n 3, 1) := by decide +kernel
theorem d_LS_reference_47 : decode b_LS_reference 47 = .ok (.iaload, 1) := by decide +kernel
theorem d_LS_reference_48 : decode b_LS_reference 48 = .ok (.ireturn, 1) := by decide +kernel
abbrev y_LS_members : MethodName := ⟨"LanguageServer", "members", "(I)I"⟩
abbrev b_LS_members : ByteArray := prog_1_method_12_code
theorem d_LS_members_0 : decode b_LS_members 0 = .ok (.aload_n 0, 1) := by decide +kernel
theorem d_LS_members_1 : decode b_LS_members 1 = .ok (.getfield 10, 3) := by decide +kernel
theorem d_LS_members_4 : decode b_LS_members 4 = .ok (.invokevirtual 78, 3) := by decide +kernel
theorem d_LS_members_7 : decode b_LS_members 7 = .ok (.aload_n 0, 1) := by decide +kernel
theorem d_LS_members_8 : decode b_LS_members 8 = .ok (.getfield 10, 3) := by decide +kernel
theorem d_LS_members_11 : decode b_LS_members 11 = .ok (.getfield 115, 3) := by decide +kernel
theorem d_LS_members_14 : decode b_LS_members 14 = .ok (.iload_n 1, 1) := by decide +kernel
theorem d_LS_members_15 : decode b_LS_members 15 = .ok (.invokevirtual 133, 3) := by decide +kernel
theorem d_LS_members_18 : decode b_LS_members 18 = .ok (.ifCond .ne 13, 3) := by decide +kernel
theorem d_LS_members_21 : decode b_LS_members 21 = .ok (.new 69, 3) := by decide +kernel
theorem d_LS_members_24 : decode b_LS_members 24 = .ok (.dup, 1) := by decide +kernel
theorem d_LS_members_25 : decode b_LS_members 25 = .ok (.ldc 136, 2) := by decide +kernel
theorem d_LS_members_27 : decode b_LS_members 27 = .ok (.invokespecial 73, 3) := by decide +kernel
theorem d_LS_members_30 : decode b_LS_members 30 = .ok (.athrow, 1) := by decide +kernel
theorem d_LS_members_31 : decode b_LS_members 31 = .ok (.aload_n 0, 1) := by decide +kernel
theorem d_LS_members_32 : decode b_LS_members 32 = .ok (.getfield 10, 3) := by decide +kernel
theorem d_LS_members_35 : decode b_LS_members 35 = .ok (.getfield 115, 3) := by decide +kernel
theorem d_LS_members_38 : decode b_LS_members 38 = .ok (.iload_n 1, 1) := by decide +kernel
theorem d_LS_members_39 : decode b_LS_members 39 = .ok (.invokevirtual 138, 3) := by decide +kernel
theorem d_LS_members_42 : decode b_LS_members 42 = .ok (.ireturn, 1) := by decide +kernel
abbrev y_LS_member : MethodName := ⟨"LanguageServer", "member", "(II)I"⟩
abbrev b_LS_member : ByteArray := prog_1_method_13_code
theorem d_LS_member_0 : decode b_LS_member 0 = .ok (.aload_n 0, 1) := by decide +kernel
theorem d_LS_member_1 : decode b_LS_member 1 = .ok (.getfield 10, 3) := by decide +kernel
theorem d_LS_member_4 : decode b_LS_member 4 = .ok (.invokevirtual 78, 3) := by decide +kernel
theorem d_LS_member_7 : decode b_LS_member 7 = .ok (.aload_n 0, 1) := by decide +kernel
theorem d_LS_member_8 : decode b_LS_member 8 = .ok (.getfield 10, 3) := by decide +kernel
theorem d_LS_member_11 : decode b_LS_member 11 = .ok (.getfield 115, 3) := by decide +kernel
theorem d_LS_member_14 : decode b_LS_member 14 = .ok (.iload_n 1, 1) := by decide +kernel
theorem d_LS_member_15 : decode b_LS_member 15 = .ok (.invokevirtual 133, 3) := by decide +kernel
theorem d_LS_member_18 : decode b_LS_member 18 = .ok (.ifCond .ne 13, 3) := by decide +kernel
theorem d_LS_member_21 : decode b_LS_member 21 = .ok (.new 69, 3) := by decide +kernel
theorem d_LS_member_24 : decode b_LS_member 24 = .ok (.dup, 1) := by decide +kernel
theorem d_LS_member_25 : decode b_LS_member 25 = .ok (.ldc 136, 2) := by decide +kernel
theorem d_LS_member_27 : decode b_LS_member 27 = .ok (.invokespecial 73, 3) := by decide +kernel
theorem d_LS_member_30 : decode b_LS_member 30 = .ok (.athrow, 1) := by decide +kernel
theorem d_LS_member_31 : decode b_LS_member 31 = .ok (.iload_n 2, 1) := by decide +kernel
theorem d_LS_member_32 : decode b_LS_member 32 = .ok (.ifCond .lt 18, 3) := by decide +kernel
theorem d_LS_member_35 : decode b_LS_member 35 = .ok (.iload_n 2, 1) := by decide +kernel
theorem d_LS_member_36 : decode b_LS_member 36 = .ok (.aload_n 0, 1) := by decide +kernel
theorem d_LS_member_37 : decode b_LS_member 37 = .ok (.getfield 10, 3) := by decide +kernel
theorem d_LS_member_40 : decode b_LS_member 40 = .ok (.getfield 115, 3) := by decide +kernel
theorem d_LS_member_43 : decode b_LS_member 43 = .ok (.iload_n 1, 1) := by decide +kernel
theorem d_LS_member_44 : decode b_LS_member 44 = .ok (.invokevirtual 138, 3) := by decide +kernel
theorem d_LS_member_47 : decode b_LS_member 47 = .ok (.if_icmp .lt 13, 3) := by decide +kernel
theorem d_LS_member_50 : decode b_LS_member 50 = .ok (.new 69, 3) := by decide +kernel
theorem d_LS_member_53 : decode b_LS_member 53 = .ok (.dup, 1) := by decide +kernel
theorem d_LS_member_54 : decode b_LS_member 54 = .ok (.ldc 141, 2) := by decide +kernel
theorem d_LS_member_56 : decode b_LS_member 56 = .ok (.invokespecial 73, 3) := by decide +kernel
theorem d_LS_member_59 : decode b_LS_member 59 = .ok (.athrow, 1) := by decide +kernel
theorem d_LS_member_60 : decode b_LS_member 60 = .ok (.aload_n 0, 1) := by decide +kernel
theorem d_LS_member_61 : decode b_LS_member 61 = .ok (.getfield 10, 3) := by decide +kernel
theorem d_LS_member_64 : decode b_LS_member 64 = .ok (.getfield 97, 3) := by decide +kernel
theorem d_LS_member_67 : decode b_LS_member 67 = .ok (.getfield 107, 3) := by decide +kernel
theorem d_LS_member_70 : decode b_LS_member 70 = .ok (.aload_n 0, 1) := by decide +kernel
theorem d_LS_member_71 : decode b_LS_member 71 = .ok (.getfield 10, 3) := by decide +kernel
theorem d_LS_member_74 : decode b_LS_member 74 = .ok (.getfield 115, 3) := by decide +kernel
theorem d_LS_member_77 : decode b_LS_member 77 = .ok (.getfield 143, 3) := by decide +kernel
theorem d_LS_member_80 : decode b_LS_member 80 = .ok (.iload_n 2, 1) := by decide +kernel
theorem d_LS_member_81 : decode b_LS_member 81 = .ok (.iaload, 1) := by decide +kernel
theorem d_LS_member_82 : decode b_LS_member 82 = .ok (.iaload, 1) := by decide +kernel
theorem d_LS_member_83 : decode b_LS_member 83 = .ok (.ireturn, 1) := by decide +kernel
abbrev y_LS_rename : MethodName := ⟨"LanguageServer", "rename", "(IJI)I"⟩
abbrev b_LS_rename : ByteArray := prog_1_method_14_code
theorem d_LS_rename_0 : decode b_LS_rename 0 = .ok (.aload_n 0, 1) := by decide +kernel
theorem d_LS_rename_1 : decode b_LS_rename 1 = .ok (.getfield 10, 3) := by decide +kernel
theorem d_LS_rename_4 : decode b_LS_rename 4 = .ok (.invokevirtual 78, 3) := by decide +kernel
theorem d_LS_rename_7 : decode b_LS_rename 7 = .ok (.aload_n 0, 1) := by decide +kernel
theorem d_LS_rename_8 : decode b_LS_rename 8 = .ok (.iload_n 1, 1) := by decide +kernel
theorem d_LS_rename_9 : decode b_LS_rename 9 = .ok (.invokevirtual 112, 3) := by decide +kernel
theorem d_LS_rename_12 : decode b_LS_rename 12 = .ok (.istore 5, 2) := by decide +kernel
theorem d_LS_rename_14 : decode b_LS_rename 14 = .ok (.iload 4, 2) := by decide +kernel
theorem d_LS_rename_16 : decode b_LS_rename 16 = .ok (.iconst 1, 1) := by decide +kernel
theorem d_LS_rename_17 : decode b_LS_rename 17 = .ok (.if_icmp .lt 19, 3) := by decide +kernel
theorem d_LS_rename_20 : decode b_LS_rename 20 = .ok (.iload 4, 2) := by decide +kernel
theorem d_LS_rename_22 : decode b_LS_rename 22 = .ok (.bipush 8, 2) := by decide +kernel
theorem d_LS_rename_24 : decode b_LS_rename 24 = .ok (.if_icmp .gt 12, 3) := by decide +kernel
theorem d_LS_rename_27 : decode b_LS_rename 27 = .ok (.lload_n 2, 1) := by decide +kernel
theorem d_LS_rename_28 : decode b_LS_rename 28 = .ok (.iload 4, 2) := by decide +kernel
theorem d_LS_rename_30 : decode b_LS_rename 30 = .ok (.invokestatic 146, 3) := by decide +kernel
theorem d_LS_rename_33 : decode b_LS_rename 33 = .ok (.ifCond .ne 13, 3) := by decide +kernel
theorem d_LS_rename_36 : decode b_LS_rename 36 = .ok (.new 33, 3) := by decide +kernel
theorem d_LS_rename_39 : decode b_LS_rename 39 = .ok (.dup, 1) := by decide +kernel
theorem d_LS_rename_40 : decode b_LS_rename 40 = .ok (.ldc 149, 2) := by decide +kernel
theorem d_LS_rename_42 : decode b_LS_rename 42 = .ok (.invokespecial 37, 3) := by decide +kernel
theorem d_LS_rename_45 : decode b_LS_rename 45 = .ok (.athrow, 1) := by decide +kernel
theorem d_LS_rename_46 : decode b_LS_rename 46 = .ok (.aload_n 0, 1) := by decide +kernel
theorem d_LS_rename_47 : decode b_LS_rename 47 = .ok (.getfield 10, 3) := by decide +kernel
theorem d_LS_rename_50 : decode b_LS_rename 50 = .ok (.iload 5, 2) := by decide +kernel
theorem d_LS_rename_52 : decode b_LS_rename 52 = .ok (.invokevirtual 124, 3) := by decide +kernel
theorem d_LS_rename_55 : decode b_LS_rename 55 = .ok (.istore 6, 2) := by decide +kernel
theorem d_LS_rename_57 : decode b_LS_rename 57 = .ok (.iload 4, 2) := by decide +kernel
theorem d_LS_rename_59 : decode b_LS_rename 59 = .ok (.aload_n 0, 1) := by decide +kernel
theorem d_LS_rename_60 : decode b_LS_rename 60 = .ok (.getfield 10, 3) := by decide +kernel
theorem d_LS_rename_63 : decode b_LS_rename 63 = .ok (.getfield 97, 3) := by decide +kernel
theorem d_LS_rename_66 : decode b_LS_rename 66 = .ok (.getfield 151, 3) := by decide +kernel
theorem d_LS_rename_69 : decode b_LS_rename 69 = .ok (.iload 5, 2) := by decide +kernel
theorem d_LS_rename_71 : decode b_LS_rename 71 = .ok (.iaload, 1) := by decide +kernel
theorem d_LS_rename_72 : decode b_LS_rename 72 = .ok (.aload_n 0, 1) := by decide +kernel
theorem d_LS_rename_73 : decode b_LS_rename 73 = .ok (.getfield 10, 3) := by decide +kernel
theorem d_LS_rename_76 : decode b_LS_rename 76 = .ok (.getfield 97, 3) := by decide +kernel
theorem d_LS_rename_79 : decode b_LS_rename 79 = .ok (.getfield 107, 3) := by decide +kernel
theorem d_LS_rename_82 : decode b_LS_rename 82 = .ok (.iload 5, 2) := by decide +kernel
theorem d_LS_rename_84 : decode b_LS_rename 84 = .ok (.iaload, 1) := by decide +kernel
theorem d_LS_rename_85 : decode b_LS_rename 85 = .ok (.isub, 1) := by decide +kernel
theorem d_LS_rename_86 : decode b_LS_rename 86 = .ok (.isub, 1) := by decide +kernel
theorem d_LS_rename_87 : decode b_LS_rename 87 = .ok (.istore 7, 2) := by decide +kernel
theorem d_LS_rename_89 : decode b_LS_rename 89 = .ok (.aload_n 0, 1) := by decide +kernel
theorem d_LS_rename_90 : decode b_LS_rename 90 = .ok (.getfield 10, 3) := by decide +kernel
theorem d_LS_rename_93 : decode b_LS_rename 93 = .ok (.getfield 19, 3) := by decide +kernel
theorem d_LS_rename_96 : decode b_LS_rename 96 = .ok (.getfield 23, 3) := by decide +kernel
theorem d_LS_rename_99 : decode b_LS_rename 99 = .ok (.iload 6, 2) := by decide +kernel
theorem d_LS_rename_101 : decode b_LS_rename 101 = .ok (.iload 7, 2) := by decide +kernel
theorem d_LS_rename_103 : decode b_LS_rename 103 = .ok (.imul, 1) := by decide +kernel
theorem d_LS_rename_104 : decode b_LS_rename 104 = .ok (.iadd, 1) := by decide +kernel
theorem d_LS_rename_105 : decode b_LS_rename 105 = .ok (.sipush 240, 3) := by decide +kernel
theorem d_LS_rename_108 : decode b_LS_rename 108 = .ok (.if_icmp .le 13, 3) := by decide +kernel
theorem d_LS_rename_111 : decode b_LS_rename 111 = .ok (.new 40, 3) := by decide +kernel
theorem d_LS_rename_114 : decode b_LS_rename 114 = .ok (.dup, 1) := by decide +kernel
theorem d_LS_rename_115 : decode b_LS_rename 115 = .ok (.ldc 58, 2) := by decide +kernel
theorem d_LS_rename_117 : decode b_LS_rename 117 = .ok (.invokespecial 44, 3) := by decide +kernel
theorem d_LS_rename_120 : decode b_LS_rename 120 = .ok (.athrow, 1) := by decide +kernel
theorem d_LS_rename_121 : decode b_LS_rename 121 = .ok (.aload_n 0, 1) := by decide +kernel
theorem d_LS_rename_122 : decode b_LS_rename 122 = .ok (.getfield 16, 3) := by decide +kernel
theorem d_LS_rename_125 : decode b_LS_rename 125 = .ok (.aload_n 0, 1) := by decide +kernel
theorem d_LS_rename_126 : decode b_LS_rename 126 = .ok (.getfield 10, 3) := by decide +kernel
theorem d_LS_rename_129 : decode b_LS_rename 129 = .ok (.iload 5, 2) := by decide +kernel
theorem d_LS_rename_131 : decode b_LS_rename 131 = .ok (.lload_n 2, 1) := by decide +kernel
theorem d_LS_rename_132 : decode b_LS_rename 132 = .ok (.iload 4, 2) := by decide +kernel
theorem d_LS_rename_134 : decode b_LS_rename 134 = .ok (.invokevirtual 154, 3) := by decide +kernel
theorem d_LS_rename_137 : decode b_LS_rename 137 = .ok (.aload_n 0, 1) := by decide +kernel
theorem d_LS_rename_138 : decode b_LS_rename 138 = .ok (.getfield 16, 3) := by decide +kernel
theorem d_LS_rename_141 : decode b_LS_rename 141 = .ok (.invokevirtual 78, 3) := by decide +kernel
theorem d_LS_rename_144 : decode b_LS_rename 144 = .ok (.aload_n 0, 1) := by decide +kernel
theorem d_LS_rename_145 : decode b_LS_rename 145 = .ok (.getfield 16, 3) := by decide +kernel
theorem d_LS_rename_148 : decode b_LS_rename 148 = .ok (.aload_n 0, 1) := by decide +kernel
theorem d_LS_rename_149 : decode b_LS_rename 149 = .ok (.getfield 10, 3) := by decide +kernel
theorem d_LS_rename_152 : decode b_LS_rename 152 = .ok (.iload 5, 2) := by decide +kernel
theorem d_LS_rename_154 : decode b_LS_rename 154 = .ok (.invokevirtual 158, 3) := by decide +kernel
theorem d_LS_rename_157 : decode b_LS_rename 157 = .ok (.ifCond .ne 13, 3) := by decide +kernel
theorem d_LS_rename_160 : decode b_LS_rename 160 = .ok (.new 40, 3) := by decide +kernel
theorem d_LS_rename_163 : decode b_LS_rename 163 = .ok (.dup, 1) := by decide +kernel
theorem d_LS_rename_164 : decode b_LS_rename 164 = .ok (.ldc 162, 2) := by decide +kernel
theorem d_LS_rename_166 : decode b_LS_rename 166 = .ok (.invokespecial 44, 3) := by decide +kernel
theorem d_LS_rename_169 : decode b_LS_rename 169 = .ok (.athrow, 1) := by decide +kernel
theorem d_LS_rename_170 : decode b_LS_rename 170 = .ok (.aload_n 0, 1) := by decide +kernel
theorem d_LS_rename_171 : decode b_LS_rename 171 = .ok (.getfield 10, 3) := by decide +kernel
theorem d_LS_rename_174 : decode b_LS_rename 174 = .ok (.astore 8, 2) := by decide +kernel
theorem d_LS_rename_176 : decode b_LS_rename 176 = .ok (.aload_n 0, 1) := by decide +kernel
theorem d_LS_rename_177 : decode b_LS_rename 177 = .ok (.aload_n 0, 1) := by decide +kernel
theorem d_LS_rename_178 : decode b_LS_rename 178 = .ok (.getfield 16, 3) := by decide +kernel
theorem d_LS_rename_181 : decode b_LS_rename 181 = .ok (.putfield 10, 3) := by decide +kernel
theorem d_LS_rename_184 : decode b_LS_rename 184 = .ok (.aload_n 0, 1) := by decide +kernel
theorem d_LS_rename_185 : decode b_LS_rename 185 = .ok (.aload 8, 2) := by decide +kernel
theorem d_LS_rename_187 : decode b_LS_rename 187 = .ok (.putfield 16, 3) := by decide +kernel
theorem d_LS_rename_190 : decode b_LS_rename 190 = .ok (.iload 6, 2) := by decide +kernel
theorem d_LS_rename_192 : decode b_LS_rename 192 = .ok (.ireturn, 1) := by decide +kernel
abbrev y_LS_count : MethodName := ⟨"LanguageServer", "count", "(I)I"⟩
abbrev b_LS_count : ByteArray := prog_1_method_15_code
theorem d_LS_count_0 : decode b_LS_count 0 = .ok (.aload_n 0, 1) := by decide +kernel
theorem d_LS_count_1 : decode b_LS_count 1 = .ok (.getfield 10, 3) := by decide +kernel
theorem d_LS_count_4 : decode b_LS_count 4 = .ok (.invokevirtual 78, 3) := by decide +kernel
theorem d_LS_count_7 : decode b_LS_count 7 = .ok (.iload_n 1, 1) := by decide +kernel
theorem d_LS_count_8 : decode b_LS_count 8 = .ok (.ifCond .ne 14, 3) := by decide +kernel
theorem d_LS_count_11 : decode b_LS_count 11 = .ok (.aload_n 0, 1) := by decide +kernel
theorem d_LS_count_12 : decode b_LS_count 12 = .ok (.getfield 10, 3) := by decide +kernel
theorem d_LS_count_15 : decode b_LS_count 15 = .ok (.getfield 115, 3) := by decide +kernel
theorem d_LS_count_18 : decode b_LS_count 18 = .ok (.getfield 164, 3) := by decide +kernel
theorem d_LS_count_21 : decode b_LS_count 21 = .ok (.ireturn, 1) := by decide +kernel
theorem d_LS_count_22 : decode b_LS_count 22 = .ok (.iload_n 1, 1) := by decide +kernel
theorem d_LS_count_23 : decode b_LS_count 23 = .ok (.iconst 1, 1) := by decide +kernel
theorem d_LS_count_24 : decode b_LS_count 24 = .ok (.if_icmp .ne 14, 3) := by decide +kernel
theorem d_LS_count_27 : decode b_LS_count 27 = .ok (.aload_n 0, 1) := by decide +kernel
theorem d_LS_count_28 : decode b_LS_count 28 = .ok (.getfield 10, 3) := by decide +kernel
theorem d_LS_count_31 : decode b_LS_count 31 = .ok (.getfield 115, 3) := by decide +kernel
theorem d_LS_count_34 : decode b_LS_count 34 = .ok (.getfield 167, 3) := by decide +kernel
theorem d_LS_count_37 : decode b_LS_count 37 = .ok (.ireturn, 1) := by decide +kernel
theorem d_LS_count_38 : decode b_LS_count 38 = .ok (.iload_n 1, 1) := by decide +kernel
theorem d_LS_count_39 : decode b_LS_count 39 = .ok (.iconst 2, 1) := by decide +kernel
theorem d_LS_count_40 : decode b_LS_count 40 = .ok (.if_icmp .ne 14, 3) := by decide +kernel
theorem d_LS_count_43 : decode b_LS_count 43 = .ok (.aload_n 0, 1) := by decide +kernel
theorem d_LS_count_44 : decode b_LS_count 44 = .ok (.getfield 10, 3) := by decide +kernel
theorem d_LS_count_47 : decode b_LS_count 47 = .ok (.getfield 19, 3) := by decide +kernel
theorem d_LS_count_50 : decode b_LS_count 50 = .ok (.getfield 23, 3) := by decide +kernel
theorem d_LS_count_53 : decode b_LS_count 53 = .ok (.ireturn, 1) := by decide +kernel
theorem d_LS_count_54 : decode b_LS_count 54 = .ok (.new 33, 3) := by decide +kernel
theorem d_LS_count_57 : decode b_LS_count 57 = .ok (.dup, 1) := by decide +kernel
theorem d_LS_count_58 : decode b_LS_count 58 = .ok (.ldc 170, 2) := by decide +kernel
theorem d_LS_count_60 : decode b_LS_count 60 = .ok (.invokespecial 37, 3) := by decide +kernel
theorem d_LS_count_63 : decode b_LS_count 63 = .ok (.athrow, 1) := by decide +kernel
