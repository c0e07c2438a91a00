theorem wd_597 : (Jvm.Cond.classLink "LanguageServerLaw" (13 : Nat) "java/lang/IllegalArgumentException") ∈ Tg := tg_3 (i := 117) rfl rfl
theorem wd_598 : (Jvm.Cond.classLink "LanguageServerLaw" (15 : Nat) "java/lang/IllegalStateException") ∈ Tg := tg_3 (i := 118) rfl rfl
theorem wd_599 : (Jvm.Cond.methodLink "LanguageServerLaw" (7 : Nat) ({ cls := "LanguageServer", name := "insert", desc := "(II)I" } : Jvm.MethodName)) ∈ Tg := tg_3 (i := 119) rfl rfl
theorem wd_600 : (Jvm.Cond.instanceMethod ({ cls := "LanguageServer", name := "insert", desc := "(II)I" } : Jvm.MethodName)) ∈ Tg := tg_3 (i := 120) rfl rfl
theorem wd_601 : (Jvm.Cond.selects "LanguageServer" ({ cls := "LanguageServer", name := "insert", desc := "(II)I" } : Jvm.MethodName) ({ cls := "LanguageServer", name := "insert", desc := "(II)I" } : Jvm.MethodName)) ∈ Tg := tg_3 (i := 121) rfl rfl
theorem wd_602 : (Jvm.Cond.code ({ cls := "LanguageServer", name := "insert", desc := "(II)I" } : Jvm.MethodName) prog_1_method_2_code (4 : Nat) (Option.some Jvm.ClassFile.FieldType.int)) ∈ Tg := tg_3 (i := 122) rfl rfl
theorem wd_704 : (Jvm.Cond.methodLink "LanguageServerLaw" (17 : Nat) ({ cls := "LanguageServer", name := "append", desc := "(JI)I" } : Jvm.MethodName)) ∈ Tg := tg_3 (i := 224) rfl rfl
theorem wd_705 : (Jvm.Cond.instanceMethod ({ cls := "LanguageServer", name := "append", desc := "(JI)I" } : Jvm.MethodName)) ∈ Tg := tg_3 (i := 225) rfl rfl
theorem wd_706 : (Jvm.Cond.selects "LanguageServer" ({ cls := "LanguageServer", name := "append", desc := "(JI)I" } : Jvm.MethodName) ({ cls := "LanguageServer", name := "append", desc := "(JI)I" } : Jvm.MethodName)) ∈ Tg := tg_3 (i := 226) rfl rfl
theorem wd_707 : (Jvm.Cond.code ({ cls := "LanguageServer", name := "append", desc := "(JI)I" } : Jvm.MethodName) prog_1_method_3_code (5 : Nat) (Option.some Jvm.ClassFile.FieldType.int)) ∈ Tg := tg_3 (i := 227) rfl rfl
theorem wd_728 : (Jvm.Cond.methodLink "LanguageServerLaw" (21 : Nat) ({ cls := "LanguageServer", name := "delete", desc := "(II)I" } : Jvm.MethodName)) ∈ Tg := tg_4 (i := 8) rfl rfl
theorem wd_729 : (Jvm.Cond.instanceMethod ({ cls := "LanguageServer", name := "delete", desc := "(II)I" } : Jvm.MethodName)) ∈ Tg := tg_4 (i := 9) rfl rfl
theorem wd_730 : (Jvm.Cond.selects "LanguageServer" ({ cls := "LanguageServer", name := "delete", desc := "(II)I" } : Jvm.MethodName) ({ cls := "LanguageServer", name := "delete", desc := "(II)I" } : Jvm.MethodName)) ∈ Tg := tg_4 (i := 10) rfl rfl
theorem wd_731 : (Jvm.Cond.code ({ cls := "LanguageServer", name := "delete", desc := "(II)I" } : Jvm.MethodName) prog_1_method_4_code (4 : Nat) (Option.some Jvm.ClassFile.FieldType.int)) ∈ Tg := tg_4 (i := 11) rfl rfl
theorem wd_740 : (Jvm.Cond.classLink "LanguageServerLaw" (28 : Nat) "java/util/NoSuchElementException") ∈ Tg := tg_4 (i := 20) rfl rfl
theorem wd_741 : (Jvm.Cond.methodLink "LanguageServerLaw" (24 : Nat) ({ cls := "LanguageServer", name := "text", desc := "(I)I" } : Jvm.MethodName)) ∈ Tg := tg_4 (i := 21) rfl rfl
theorem wd_742 : (Jvm.Cond.instanceMethod ({ cls := "LanguageServer", name := "text", desc := "(I)I" } : Jvm.MethodName)) ∈ Tg := tg_4 (i := 22) rfl rfl
theorem wd_743 : (Jvm.Cond.selects "LanguageServer" ({ cls := "LanguageServer", name := "text", desc := "(I)I" } : Jvm.MethodName) ({ cls := "LanguageServer", name := "text", desc := "(I)I" } : Jvm.MethodName)) ∈ Tg := tg_4 (i := 23) rfl rfl
theorem wd_744 : (Jvm.Cond.code ({ cls := "LanguageServer", name := "text", desc := "(I)I" } : Jvm.MethodName) prog_1_method_5_code (2 : Nat) (Option.some Jvm.ClassFile.FieldType.int)) ∈ Tg := tg_4 (i := 24) rfl rfl
theorem wd_764 : (Jvm.Cond.methodLink "LanguageServerLaw" (30 : Nat) ({ cls := "LanguageServer", name := "diagnostic", desc := "(II)I" } : Jvm.MethodName)) ∈ Tg := tg_4 (i := 44) rfl rfl
theorem wd_765 : (Jvm.Cond.instanceMethod ({ cls := "LanguageServer", name := "diagnostic", desc := "(II)I" } : Jvm.MethodName)) ∈ Tg := tg_4 (i := 45) rfl rfl
theorem wd_766 : (Jvm.Cond.selects "LanguageServer" ({ cls := "LanguageServer", name := "diagnostic", desc := "(II)I" } : Jvm.MethodName) ({ cls := "LanguageServer", name := "diagnostic", desc := "(II)I" } : Jvm.MethodName)) ∈ Tg := tg_4 (i := 46) rfl rfl
theorem wd_767 : (Jvm.Cond.code ({ cls := "LanguageServer", name := "diagnostic", desc := "(II)I" } : Jvm.MethodName) prog_1_method_7_code (3 : Nat) (Option.some Jvm.ClassFile.FieldType.int)) ∈ Tg := tg_4 (i := 47) rfl rfl
theorem wd_785 : (Jvm.Cond.methodLink "LanguageServerLaw" (33 : Nat) ({ cls := "LanguageServer", name := "definition", desc := "(I)I" } : Jvm.MethodName)) ∈ Tg := tg_4 (i := 65) rfl rfl
theorem wd_786 : (Jvm.Cond.instanceMethod ({ cls := "LanguageServer", name := "definition", desc := "(I)I" } : Jvm.MethodName)) ∈ Tg := tg_4 (i := 66) rfl rfl
theorem wd_787 : (Jvm.Cond.selects "LanguageServer" ({ cls := "LanguageServer", name := "definition", desc := "(I)I" } : Jvm.MethodName) ({ cls := "LanguageServer", name := "definition", desc := "(I)I" } : Jvm.MethodName)) ∈ Tg := tg_4 (i := 67) rfl rfl
theorem wd_788 : (Jvm.Cond.code ({ cls := "LanguageServer", name := "definition", desc := "(I)I" } : Jvm.MethodName) prog_1_method_8_code (2 : Nat) (Option.some Jvm.ClassFile.FieldType.int)) ∈ Tg := tg_4 (i := 68) rfl rfl
theorem wd_801 : (Jvm.Cond.methodLink "LanguageServerLaw" (36 : Nat) ({ cls := "LanguageServer", name := "type", desc := "(I)I" } : Jvm.MethodName)) ∈ Tg := tg_4 (i := 81) rfl rfl
theorem wd_802 : (Jvm.Cond.instanceMethod ({ cls := "LanguageServer", name := "type", desc := "(I)I" } : Jvm.MethodName)) ∈ Tg := tg_4 (i := 82) rfl rfl
theorem wd_803 : (Jvm.Cond.selects "LanguageServer" ({ cls := "LanguageServer", name := "type", desc := "(I)I" } : Jvm.MethodName) ({ cls := "LanguageServer", name := "type", desc := "(I)I" } : Jvm.MethodName)) ∈ Tg := tg_4 (i := 83) rfl rfl
theorem wd_804 : (Jvm.Cond.code ({ cls := "LanguageServer", name := "type", desc := "(I)I" } : Jvm.MethodName) prog_1_method_9_code (2 : Nat) (Option.some Jvm.ClassFile.FieldType.int)) ∈ Tg := tg_4 (i := 84) rfl rfl
theorem wd_808 : (Jvm.Cond.methodLink "LanguageServerLaw" (39 : Nat) ({ cls := "LanguageServer", name := "references", desc := "(I)I" } : Jvm.MethodName)) ∈ Tg := tg_4 (i := 88) rfl rfl
theorem wd_809 : (Jvm.Cond.instanceMethod ({ cls := "LanguageServer", name := "references", desc := "(I)I" } : Jvm.MethodName)) ∈ Tg := tg_4 (i := 89) rfl rfl
theorem wd_810 : (Jvm.Cond.selects "LanguageServer" ({ cls := "LanguageServer", name := "references", desc := "(I)I" } : Jvm.MethodName) ({ cls := "LanguageServer", name := "references", desc := "(I)I" } : Jvm.MethodName)) ∈ Tg := tg_4 (i := 90) rfl rfl
theorem wd_811 : (Jvm.Cond.code ({ cls := "LanguageServer", name := "references", desc := "(I)I" } : Jvm.MethodName) prog_1_method_10_code (2 : Nat) (Option.some Jvm.ClassFile.FieldType.int)) ∈ Tg := tg_4 (i := 91) rfl rfl
theorem wd_819 : (Jvm.Cond.methodLink "LanguageServerLaw" (42 : Nat) ({ cls := "LanguageServer", name := "reference", desc := "(II)I" } : Jvm.MethodName)) ∈ Tg := tg_4 (i := 99) rfl rfl
theorem wd_820 : (Jvm.Cond.instanceMethod ({ cls := "LanguageServer", name := "reference", desc := "(II)I" } : Jvm.MethodName)) ∈ Tg := tg_4 (i := 100) rfl rfl
theorem wd_821 : (Jvm.Cond.selects "LanguageServer" ({ cls := "LanguageServer", name := "reference", desc := "(II)I" } : Jvm.MethodName) ({ cls := "LanguageServer", name := "reference", desc := "(II)I" } : Jvm.MethodName)) ∈ Tg := tg_4 (i := 101) rfl rfl
theorem wd_822 : (Jvm.Cond.code ({ cls := "LanguageServer", name := "reference", desc := "(II)I" } : Jvm.MethodName) prog_1_method_11_code (4 : Nat) (Option.some Jvm.ClassFile.FieldType.int)) ∈ Tg := tg_4 (i := 102) rfl rfl
theorem wd_831 : (Jvm.Cond.methodLink "LanguageServerLaw" (45 : Nat) ({ cls := "LanguageServer", name := "members", desc := "(I)I" } : Jvm.MethodName)) ∈ Tg := tg_4 (i := 111) rfl rfl
theorem wd_832 : (Jvm.Cond.instanceMethod ({ cls := "LanguageServer", name := "members", desc := "(I)I" } : Jvm.MethodName)) ∈ Tg := tg_4 (i := 112) rfl rfl
theorem wd_833 : (Jvm.Cond.selects "LanguageServer" ({ cls := "LanguageServer", name := "members", desc := "(I)I" } : Jvm.MethodName) ({ cls := "LanguageServer", name := "members", desc := "(I)I" } : Jvm.MethodName)) ∈ Tg := tg_4 (i := 113) rfl rfl
theorem wd_834 : (Jvm.Cond.code ({ cls := "LanguageServer", name := "members", desc := "(I)I" } : Jvm.MethodName) prog_1_method_12_code (2 : Nat) (Option.some Jvm.ClassFile.FieldType.int)) ∈ Tg := tg_4 (i := 114) rfl rfl
theorem wd_852 : (Jvm.Cond.methodLink "LanguageServerLaw" (48 : Nat) ({ cls := "LanguageServer", name := "member", desc := "(II)I" } : Jvm.MethodName)) ∈ Tg := tg_4 (i := 132) rfl rfl
theorem wd_853 : (Jvm.Cond.instanceMethod ({ cls := "LanguageServer", name := "member", desc := "(II)I" } : Jvm.MethodName)) ∈ Tg := tg_4 (i := 133) rfl rfl
theorem wd_854 : (Jvm.Cond.selects "LanguageServer" ({ cls := "LanguageServer", name := "member", desc := "(II)I" } : Jvm.MethodName) ({ cls := "LanguageServer", name := "member", desc := "(II)I" } : Jvm.MethodName)) ∈ Tg := tg_4 (i := 134) rfl rfl
theorem wd_855 : (Jvm.Cond.code ({ cls := "LanguageServer", name := "member", desc := "(II)I" } : Jvm.MethodName) prog_1_method_13_code (3 : Nat) (Option.some Jvm.ClassFile.FieldType.int)) ∈ Tg := tg_4 (i := 135) rfl rfl
theorem wd_860 : (Jvm.Cond.methodLink "LanguageServerLaw" (51 : Nat) ({ cls := "LanguageServer", name := "rename", desc := "(IJI)I" } : Jvm.MethodName)) ∈ Tg := tg_4 (i := 140) rfl rfl
theorem wd_861 : (Jvm.Cond.instanceMethod ({ cls := "LanguageServer", name := "rename", desc := "(IJI)I" } : Jvm.MethodName)) ∈ Tg := tg_4 (i := 141) rfl rfl
theorem wd_862 : (Jvm.Cond.selects "LanguageServer" ({ cls := "LanguageServer", name := "rename", desc := "(IJI)I" } : Jvm.MethodName) ({ cls := "LanguageServer", name := "rename", desc := "(IJI)I" } : Jvm.MethodName)) ∈ Tg := tg_4 (i := 142) rfl rfl
theorem wd_863 : (Jvm.Cond.code ({ cls := "LanguageServer", name := "rename", desc := "(IJI)I" } : Jvm.MethodName) prog_1_method_14_code (9 : Nat) (Option.some Jvm.ClassFile.FieldType.int)) ∈ Tg := tg_4 (i := 143) rfl rfl
theorem wd_888 : (Jvm.Cond.methodLink "LanguageServerLaw" (55 : Nat) ({ cls := "LanguageServer", name := "count", desc := "(I)I" } : Jvm.MethodName)) ∈ Tg := tg_4 (i := 168) rfl rfl
theorem wd_889 : (Jvm.Cond.instanceMethod ({ cls := "LanguageServer", name := "count", desc := "(I)I" } : Jvm.MethodName)) ∈ Tg := tg_4 (i := 169) rfl rfl
theorem wd_890 : (Jvm.Cond.selects "LanguageServer" ({ cls := "LanguageServer", name := "count", desc := "(I)I" } : Jvm.MethodName) ({ cls := "LanguageServer", name := "count", desc := "(I)I" } : Jvm.MethodName)) ∈ Tg := tg_4 (i := 170) rfl rfl
theorem wd_891 : (Jvm.Cond.code ({ cls := "LanguageServer", name := "count", desc := "(I)I" } : Jvm.MethodName) prog_1_method_15_code (2 : Nat) (Option.some Jvm.ClassFile.FieldType.int)) ∈ Tg := tg_4 (i := 171) rfl rfl
abbrev y_Law_insert : MethodName := ⟨"LanguageServerLaw", "insert", "(LLanguageServer;II[J)I"⟩
abbrev b_Law_insert : ByteArray := method_3_code
theorem d_Law_insert_0 : decode b_Law_insert 0 = .ok (.aload_n 3, 1) := by decide +kernel
theorem d_Law_insert_1 : decode b_Law_insert 1 = .ok (.iconst 0, 1) := by decide +kernel
theorem d_Law_insert_2 : decode b_Law_insert 2 = .ok (.aload_n 0, 1) := by decide +kernel
theorem d_Law_insert_3 : decode b_Law_insert 3 = .ok (.iload_n 1, 1) := by decide +kernel
theorem d_Law_insert_4 : decode b_Law_insert 4 = .ok (.iload_n 2, 1) := by decide +kernel
theorem d_Law_insert_5 : decode b_Law_insert 5 = .ok (.invokevirtual 7, 3) := by decide +kernel
theorem d_Law_insert_8 : decode b_Law_insert 8 = .ok (.i2l, 1) := by decide +kernel
theorem d_Law_insert_9 : decode b_Law_insert 9 = .ok (.lastore, 1) := by decide +kernel
theorem d_Law_insert_10 : decode b_Law_insert 10 = .ok (.goto 11, 3) := by decide +kernel
theorem d_Law_insert_13 : decode b_Law_insert 13 = .ok (.astore 4, 2) := by decide +kernel
theorem d_Law_insert_15 : decode b_Law_insert 15 = .ok (.iconst 1, 1) := by decide +kernel
theorem d_Law_insert_16 : decode b_Law_insert 16 = .ok (.ireturn, 1) := by decide +kernel
theorem d_Law_insert_17 : decode b_Law_insert 17 = .ok (.astore 4, 2) := by decide +kernel
theorem d_Law_insert_19 : decode b_Law_insert 19 = .ok (.iconst 2, 1) := by decide +kernel
theorem d_Law_insert_20 : decode b_Law_insert 20 = .ok (.ireturn, 1) := by decide +kernel
theorem d_Law_insert_21 : decode b_Law_insert 21 = .ok (.iconst 0, 1) := by decide +kernel
theorem d_Law_insert_22 : decode b_Law_insert 22 = .ok (.ireturn, 1) := by decide +kernel
abbrev y_Law_append : MethodName := ⟨"LanguageServerLaw", "append", "(LLanguageServer;JI[J)I"⟩
abbrev b_Law_append : ByteArray := method_4_code
theorem d_Law_append_0 : decode b_Law_append 0 = .ok (.aload 4, 2) := by decide +kernel
theorem d_Law_append_2 : decode b_Law_append 2 = .ok (.iconst 0, 1) := by decide +kernel
theorem d_Law_append_3 : decode b_Law_append 3 = .ok (.aload_n 0, 1) := by decide +kernel
theorem d_Law_append_4 : decode b_Law_append 4 = .ok (.lload_n 1, 1) := by decide +kernel
theorem d_Law_append_5 : decode b_Law_append 5 = .ok (.iload_n 3, 1) := by decide +kernel
theorem d_Law_append_6 : decode b_Law_append 6 = .ok (.invokevirtual 17, 3) := by decide +kernel
theorem d_Law_append_9 : decode b_Law_append 9 = .ok (.i2l, 1) := by decide +kernel
theorem d_Law_append_10 : decode b_Law_append 10 = .ok (.lastore, 1) := by decide +kernel
theorem d_Law_append_11 : decode b_Law_append 11 = .ok (.goto 11, 3) := by decide +kernel
theorem d_Law_append_14 : decode b_Law_append 14 = .ok (.astore 5, 2) := by decide +kernel
theorem d_Law_append_16 : decode b_Law_append 16 = .ok (.iconst 1, 1) := by decide +kernel
theorem d_Law_append_17 : decode b_Law_append 17 = .ok (.ireturn, 1) := by decide +kernel
theorem d_Law_append_18 : decode b_Law_append 18 = .ok (.astore 5, 2) := by decide +kernel
theorem d_Law_append_20 : decode b_Law_append 20 = .ok (.iconst 2, 1) := by decide +kernel
theorem d_Law_append_21 : decode b_Law_append 21 = .ok (.ireturn, 1) := by decide +kernel
theorem d_Law_append_22 : decode b_Law_append 22 = .ok (.iconst 0, 1) := by decide +kernel
theorem d_Law_append_23 : decode b_Law_append 23 = .ok (.ireturn, 1) := by decide +kernel
abbrev y_Law_delete : MethodName := ⟨"LanguageServerLaw", "delete", "(LLanguageServer;II[J)I"⟩
abbrev b_Law_delete : ByteArray := method_5_code
theorem d_Law_delete_0 : decode b_Law_delete 0 = .ok (.aload_n 3, 1) := by decide +kernel
theorem d_Law_delete_1 : decode b_Law_delete 1 = .ok (.iconst 0, 1) := by decide +kernel
theorem d_Law_delete_2 : decode b_Law_delete 2 = .ok (.aload_n 0, 1) := by decide +kernel
theorem d_Law_delete_3 : decode b_Law_delete 3 = .ok (.iload_n 1, 1) := by decide +kernel
theorem d_Law_delete_4 : decode b_Law_delete 4 = .ok (.iload_n 2, 1) := by decide +kernel
theorem d_Law_delete_5 : decode b_Law_delete 5 = .ok (.invokevirtual 21, 3) := by decide +kernel
theorem d_Law_delete_8 : decode b_Law_delete 8 = .ok (.i2l, 1) := by decide +kernel
theorem d_Law_delete_9 : decode b_Law_delete 9 = .ok (.lastore, 1) := by decide +kernel
theorem d_Law_delete_10 : decode b_Law_delete 10 = .ok (.goto 7, 3) := by decide +kernel
theorem d_Law_delete_13 : decode b_Law_delete 13 = .ok (.astore 4, 2) := by decide +kernel
theorem d_Law_delete_15 : decode b_Law_delete 15 = .ok (.iconst 1, 1) := by decide +kernel
theorem d_Law_delete_16 : decode b_Law_delete 16 = .ok (.ireturn, 1) := by decide +kernel
theorem d_Law_delete_17 : decode b_Law_delete 17 = .ok (.iconst 0, 1) := by decide +kernel
theorem d_Law_delete_18 : decode b_Law_delete 18 = .ok (.ireturn, 1) := by decide +kernel
abbrev y_Law_text : MethodName := ⟨"LanguageServerLaw", "text", "(LLanguageServer;I[J)I"⟩
abbrev b_Law_text : ByteArray := method_6_code
theorem d_Law_text_0 : decode b_Law_text 0 = .ok (.aload_n 2, 1) := by decide +kernel
theorem d_Law_text_1 : decode b_Law_text 1 = .ok (.iconst 0, 1) := by decide +kernel
theorem d_Law_text_2 : decode b_Law_text 2 = .ok (.aload_n 0, 1) := by decide +kernel
theorem d_Law_text_3 : decode b_Law_text 3 = .ok (.iload_n 1, 1) := by decide +kernel
theorem d_Law_text_4 : decode b_Law_text 4 = .ok (.invokevirtual 24, 3) := by decide +kernel
theorem d_Law_text_7 : decode b_Law_text 7 = .ok (.i2l, 1) := by decide +kernel
theorem d_Law_text_8 : decode b_Law_text 8 = .ok (.lastore, 1) := by decide +kernel
theorem d_Law_text_9 : decode b_Law_text 9 = .ok (.goto 6, 3) := by decide +kernel
theorem d_Law_text_12 : decode b_Law_text 12 = .ok (.astore_n 3, 1) := by decide +kernel
theorem d_Law_text_13 : decode b_Law_text 13 = .ok (.iconst 1, 1) := by decide +kernel
theorem d_Law_text_14 : decode b_Law_text 14 = .ok (.ireturn, 1) := by decide +kernel
theorem d_Law_text_15 : decode b_Law_text 15 = .ok (.iconst 0, 1) := by decide +kernel
theorem d_Law_text_16 : decode b_Law_text 16 = .ok (.ireturn, 1) := by decide +kernel
abbrev y_Law_diagnostic : MethodName := ⟨"LanguageServerLaw", "diagnostic", "(LLanguageServer;II[J)I"⟩
abbrev b_Law_diagnostic : ByteArray := method_7_code
theorem d_Law_diagnostic_0 : decode b_Law_diagnostic 0 = .ok (.aload_n 3, 1) := by decide +kernel
theorem d_Law_diagnostic_1 : decode b_Law_diagnostic 1 = .ok (.iconst 0, 1) := by decide +kernel
theorem d_Law_diagnostic_2 : decode b_Law_diagnostic 2 = .ok (.aload_n 0, 1) := by decide +kernel
theorem d_Law_diagnostic_3 : decode b_Law_diagnostic 3 = .ok (.iload_n 1, 1) := by decide +kernel
theorem d_Law_diagnostic_4 : decode b_Law_diagnostic 4 = .ok (.iload_n 2, 1) := by decide +kernel
theorem d_Law_diagnostic_5 : decode b_Law_diagnostic 5 = .ok (.invokevirtual 30, 3) := by decide +kernel
theorem d_Law_diagnostic_8 : decode b_Law_diagnostic 8 = .ok (.i2l, 1) := by decide +kernel
theorem d_Law_diagnostic_9 : decode b_Law_diagnostic 9 = .ok (.lastore, 1) := by decide +kernel
theorem d_Law_diagnostic_10 : decode b_Law_diagnostic 10 = .ok (.goto 11, 3) := by decide +kernel
theorem d_Law_diagnostic_13 : decode b_Law_diagnostic 13 = .ok (.astore 4, 2) := by decide +kernel
theorem d_Law_diagnostic_15 : decode b_Law_diagnostic 15 = .ok (.iconst 1, 1) := by decide +kernel
theorem d_Law_diagnostic_16 : decode b_Law_diagnostic 16 = .ok (.ireturn, 1) := by decide +kernel
theorem d_Law_diagnostic_17 : decode b_Law_diagnostic 17 = .ok (.astore 4, 2) := by decide +kernel
theorem d_Law_diagnostic_19 : decode b_Law_diagnostic 19 = .ok (.iconst 2, 1) := by decide +kernel
theorem d_Law_diagnostic_20 : decode b_Law_diagnostic 20 = .ok (.ireturn, 1) := by decide +kernel
theorem d_Law_diagnostic_21 : decode b_Law_diagnostic 21 = .ok (.iconst 0, 1) := by decide +kernel
theorem d_Law_diagnostic_22 : decode b_Law_diagnostic 22 = .ok (.ireturn, 1) := by decide +kernel
abbrev y_Law_definition : MethodName := ⟨"LanguageServerLaw", "definition", "(LLanguageServer;I[J)I"⟩
abbrev b_Law_definition : ByteArray := method_8_code
theorem d_Law_definition_0 : decode b_Law_definition 0 = .ok (.aload_n 2, 1) := by decide +kernel
theorem d_Law_definition_1 : decode b_Law_definition 1 = .ok (.iconst 0, 1) := by decide +kernel
theorem d_Law_definition_2 : decode b_Law_definition 2 = .ok (.aload_n 0, 1) := by decide +kernel
theorem d_Law_definition_3 : decode b_Law_definition 3 = .ok (.iload_n 1, 1) := by decide +kernel
theorem d_Law_definition_4 : decode b_Law_definition 4 = .ok (.invokevirtual 33, 3) := by decide +kernel
theorem d_Law_definition_7 : decode b_Law_definition 7 = .ok (.i2l, 1) := by decide +kernel
theorem d_Law_definition_8 : decode b_Law_definition 8 = .ok (.lastore, 1) := by decide +kernel
theorem d_Law_definition_9 : decode b_Law_definition 9 = .ok (.goto 6, 3) := by decide +kernel
theorem d_Law_definition_12 : decode b_Law_definition 12 = .ok (.astore_n 3, 1) := by decide +kernel
theorem d_Law_definition_13 : decode b_Law_definition 13 = .ok (.iconst 1, 1) := by decide +kernel
theorem d_Law_definition_14 : decode b_Law_definition 14 = .ok (.ireturn, 1) := by decide +kernel
theorem d_Law_definition_15 : decode b_Law_definition 15 = .ok (.iconst 0, 1) := by decide +kernel
theorem d_Law_definition_16 : decode b_Law_definition 16 = .ok (.ireturn, 1) := by decide +kernel
abbrev y_Law_type : MethodName := ⟨"LanguageServerLaw", "type", "(LLanguageServer;I[J)I"⟩
abbrev b_Law_type : ByteArray := method_9_code
theorem d_Law_type_0 : decode b_Law_type 0 = .ok (.aload_n 2, 1) := by decide +kernel
theorem d_Law_type_1 : decode b_Law_type 1 = .ok (.iconst 0, 1) := by decide +kernel
theorem d_Law_type_2 : decode b_Law_type 2 = .ok (.aload_n 0, 1) := by decide +kernel
theorem d_Law_type_3 : decode b_Law_type 3 = .ok (.iload_n 1, 1) := by decide +kernel
theorem d_Law_type_4 : decode b_Law_type 4 = .ok (.invokevirtual 36, 3) := by decide +kernel
theorem d_Law_type_7 : decode b_Law_type 7 = .ok (.i2l, 1) := by decide +kernel
theorem d_Law_type_8 : decode b_Law_type 8 = .ok (.lastore, 1) := by decide +kernel
theorem d_Law_type_9 : decode b_Law_type 9 = .ok (.goto 6, 3) := by decide +kernel
theorem d_Law_type_12 : decode b_Law_type 12 = .ok (.astore_n 3, 1) := by decide +kernel
theorem d_Law_type_13 : decode b_Law_type 13 = .ok (.iconst 1, 1) := by decide +kernel
theorem d_Law_type_14 : decode b_Law_type 14 = .ok (.ireturn, 1) := by decide +kernel
theorem d_Law_type_15 : decode b_Law_type 15 = .ok (.iconst 0, 1) := by decide +kernel
theorem d_Law_type_16 : decode b_Law_type 16 = .ok (.ireturn, 1) := by decide +kernel
abbrev y_Law_references : MethodName := ⟨"LanguageServerLaw", "references", "(LLanguageServer;I[J)I"⟩
abbrev b_Law_references : ByteArray := method_10_code
theorem d_Law_references_0 : decode b_Law_references 0 = .ok (.aload_n 2, 1) := by decide +kernel
theorem d_Law_references_1 : decode b_Law_references 1 = .ok (.iconst 0, 1) := by decide +kernel
theorem d_Law_references_2 : decode b_Law_references 2 = .ok (.aload_n 0, 1) := by decide +kernel
theorem d_Law_references_3 : decode b_Law_references 3 = .ok (.iload_n 1, 1) := by decide +kernel
theorem d_Law_references_4 : decode b_Law_references 4 = .ok (.invokevirtual 39, 3) := by decide +kernel
theorem d_Law_references_7 : decode b_Law_references 7 = .ok (.i2l, 1) := by decide +kernel
theorem d_Law_references_8 : decode b_Law_references 8 = .ok (.lastore, 1) := by decide +kernel
theorem d_Law_references_9 : decode b_Law_references 9 = .ok (.goto 6, 3) := by decide +kernel
theorem d_Law_references_12 : decode b_Law_references 12 = .ok (.astore_n 3, 1) := by decide +kernel
theorem d_Law_references_13 : decode b_Law_references 13 = .ok (.iconst 1, 1) := by decide +kernel
theorem d_Law_references_14 : decode b_Law_references 14 = .ok (.ireturn, 1) := by decide +kernel
theorem d_Law_references_15 : decode b_Law_references 15 = .ok (.iconst 0, 1) := by decide +kernel
theorem d_Law_references_16 : decode b_Law_references 16 = .ok (.ireturn, 1) := by decide +kernel
abbrev y_Law_reference : MethodName := ⟨"LanguageServerLaw", "reference", "(LLanguageServer;II[J)I"⟩
abbrev b_Law_reference : ByteArray := method_11_code
theorem d_Law_reference_0 : decode b_Law_reference 0 = .ok (.aload_n 3, 1) := by decide +kernel
theorem d_Law_reference_1 : decode b_Law_reference 1 = .ok (.iconst 0, 1) := by decide +kernel
theorem d_Law_reference_2 : decode b_Law_reference 2 = .ok (.aload_n 0, 1) := by decide +kernel
theorem d_Law_reference_3 : decode b_Law_reference 3 = .ok (.iload_n 1, 1) := by decide +kernel
theorem d_Law_reference_4 : decode b_Law_reference 4 = .ok (.iload_n 2, 1) := by decide +kernel
theorem d_Law_reference_5 : decode b_Law_reference 5 = .ok (.invokevirtual 42, 3) := by decide +kernel
theorem d_Law_reference_8 : decode b_Law_reference 8 = .ok (.i2l, 1) := by decide +kernel
theorem d_Law_reference_9 : decode b_Law_reference 9 = .ok (.lastore, 1) := by decide +kernel
theorem d_Law_reference_10 : decode b_Law_reference 10 = .ok (.goto 7, 3) := by decide +kernel
theorem d_Law_reference_13 : decode b_Law_reference 13 = .ok (.astore 4, 2) := by decide +kernel
theorem d_Law_reference_15 : decode b_Law_reference 15 = .ok (.iconst 1, 1) := by decide +kernel
theorem d_Law_reference_16 : decode b_Law_reference 16 = .ok (.ireturn, 1) := by decide +kernel
theorem d_Law_reference_17 : decode b_Law_reference 17 = .ok (.iconst 0, 1) := by decide +kernel
theorem d_Law_reference_18 : decode b_Law_reference 18 = .ok (.ireturn, 1) := by decide +kernel
abbrev y_Law_members : MethodName := ⟨"LanguageServerLaw", "members", "(LLanguageServer;I[J)I"⟩
abbrev b_Law_members : ByteArray := method_12_code
theorem d_Law_members_0 : decode b_Law_members 0 = .ok (.aload_n 2, 1) := by decide +kernel
theorem d_Law_members_1 : decode b_Law_members 1 = .ok (.iconst 0, 1) := by decide +kernel
theorem d_Law_members_2 : decode b_Law_members 2 = .ok (.aload_n 0, 1) := by decide +kernel
theorem d_Law_members_3 : decode b_Law_members 3 = .ok (.iload_n 1, 1) := by decide +kernel
theorem d_Law_members_4 : decode b_Law_members 4 = .ok (.invokevirtual 45, 3) := by decide +kernel
theorem d_Law_members_7 : decode b_Law_members 7 = .ok (.i2l, 1) := by decide +kernel
theorem d_Law_members_8 : decode b_Law_members 8 = .ok (.lastore, 1) := by decide +kernel
theorem d_Law_members_9 : decode b_Law_members 9 = .ok (.goto 6, 3) := by decide +kernel
theorem d_Law_members_12 : decode b_Law_members 12 = .ok (.astore_n 3, 1) := by decide +kernel
theorem d_Law_members_13 : decode b_Law_members 13 = .ok (.iconst 1, 1) := by decide +kernel
theorem d_Law_members_14 : decode b_Law_members 14 = .ok (.ireturn, 1) := by decide +kernel
theorem d_Law_members_15 : decode b_Law_members 15 = .ok (.iconst 0, 1) := by decide +kernel
theorem d_Law_members_16 : decode b_Law_members 16 = .ok (.ireturn, 1) := by decide +kernel
abbrev y_Law_member : MethodName := ⟨"LanguageServerLaw", "member", "(LLanguageServer;II[J)I"⟩
abbrev b_Law_member : ByteArray := method_13_code
theorem d_Law_member_0 : decode b_Law_member 0 = .ok (.aload_n 3, 1) := by decide +kernel
theorem d_Law_member_1 : decode b_Law_member 1 = .ok (.iconst 0, 1) := by decide +kernel
theorem d_Law_member_2 : decode b_Law_member 2 = .ok (.aload_n 0, 1) := by decide +kernel
theorem d_Law_member_3 : decode b_Law_member 3 = .ok (.iload_n 1, 1) := by decide +kernel
theorem d_Law_member_4 : decode b_Law_member 4 = .ok (.iload_n 2, 1) := by decide +kernel
theorem d_Law_member_5 : decode b_Law_member 5 = .ok (.invokevirtual 48, 3) := by decide +kernel
theorem d_Law_member_8 : decode b_Law_member 8 = .ok (.i2l, 1) := by decide +kernel
theorem d_Law_member_9 : decode b_Law_member 9 = .ok (.lastore, 1) := by decide +kernel
theorem d_Law_member_10 : decode b_Law_member 10 = .ok (.goto 7, 3) := by decide +kernel
theorem d_Law_member_13 : decode b_Law_member 13 = .ok (.astore 4, 2) := by decide +kernel
theorem d_Law_member_15 : decode b_Law_member 15 = .ok (.iconst 1, 1) := by decide +kernel
theorem d_Law_member_16 : decode b_Law_member 16 = .ok (.ireturn, 1) := by decide +kernel
theorem d_Law_member_17 : decode b_Law_member 17 = .ok (.iconst 0, 1) := by decide +kernel
theorem d_Law_member_18 : decode b_Law_member 18 = .ok (.ireturn, 1) := by decide +kernel
abbrev y_Law_rename : MethodName := ⟨"LanguageServerLaw", "rename", "(LLanguageServer;IJI[J)I"⟩
abbrev b_Law_rename : ByteArray := method_14_code
theorem d_Law_rename_0 : decode b_Law_rename 0 = .ok (.aload 5, 2) := by decide +kernel
theorem d_Law_rename_2 : decode b_Law_rename 2 = .ok (.iconst 0, 1) := by decide +kernel
theorem d_Law_rename_3 : decode b_Law_rename 3 = .ok (.aload_n 0, 1) := by decide +kernel
theorem d_Law_rename_4 : decode b_Law_rename 4 = .ok (.iload_n 1, 1) := by decide +kernel
theorem d_Law_rename_5 : decode b_Law_rename 5 = .ok (.lload_n 2, 1) := by decide +kernel
theorem d_Law_rename_6 : decode b_Law_rename 6 = .ok (.iload 4, 2) := by decide +kernel
theorem d_Law_rename_8 : decode b_Law_rename 8 = .ok (.invokevirtual 51, 3) := by decide +kernel
theorem d_Law_rename_11 : decode b_Law_rename 11 = .ok (.i2l, 1) := by decide +kernel
theorem d_Law_rename_12 : decode b_Law_rename 12 = .ok (.lastore, 1) := by decide +kernel
theorem d_Law_rename_13 : decode b_Law_rename 13 = .ok (.goto 15, 3) := by decide +kernel
theorem d_Law_rename_16 : decode b_Law_rename 16 = .ok (.astore 6, 2) := by decide +kernel
theorem d_Law_rename_18 : decode b_Law_rename 18 = .ok (.iconst 1, 1) := by decide +kernel
theorem d_Law_rename_19 : decode b_Law_rename 19 = .ok (.ireturn, 1) := by decide +kernel
theorem d_Law_rename_20 : decode b_Law_rename 20 = .ok (.astore 6, 2) := by decide +kernel
theorem d_Law_rename_22 : decode b_Law_rename 22 = .ok (.iconst 2, 1) := by decide +kernel
theorem d_Law_rename_23 : decode b_Law_rename 23 = .ok (.ireturn, 1) := by decide +kernel
theorem d_Law_rename_24 : decode b_Law_rename 24 = .ok (.astore 6, 2) := by decide +kernel
theorem d_Law_rename_26 : decode b_Law_rename 26 = .ok (.iconst 3, 1) := by decide +kernel
theorem d_Law_rename_27 : decode b_Law_rename 27 = .ok (.ireturn, 1) := by decide +kernel
theorem d_Law_rename_28 : decode b_Law_rename 28 = .ok (.iconst 0, 1) := by decide +kernel
theorem d_Law_rename_29 : decode b_Law_rename 29 = .ok (.ireturn, 1) := by decide +kernel
abbrev y_Law_count : MethodName := ⟨"LanguageServerLaw", "count", "(LLanguageServer;I[J)I"⟩
abbrev b_Law_count : ByteArray := method_15_code
theorem d_Law_count_0 : decode b_Law_count 0 = .ok (.aload_n 2, 1) := by decide +kernel
theorem d_Law_count_1 : decode b_Law_count 1 = .ok (.iconst 0, 1) := by decide +kernel
theorem d_Law_count_2 : decode b_Law_count 2 = .ok (.aload_n 0, 1) := by decide +kernel
theorem d_Law_count_3 : decode b_Law_count 3 = .ok (.iload_n 1, 1) := by decide +kernel
theorem d_Law_count_4 : decode b_Law_count 4 = .ok (.invokevirtual 55, 3) := by decide +kernel
theorem d_Law_count_7 : decode b_Law_count 7 = .ok (.i2l, 1) := by decide +kernel
theorem d_Law_count_8 : decode b_Law_count 8 = .ok (.lastore, 1) := by decide +kernel
theorem d_Law_count_9 : decode b_Law_count 9 = .ok (.goto 6, 3) := by decide +kernel
theorem d_Law_count_12 : decode b_Law_count 12 = .ok (.astore_n 3, 1) := by decide +kernel
theorem d_Law_count_13 : decode b_Law_count 13 = .ok (.iconst 1, 1) := by decide +kernel
theorem d_Law_count_14 : decode b_Law_count 14 = .ok (.ireturn, 1) := by decide +kernel
theorem d_Law_count_15 : decode b_Law_count 15 = .ok (.iconst 0, 1) := by decide +kernel
theorem d_Law_count_16 : decode b_Law_count 16 = .ok (.ireturn, 1) := by decide +kernel
