abbrev y_Reading_touch : MethodName := ⟨"LanguageServer$Reading", "touch", "()V"⟩
abbrev b_Reading_touch : ByteArray := prog_7_method_2_code
theorem d_Reading_touch_0 : decode b_Reading_touch 0 = .ok (.aload_n 0, 1) := by decide +kernel
theorem d_Reading_touch_1 : decode b_Reading_touch 1 = .ok (.iconst 1, 1) := by decide +kernel
theorem d_Reading_touch_2 : decode b_Reading_touch 2 = .ok (.putfield 64, 3) := by decide +kernel
theorem d_Reading_touch_5 : decode b_Reading_touch 5 = .ok (.return_, 1) := by decide +kernel
abbrev y_Reading_refresh : MethodName := ⟨"LanguageServer$Reading", "refresh", "()V"⟩
abbrev b_Reading_refresh : ByteArray := prog_7_method_3_code
theorem d_Reading_refresh_0 : decode b_Reading_refresh 0 = .ok (.aload_n 0, 1) := by decide +kernel
theorem d_Reading_refresh_1 : decode b_Reading_refresh 1 = .ok (.getfield 64, 3) := by decide +kernel
theorem d_Reading_refresh_4 : decode b_Reading_refresh 4 = .ok (.ifCond .ne 4, 3) := by decide +kernel
theorem d_Reading_refresh_7 : decode b_Reading_refresh 7 = .ok (.return_, 1) := by decide +kernel
theorem d_Reading_refresh_8 : decode b_Reading_refresh 8 = .ok (.aload_n 0, 1) := by decide +kernel
theorem d_Reading_refresh_9 : decode b_Reading_refresh 9 = .ok (.iconst 0, 1) := by decide +kernel
theorem d_Reading_refresh_10 : decode b_Reading_refresh 10 = .ok (.putfield 64, 3) := by decide +kernel
theorem d_Reading_refresh_13 : decode b_Reading_refresh 13 = .ok (.aload_n 0, 1) := by decide +kernel
theorem d_Reading_refresh_14 : decode b_Reading_refresh 14 = .ok (.getfield 21, 3) := by decide +kernel
theorem d_Reading_refresh_17 : decode b_Reading_refresh 17 = .ok (.aload_n 0, 1) := by decide +kernel
theorem d_Reading_refresh_18 : decode b_Reading_refresh 18 = .ok (.getfield 12, 3) := by decide +kernel
theorem d_Reading_refresh_21 : decode b_Reading_refresh 21 = .ok (.invokevirtual 68, 3) := by decide +kernel
theorem d_Reading_refresh_24 : decode b_Reading_refresh 24 = .ok (.aload_n 0, 1) := by decide +kernel
theorem d_Reading_refresh_25 : decode b_Reading_refresh 25 = .ok (.getfield 46, 3) := by decide +kernel
theorem d_Reading_refresh_28 : decode b_Reading_refresh 28 = .ok (.invokevirtual 72, 3) := by decide +kernel
theorem d_Reading_refresh_31 : decode b_Reading_refresh 31 = .ok (.aload_n 0, 1) := by decide +kernel
theorem d_Reading_refresh_32 : decode b_Reading_refresh 32 = .ok (.getfield 37, 3) := by decide +kernel
theorem d_Reading_refresh_35 : decode b_Reading_refresh 35 = .ok (.invokevirtual 75, 3) := by decide +kernel
theorem d_Reading_refresh_38 : decode b_Reading_refresh 38 = .ok (.ifCond .ne 17, 3) := by decide +kernel
theorem d_Reading_refresh_41 : decode b_Reading_refresh 41 = .ok (.aload_n 0, 1) := by decide +kernel
theorem d_Reading_refresh_42 : decode b_Reading_refresh 42 = .ok (.getfield 53, 3) := by decide +kernel
theorem d_Reading_refresh_45 : decode b_Reading_refresh 45 = .ok (.invokevirtual 79, 3) := by decide +kernel
theorem d_Reading_refresh_48 : decode b_Reading_refresh 48 = .ok (.aload_n 0, 1) := by decide +kernel
theorem d_Reading_refresh_49 : decode b_Reading_refresh 49 = .ok (.getfield 60, 3) := by decide +kernel
theorem d_Reading_refresh_52 : decode b_Reading_refresh 52 = .ok (.invokevirtual 82, 3) := by decide +kernel
theorem d_Reading_refresh_55 : decode b_Reading_refresh 55 = .ok (.return_, 1) := by decide +kernel
abbrev y_Reading_declarationAt : MethodName := ⟨"LanguageServer$Reading", "declarationAt", "(I)I"⟩
abbrev b_Reading_declarationAt : ByteArray := prog_7_method_4_code
theorem d_Reading_declarationAt_0 : decode b_Reading_declarationAt 0 = .ok (.iconst 0, 1) := by decide +kernel
theorem d_Reading_declarationAt_1 : decode b_Reading_declarationAt 1 = .ok (.istore_n 2, 1) := by decide +kernel
theorem d_Reading_declarationAt_2 : decode b_Reading_declarationAt 2 = .ok (.iload_n 2, 1) := by decide +kernel
theorem d_Reading_declarationAt_3 : decode b_Reading_declarationAt 3 = .ok (.aload_n 0, 1) := by decide +kernel
theorem d_Reading_declarationAt_4 : decode b_Reading_declarationAt 4 = .ok (.getfield 30, 3) := by decide +kernel
theorem d_Reading_declarationAt_7 : decode b_Reading_declarationAt 7 = .ok (.getfield 84, 3) := by decide +kernel
theorem d_Reading_declarationAt_10 : decode b_Reading_declarationAt 10 = .ok (.if_icmp .ge 45, 3) := by decide +kernel
theorem d_Reading_declarationAt_13 : decode b_Reading_declarationAt 13 = .ok (.aload_n 0, 1) := by decide +kernel
theorem d_Reading_declarationAt_14 : decode b_Reading_declarationAt 14 = .ok (.getfield 21, 3) := by decide +kernel
theorem d_Reading_declarationAt_17 : decode b_Reading_declarationAt 17 = .ok (.getfield 88, 3) := by decide +kernel
theorem d_Reading_declarationAt_20 : decode b_Reading_declarationAt 20 = .ok (.iload_n 2, 1) := by decide +kernel
theorem d_Reading_declarationAt_21 : decode b_Reading_declarationAt 21 = .ok (.iaload, 1) := by decide +kernel
theorem d_Reading_declarationAt_22 : decode b_Reading_declarationAt 22 = .ok (.iload_n 1, 1) := by decide +kernel
theorem d_Reading_declarationAt_23 : decode b_Reading_declarationAt 23 = .ok (.if_icmp .gt 26, 3) := by decide +kernel
theorem d_Reading_declarationAt_26 : decode b_Reading_declarationAt 26 = .ok (.iload_n 1, 1) := by decide +kernel
theorem d_Reading_declarationAt_27 : decode b_Reading_declarationAt 27 = .ok (.aload_n 0, 1) := by decide +kernel
theorem d_Reading_declarationAt_28 : decode b_Reading_declarationAt 28 = .ok (.getfield 21, 3) := by decide +kernel
theorem d_Reading_declarationAt_31 : decode b_Reading_declarationAt 31 = .ok (.getfield 92, 3) := by decide +kernel
theorem d_Reading_declarationAt_34 : decode b_Reading_declarationAt 34 = .ok (.iload_n 2, 1) := by decide +kernel
theorem d_Reading_declarationAt_35 : decode b_Reading_declarationAt 35 = .ok (.iaload, 1) := by decide +kernel
theorem d_Reading_declarationAt_36 : decode b_Reading_declarationAt 36 = .ok (.if_icmp .ge 13, 3) := by decide +kernel
theorem d_Reading_declarationAt_39 : decode b_Reading_declarationAt 39 = .ok (.aload_n 0, 1) := by decide +kernel
theorem d_Reading_declarationAt_40 : decode b_Reading_declarationAt 40 = .ok (.getfield 30, 3) := by decide +kernel
theorem d_Reading_declarationAt_43 : decode b_Reading_declarationAt 43 = .ok (.getfield 95, 3) := by decide +kernel
theorem d_Reading_declarationAt_46 : decode b_Reading_declarationAt 46 = .ok (.iload_n 2, 1) := by decide +kernel
theorem d_Reading_declarationAt_47 : decode b_Reading_declarationAt 47 = .ok (.iaload, 1) := by decide +kernel
theorem d_Reading_declarationAt_48 : decode b_Reading_declarationAt 48 = .ok (.ireturn, 1) := by decide +kernel
theorem d_Reading_declarationAt_49 : decode b_Reading_declarationAt 49 = .ok (.iinc 2 1, 3) := by decide +kernel
theorem d_Reading_declarationAt_52 : decode b_Reading_declarationAt 52 = .ok (.goto (-50), 3) := by decide +kernel
theorem d_Reading_declarationAt_55 : decode b_Reading_declarationAt 55 = .ok (.iconst (-1), 1) := by decide +kernel
theorem d_Reading_declarationAt_56 : decode b_Reading_declarationAt 56 = .ok (.ireturn, 1) := by decide +kernel
abbrev y_Reading_uses : MethodName := ⟨"LanguageServer$Reading", "uses", "(I)I"⟩
abbrev b_Reading_uses : ByteArray := prog_7_method_5_code
theorem d_Reading_uses_0 : decode b_Reading_uses 0 = .ok (.iconst 0, 1) := by decide +kernel
theorem d_Reading_uses_1 : decode b_Reading_uses 1 = .ok (.istore_n 2, 1) := by decide +kernel
theorem d_Reading_uses_2 : decode b_Reading_uses 2 = .ok (.iconst 0, 1) := by decide +kernel
theorem d_Reading_uses_3 : decode b_Reading_uses 3 = .ok (.istore_n 3, 1) := by decide +kernel
theorem d_Reading_uses_4 : decode b_Reading_uses 4 = .ok (.iload_n 3, 1) := by decide +kernel
theorem d_Reading_uses_5 : decode b_Reading_uses 5 = .ok (.aload_n 0, 1) := by decide +kernel
theorem d_Reading_uses_6 : decode b_Reading_uses 6 = .ok (.getfield 30, 3) := by decide +kernel
theorem d_Reading_uses_9 : decode b_Reading_uses 9 = .ok (.getfield 84, 3) := by decide +kernel
theorem d_Reading_uses_12 : decode b_Reading_uses 12 = .ok (.if_icmp .ge 25, 3) := by decide +kernel
theorem d_Reading_uses_15 : decode b_Reading_uses 15 = .ok (.aload_n 0, 1) := by decide +kernel
theorem d_Reading_uses_16 : decode b_Reading_uses 16 = .ok (.getfield 30, 3) := by decide +kernel
theorem d_Reading_uses_19 : decode b_Reading_uses 19 = .ok (.getfield 95, 3) := by decide +kernel
theorem d_Reading_uses_22 : decode b_Reading_uses 22 = .ok (.iload_n 3, 1) := by decide +kernel
theorem d_Reading_uses_23 : decode b_Reading_uses 23 = .ok (.iaload, 1) := by decide +kernel
theorem d_Reading_uses_24 : decode b_Reading_uses 24 = .ok (.iload_n 1, 1) := by decide +kernel
theorem d_Reading_uses_25 : decode b_Reading_uses 25 = .ok (.if_icmp .ne 6, 3) := by decide +kernel
theorem d_Reading_uses_28 : decode b_Reading_uses 28 = .ok (.iinc 2 1, 3) := by decide +kernel
theorem d_Reading_uses_31 : decode b_Reading_uses 31 = .ok (.iinc 3 1, 3) := by decide +kernel
theorem d_Reading_uses_34 : decode b_Reading_uses 34 = .ok (.goto (-30), 3) := by decide +kernel
theorem d_Reading_uses_37 : decode b_Reading_uses 37 = .ok (.iload_n 2, 1) := by decide +kernel
theorem d_Reading_uses_38 : decode b_Reading_uses 38 = .ok (.ireturn, 1) := by decide +kernel
abbrev y_Reading_useAt : MethodName := ⟨"LanguageServer$Reading", "useAt", "(II)I"⟩
abbrev b_Reading_useAt : ByteArray := prog_7_method_6_code
theorem d_Reading_useAt_0 : decode b_Reading_useAt 0 = .ok (.iconst 0, 1) := by decide +kernel
theorem d_Reading_useAt_1 : decode b_Reading_useAt 1 = .ok (.istore_n 3, 1) := by decide +kernel
theorem d_Reading_useAt_2 : decode b_Reading_useAt 2 = .ok (.iconst 0, 1) := by decide +kernel
theorem d_Reading_useAt_3 : decode b_Reading_useAt 3 = .ok (.istore 4, 2) := by decide +kernel
theorem d_Reading_useAt_5 : decode b_Reading_useAt 5 = .ok (.iload 4, 2) := by decide +kernel
theorem d_Reading_useAt_7 : decode b_Reading_useAt 7 = .ok (.aload_n 0, 1) := by decide +kernel
theorem d_Reading_useAt_8 : decode b_Reading_useAt 8 = .ok (.getfield 30, 3) := by decide +kernel
theorem d_Reading_useAt_11 : decode b_Reading_useAt 11 = .ok (.getfield 84, 3) := by decide +kernel
theorem d_Reading_useAt_14 : decode b_Reading_useAt 14 = .ok (.if_icmp .ge 34, 3) := by decide +kernel
theorem d_Reading_useAt_17 : decode b_Reading_useAt 17 = .ok (.aload_n 0, 1) := by decide +kernel
theorem d_Reading_useAt_18 : decode b_Reading_useAt 18 = .ok (.getfield 30, 3) := by decide +kernel
theorem d_Reading_useAt_21 : decode b_Reading_useAt 21 = .ok (.getfield 95, 3) := by decide +kernel
theorem d_Reading_useAt_24 : decode b_Reading_useAt 24 = .ok (.iload 4, 2) := by decide +kernel
theorem d_Reading_useAt_26 : decode b_Reading_useAt 26 = .ok (.iaload, 1) := by decide +kernel
theorem d_Reading_useAt_27 : decode b_Reading_useAt 27 = .ok (.iload_n 1, 1) := by decide +kernel
theorem d_Reading_useAt_28 : decode b_Reading_useAt 28 = .ok (.if_icmp .ne 14, 3) := by decide +kernel
theorem d_Reading_useAt_31 : decode b_Reading_useAt 31 = .ok (.iload_n 3, 1) := by decide +kernel
theorem d_Reading_useAt_32 : decode b_Reading_useAt 32 = .ok (.iload_n 2, 1) := by decide +kernel
theorem d_Reading_useAt_33 : decode b_Reading_useAt 33 = .ok (.if_icmp .ne 6, 3) := by decide +kernel
theorem d_Reading_useAt_36 : decode b_Reading_useAt 36 = .ok (.iload 4, 2) := by decide +kernel
theorem d_Reading_useAt_38 : decode b_Reading_useAt 38 = .ok (.ireturn, 1) := by decide +kernel
theorem d_Reading_useAt_39 : decode b_Reading_useAt 39 = .ok (.iinc 3 1, 3) := by decide +kernel
theorem d_Reading_useAt_42 : decode b_Reading_useAt 42 = .ok (.iinc 4 1, 3) := by decide +kernel
theorem d_Reading_useAt_45 : decode b_Reading_useAt 45 = .ok (.goto (-40), 3) := by decide +kernel
theorem d_Reading_useAt_48 : decode b_Reading_useAt 48 = .ok (.iconst (-1), 1) := by decide +kernel
theorem d_Reading_useAt_49 : decode b_Reading_useAt 49 = .ok (.ireturn, 1) := by decide +kernel
