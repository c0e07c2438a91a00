abbrev y_Text_put : MethodName := ⟨"LanguageServer$Text", "put", "(II)V"⟩
abbrev b_Text_put : ByteArray := prog_10_method_2_code
theorem d_Text_put_0 : decode b_Text_put 0 = .ok (.aload_n 0, 1) := by decide +kernel
theorem d_Text_put_1 : decode b_Text_put 1 = .ok (.getfield 9, 3) := by decide +kernel
theorem d_Text_put_4 : decode b_Text_put 4 = .ok (.iload_n 1, 1) := by decide +kernel
theorem d_Text_put_5 : decode b_Text_put 5 = .ok (.aload_n 0, 1) := by decide +kernel
theorem d_Text_put_6 : decode b_Text_put 6 = .ok (.getfield 9, 3) := by decide +kernel
theorem d_Text_put_9 : decode b_Text_put 9 = .ok (.iload_n 1, 1) := by decide +kernel
theorem d_Text_put_10 : decode b_Text_put 10 = .ok (.iconst 1, 1) := by decide +kernel
theorem d_Text_put_11 : decode b_Text_put 11 = .ok (.iadd, 1) := by decide +kernel
theorem d_Text_put_12 : decode b_Text_put 12 = .ok (.aload_n 0, 1) := by decide +kernel
theorem d_Text_put_13 : decode b_Text_put 13 = .ok (.getfield 15, 3) := by decide +kernel
theorem d_Text_put_16 : decode b_Text_put 16 = .ok (.iload_n 1, 1) := by decide +kernel
theorem d_Text_put_17 : decode b_Text_put 17 = .ok (.isub, 1) := by decide +kernel
theorem d_Text_put_18 : decode b_Text_put 18 = .ok (.invokestatic 19, 3) := by decide +kernel
theorem d_Text_put_21 : decode b_Text_put 21 = .ok (.aload_n 0, 1) := by decide +kernel
theorem d_Text_put_22 : decode b_Text_put 22 = .ok (.getfield 9, 3) := by decide +kernel
theorem d_Text_put_25 : decode b_Text_put 25 = .ok (.iload_n 1, 1) := by decide +kernel
theorem d_Text_put_26 : decode b_Text_put 26 = .ok (.iload_n 2, 1) := by decide +kernel
theorem d_Text_put_27 : decode b_Text_put 27 = .ok (.iastore, 1) := by decide +kernel
theorem d_Text_put_28 : decode b_Text_put 28 = .ok (.aload_n 0, 1) := by decide +kernel
theorem d_Text_put_29 : decode b_Text_put 29 = .ok (.dup, 1) := by decide +kernel
theorem d_Text_put_30 : decode b_Text_put 30 = .ok (.getfield 15, 3) := by decide +kernel
theorem d_Text_put_33 : decode b_Text_put 33 = .ok (.iconst 1, 1) := by decide +kernel
theorem d_Text_put_34 : decode b_Text_put 34 = .ok (.iadd, 1) := by decide +kernel
theorem d_Text_put_35 : decode b_Text_put 35 = .ok (.putfield 15, 3) := by decide +kernel
theorem d_Text_put_38 : decode b_Text_put 38 = .ok (.return_, 1) := by decide +kernel
abbrev y_Text_add : MethodName := ⟨"LanguageServer$Text", "add", "(I)V"⟩
abbrev b_Text_add : ByteArray := prog_10_method_3_code
theorem d_Text_add_0 : decode b_Text_add 0 = .ok (.aload_n 0, 1) := by decide +kernel
theorem d_Text_add_1 : decode b_Text_add 1 = .ok (.getfield 15, 3) := by decide +kernel
theorem d_Text_add_4 : decode b_Text_add 4 = .ok (.sipush 240, 3) := by decide +kernel
theorem d_Text_add_7 : decode b_Text_add 7 = .ok (.if_icmp .ge 23, 3) := by decide +kernel
theorem d_Text_add_10 : decode b_Text_add 10 = .ok (.aload_n 0, 1) := by decide +kernel
theorem d_Text_add_11 : decode b_Text_add 11 = .ok (.getfield 9, 3) := by decide +kernel
theorem d_Text_add_14 : decode b_Text_add 14 = .ok (.aload_n 0, 1) := by decide +kernel
theorem d_Text_add_15 : decode b_Text_add 15 = .ok (.getfield 15, 3) := by decide +kernel
theorem d_Text_add_18 : decode b_Text_add 18 = .ok (.iload_n 1, 1) := by decide +kernel
theorem d_Text_add_19 : decode b_Text_add 19 = .ok (.iastore, 1) := by decide +kernel
theorem d_Text_add_20 : decode b_Text_add 20 = .ok (.aload_n 0, 1) := by decide +kernel
theorem d_Text_add_21 : decode b_Text_add 21 = .ok (.dup, 1) := by decide +kernel
theorem d_Text_add_22 : decode b_Text_add 22 = .ok (.getfield 15, 3) := by decide +kernel
theorem d_Text_add_25 : decode b_Text_add 25 = .ok (.iconst 1, 1) := by decide +kernel
theorem d_Text_add_26 : decode b_Text_add 26 = .ok (.iadd, 1) := by decide +kernel
theorem d_Text_add_27 : decode b_Text_add 27 = .ok (.putfield 15, 3) := by decide +kernel
theorem d_Text_add_30 : decode b_Text_add 30 = .ok (.return_, 1) := by decide +kernel
abbrev y_Text_addBytes : MethodName := ⟨"LanguageServer$Text", "addBytes", "(JI)V"⟩
abbrev b_Text_addBytes : ByteArray := prog_10_method_4_code
theorem d_Text_addBytes_0 : decode b_Text_addBytes 0 = .ok (.iload_n 3, 1) := by decide +kernel
theorem d_Text_addBytes_1 : decode b_Text_addBytes 1 = .ok (.iconst 1, 1) := by decide +kernel
theorem d_Text_addBytes_2 : decode b_Text_addBytes 2 = .ok (.isub, 1) := by decide +kernel
theorem d_Text_addBytes_3 : decode b_Text_addBytes 3 = .ok (.istore 4, 2) := by decide +kernel
theorem d_Text_addBytes_5 : decode b_Text_addBytes 5 = .ok (.iload 4, 2) := by decide +kernel
theorem d_Text_addBytes_7 : decode b_Text_addBytes 7 = .ok (.ifCond .lt 19, 3) := by decide +kernel
theorem d_Text_addBytes_10 : decode b_Text_addBytes 10 = .ok (.aload_n 0, 1) := by decide +kernel
theorem d_Text_addBytes_11 : decode b_Text_addBytes 11 = .ok (.lload_n 1, 1) := by decide +kernel
theorem d_Text_addBytes_12 : decode b_Text_addBytes 12 = .ok (.iload 4, 2) := by decide +kernel
theorem d_Text_addBytes_14 : decode b_Text_addBytes 14 = .ok (.invokestatic 25, 3) := by decide +kernel
theorem d_Text_addBytes_17 : decode b_Text_addBytes 17 = .ok (.invokevirtual 29, 3) := by decide +kernel
theorem d_Text_addBytes_20 : decode b_Text_addBytes 20 = .ok (.iinc 4 (-1), 3) := by decide +kernel
theorem d_Text_addBytes_23 : decode b_Text_addBytes 23 = .ok (.goto (-18), 3) := by decide +kernel
theorem d_Text_addBytes_26 : decode b_Text_addBytes 26 = .ok (.return_, 1) := by decide +kernel
abbrev y_Text_take : MethodName := ⟨"LanguageServer$Text", "take", "(II)V"⟩
abbrev b_Text_take : ByteArray := prog_10_method_6_code
theorem d_Text_take_0 : decode b_Text_take 0 = .ok (.aload_n 0, 1) := by decide +kernel
theorem d_Text_take_1 : decode b_Text_take 1 = .ok (.getfield 9, 3) := by decide +kernel
theorem d_Text_take_4 : decode b_Text_take 4 = .ok (.iload_n 1, 1) := by decide +kernel
theorem d_Text_take_5 : decode b_Text_take 5 = .ok (.iload_n 2, 1) := by decide +kernel
theorem d_Text_take_6 : decode b_Text_take 6 = .ok (.iadd, 1) := by decide +kernel
theorem d_Text_take_7 : decode b_Text_take 7 = .ok (.aload_n 0, 1) := by decide +kernel
theorem d_Text_take_8 : decode b_Text_take 8 = .ok (.getfield 9, 3) := by decide +kernel
theorem d_Text_take_11 : decode b_Text_take 11 = .ok (.iload_n 1, 1) := by decide +kernel
theorem d_Text_take_12 : decode b_Text_take 12 = .ok (.aload_n 0, 1) := by decide +kernel
theorem d_Text_take_13 : decode b_Text_take 13 = .ok (.getfield 15, 3) := by decide +kernel
theorem d_Text_take_16 : decode b_Text_take 16 = .ok (.iload_n 1, 1) := by decide +kernel
theorem d_Text_take_17 : decode b_Text_take 17 = .ok (.isub, 1) := by decide +kernel
theorem d_Text_take_18 : decode b_Text_take 18 = .ok (.iload_n 2, 1) := by decide +kernel
theorem d_Text_take_19 : decode b_Text_take 19 = .ok (.isub, 1) := by decide +kernel
theorem d_Text_take_20 : decode b_Text_take 20 = .ok (.invokestatic 19, 3) := by decide +kernel
theorem d_Text_take_23 : decode b_Text_take 23 = .ok (.aload_n 0, 1) := by decide +kernel
theorem d_Text_take_24 : decode b_Text_take 24 = .ok (.dup, 1) := by decide +kernel
theorem d_Text_take_25 : decode b_Text_take 25 = .ok (.getfield 15, 3) := by decide +kernel
theorem d_Text_take_28 : decode b_Text_take 28 = .ok (.iload_n 2, 1) := by decide +kernel
theorem d_Text_take_29 : decode b_Text_take 29 = .ok (.isub, 1) := by decide +kernel
theorem d_Text_take_30 : decode b_Text_take 30 = .ok (.putfield 15, 3) := by decide +kernel
theorem d_Text_take_33 : decode b_Text_take 33 = .ok (.return_, 1) := by decide +kernel
