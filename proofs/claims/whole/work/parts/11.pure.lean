def p_LanguageServer_isCode (x0 : Int32) : Option Int32 :=
  (if x0 < 32 then
      some 0
    else
      (if (126 : Int32) < x0 then
        some 0
      else
        some 1))
abbrev w_LS_isCode : List Cond := Cond.code y_LS_isCode b_LS_isCode 1 (some .boolean) :: Tg
abbrev r_LS_isCode : Room := { frames := 0, cells := 0, slots := 0, locals := 0 }
theorem ds_LS_isCode : y_LS_isCode.cls ≠ "java/lang/invoke/MethodHandle" ∧ y_LS_isCode.cls ≠ "java/lang/invoke/VarHandle" ∧ (parseMethodDescriptor y_LS_isCode.desc).map (fun d => d.parameters.length) = some 1 := by decide +kernel
set_option maxHeartbeats 4000000 in
set_option maxRecDepth 100000 in
theorem c_LS_isCode (l : Launch) {x0 : Int32} {rr : Int32} (h : p_LanguageServer_isCode x0 = some rr) : Met l y_LS_isCode w_LS_isCode r_LS_isCode (va_Pc [.int x0] KN) (PQi rr) 0 0 PF := by
  refine Met.ofW (cc := b_LS_isCode) (maxL := 1) (ret := (some .boolean)) (by decide) rfl ?_
  intro p e s m args below meth c s₁ B hml hv
  obtain ⟨rfl, hk⟩ := hv
  have hx := B.exec
  have hb := B.bytes
  have hr := B.returns
  have hts := atoms_spec (ws := w_LS_isCode) B.pre
  have hg : ∀ w ∈ Tg, w.before _ s = true := fun w q => hts w (List.mem_cons_of_mem _ q)
  have hown : s.vm.findClass "LanguageServer" = some m.cls := findClass_of_methodNamed B.named
  have hlocks := B.notSynchronized
  have hS : va_S (PF) s.heap s.heap [] := va_S.rf
  have hl := lv_entry ([.int x0]) (n := 1) (Nat.le_of_ble_eq_true rfl)
  rw [lg_entry_eq]
  generalize (lg_sl ([.int x0]) ++ List.replicate (1 - (lg_sl ([.int x0])).length) Slot.unset).toArray = ls at hl ⊢
  have hl : lv_has ls 1 [(0, .int x0)] := hl
  generalize hargs : ([.int x0] : List Value).toArray = args at hg hts ⊢
  obtain ⟨Q, hQ⟩ : ∃ Q, Q = MQ below (PQi rr) args s 0 0 (PF) := ⟨_, rfl⟩
  rw [← hQ]
  have hRet : ∀ (v : Int32), (narrow .boolean (.int v) = .int v) → some v = some rr → ∀ (H : Heap) (locs : List Loc), va_S (PF) s.heap H locs → ∀ (pc : Nat) (ls : Array Slot), decode b_LS_isCode pc = .ok (.ireturn, 1) → W p l e (headSpec w_LS_isCode r_LS_isCode).room s m args below meth c H locs 0 0 Q (F0 m pc ls [.int v]) := by
    intro v hn h H locs hS pc ls hd
    cases h
    subst hQ
    exact W.zret hx hb hr hn (fun t ht hW => ⟨⟨_, (), rfl, rfl, trivial⟩, hS.F ht⟩) hS.2.2 hd
  clear hQ
  unfold p_LanguageServer_isCode at h
  refine lv_iload_n hx hb d_LS_isCode_0 rfl (lv_at hl 0 rfl) ?_
  refine lv_bipush (v := 32) hx hb d_LS_isCode_1 (by decide) ?_
  refine lv_icmp_lt (tgt := 16) hx hb d_LS_isCode_3 (by decide) (fun c_3 => ?_) (fun c_3 => ?_)
  · replace h := itp c_3 h
    refine lv_iconst (v := 0) hx hb d_LS_isCode_16 (by decide) ?_
    exact hRet _ rfl h _ _ hS _ _ d_LS_isCode_17
  · replace h := itf c_3 h
    refine lv_iload_n hx hb d_LS_isCode_6 rfl (lv_at hl 0 rfl) ?_
    refine lv_bipush (v := 126) hx hb d_LS_isCode_7 (by decide) ?_
    refine lv_icmp_gt (tgt := 16) hx hb d_LS_isCode_9 (by decide) (fun c_9 => ?_) (fun c_9 => ?_)
    · replace h := itp c_9 h
      refine lv_iconst (v := 0) hx hb d_LS_isCode_16 (by decide) ?_
      exact hRet _ rfl h _ _ hS _ _ d_LS_isCode_17
    · replace h := itf c_9 h
      refine lv_iconst (v := 1) hx hb d_LS_isCode_12 (by decide) ?_
      refine lv_goto (tgt := 17) hx hb d_LS_isCode_13 (by decide) ?_
      exact hRet _ rfl h _ _ hS _ _ d_LS_isCode_17
def p_LanguageServer_byteAt (x0 : Int64) (x2 : Int32) : Option Int32 :=
  some ((((x0.toUInt64 >>> (((8 : Int32) * x2).toInt64.toUInt64 &&& Int64.toUInt64 63)).toInt64).toInt32) &&& 255)
abbrev w_LS_byteAt : List Cond := Cond.code y_LS_byteAt b_LS_byteAt 3 (some .int) :: Tg
abbrev r_LS_byteAt : Room := { frames := 0, cells := 0, slots := 0, locals := 0 }
theorem ds_LS_byteAt : y_LS_byteAt.cls ≠ "java/lang/invoke/MethodHandle" ∧ y_LS_byteAt.cls ≠ "java/lang/invoke/VarHandle" ∧ (parseMethodDescriptor y_LS_byteAt.desc).map (fun d => d.parameters.length) = some 2 := by decide +kernel
set_option maxHeartbeats 4000000 in
set_option maxRecDepth 100000 in
theorem c_LS_byteAt (l : Launch) {x0 : Int64} {x2 : Int32} {rr : Int32} (h : p_LanguageServer_byteAt x0 x2 = some rr) : Met l y_LS_byteAt w_LS_byteAt r_LS_byteAt (va_Pc [.long x0, .int x2] KN) (PQi rr) 0 0 PF := by
  refine Met.ofW (cc := b_LS_byteAt) (maxL := 3) (ret := (some .int)) (by decide) rfl ?_
  intro p e s m args below meth c s₁ B hml hv
  obtain ⟨rfl, hk⟩ := hv
  have hx := B.exec
  have hb := B.bytes
  have hr := B.returns
  have hts := atoms_spec (ws := w_LS_byteAt) B.pre
  have hg : ∀ w ∈ Tg, w.before _ s = true := fun w q => hts w (List.mem_cons_of_mem _ q)
  have hown : s.vm.findClass "LanguageServer" = some m.cls := findClass_of_methodNamed B.named
  have hlocks := B.notSynchronized
  have hS : va_S (PF) s.heap s.heap [] := va_S.rf
  have hl := lv_entry ([.long x0, .int x2]) (n := 3) (Nat.le_of_ble_eq_true rfl)
  rw [lg_entry_eq]
  generalize (lg_sl ([.long x0, .int x2]) ++ List.replicate (3 - (lg_sl ([.long x0, .int x2])).length) Slot.unset).toArray = ls at hl ⊢
  have hl : lv_has ls 3 [(0, .long x0), (2, .int x2)] := hl
  generalize hargs : ([.long x0, .int x2] : List Value).toArray = args at hg hts ⊢
  obtain ⟨Q, hQ⟩ : ∃ Q, Q = MQ below (PQi rr) args s 0 0 (PF) := ⟨_, rfl⟩
  rw [← hQ]
  have hRet : ∀ (v : Int32), some v = some rr → ∀ (H : Heap) (locs : List Loc), va_S (PF) s.heap H locs → ∀ (pc : Nat) (ls : Array Slot), decode b_LS_byteAt pc = .ok (.ireturn, 1) → W p l e (headSpec w_LS_byteAt r_LS_byteAt).room s m args below meth c H locs 0 0 Q (F0 m pc ls [.int v]) := by
    intro v h H locs hS pc ls hd
    cases h
    subst hQ
    exact W.iret hx hb hr (fun t ht hW => ⟨⟨_, (), rfl, rfl, trivial⟩, hS.F ht⟩) hS.2.2 hd
  clear hQ
  unfold p_LanguageServer_byteAt at h
  refine lv_lload_n hx hb d_LS_byteAt_0 rfl (lv_at hl 0 rfl) ?_
  refine lv_bipush (v := 8) hx hb d_LS_byteAt_1 (by decide) ?_
  refine lv_iload_n hx hb d_LS_byteAt_3 rfl (lv_at hl 1 rfl) ?_
  refine lv_imul hx hb d_LS_byteAt_4 ?_
  refine lv_lushr hx hb d_LS_byteAt_5 rfl ?_
  refine lv_l2i hx hb d_LS_byteAt_6 rfl ?_
  refine lv_sipush (v := 255) hx hb d_LS_byteAt_7 (by decide) ?_
  refine lv_iand hx hb d_LS_byteAt_10 ?_
  exact hRet _ h _ _ hS _ _ d_LS_byteAt_11
def p_LanguageServer_areCodes_L2 (x0 : Int64) (x2 : Int32) : Nat → Int32 → Option Int32
  | 0, _ => none
  | n + 1, x3 =>
    (if x2 ≤ x3 then
        some 1
      else
        bd1 (p_LanguageServer_byteAt x0 x3) fun v_9 =>
        bd1 (p_LanguageServer_isCode v_9) fun v_12 =>
        (if v_12 = 0 then
          some 0
        else
          p_LanguageServer_areCodes_L2 x0 x2 n (x3 + 1)))
def p_LanguageServer_areCodes (x0 : Int64) (x2 : Int32) : Option Int32 :=
  p_LanguageServer_areCodes_L2 x0 x2 FU 0
abbrev w_LS_areCodes : List Cond := Cond.code y_LS_areCodes b_LS_areCodes 4 (some .boolean) :: Tg
abbrev r_LS_areCodes : Room := { frames := 1, cells := 0, slots := 0, locals := 22 }
theorem ds_LS_areCodes : y_LS_areCodes.cls ≠ "java/lang/invoke/MethodHandle" ∧ y_LS_areCodes.cls ≠ "java/lang/invoke/VarHandle" ∧ (parseMethodDescriptor y_LS_areCodes.desc).map (fun d => d.parameters.length) = some 2 := by decide +kernel
set_option maxHeartbeats 4000000 in
set_option maxRecDepth 100000 in
theorem c_LS_areCodes (l : Launch) {x0 : Int64} {x2 : Int32} {rr : Int32} (h : p_LanguageServer_areCodes x0 x2 = some rr) : Met l y_LS_areCodes w_LS_areCodes r_LS_areCodes (va_Pc [.long x0, .int x2] KN) (PQi rr) 0 0 PF := by
  refine Met.ofW (cc := b_LS_areCodes) (maxL := 4) (ret := (some .boolean)) (by decide) rfl ?_
  intro p e s m args below meth c s₁ B hml hv
  obtain ⟨rfl, hk⟩ := hv
  have hx := B.exec
  have hb := B.bytes
  have hr := B.returns
  have hts := atoms_spec (ws := w_LS_areCodes) B.pre
  have hg : ∀ w ∈ Tg, w.before _ s = true := fun w q => hts w (List.mem_cons_of_mem _ q)
  have hown : s.vm.findClass "LanguageServer" = some m.cls := findClass_of_methodNamed B.named
  have hlocks := B.notSynchronized
  have hS : va_S (PF) s.heap s.heap [] := va_S.rf
  have hl := lv_entry ([.long x0, .int x2]) (n := 4) (Nat.le_of_ble_eq_true rfl)
  rw [lg_entry_eq]
  generalize (lg_sl ([.long x0, .int x2]) ++ List.replicate (4 - (lg_sl ([.long x0, .int x2])).length) Slot.unset).toArray = ls at hl ⊢
  have hl : lv_has ls 4 [(0, .long x0), (2, .int x2)] := hl
  generalize hargs : ([.long x0, .int x2] : List Value).toArray = args at hg hts ⊢
  obtain ⟨Q, hQ⟩ : ∃ Q, Q = MQ below (PQi rr) args s 0 0 (PF) := ⟨_, rfl⟩
  rw [← hQ]
  have hRet : ∀ (v : Int32), (narrow .boolean (.int v) = .int v) → some v = some rr → ∀ (H : Heap) (locs : List Loc), va_S (PF) s.heap H locs → ∀ (pc : Nat) (ls : Array Slot), decode b_LS_areCodes pc = .ok (.ireturn, 1) → W p l e (headSpec w_LS_areCodes r_LS_areCodes).room s m args below meth c H locs 0 0 Q (F0 m pc ls [.int v]) := by
    intro v hn h H locs hS pc ls hd
    cases h
    subst hQ
    exact W.zret hx hb hr hn (fun t ht hW => ⟨⟨_, (), rfl, rfl, trivial⟩, hS.F ht⟩) hS.2.2 hd
  clear hQ
  unfold p_LanguageServer_areCodes at h
  have L_2 : ∀ (n : Nat) (x3 : Int32), p_LanguageServer_areCodes_L2 x0 x2 n x3 = some rr → ∀ (H : Heap) (locs : List Loc), va_S PF s.heap H locs → ∀ ls : Array Slot, lv_has ls 4 [(0, .long x0), (2, .int x2), (3, .int x3)] → W p l e (headSpec w_LS_areCodes r_LS_areCodes).room s m args below meth c H locs 0 0 Q (F0 m 2 ls []) := by
    intro n
    induction n with
    | zero => intro _ h; cases h
    | succ n ih =>
      intro x3 h H locs hS ls hl
      rw [p_LanguageServer_areCodes_L2] at h
      refine lv_iload_n hx hb d_LS_areCodes_2 rfl (lv_at hl 2 rfl) ?_
      refine lv_iload_n hx hb d_LS_areCodes_3 rfl (lv_at hl 1 rfl) ?_
      refine lv_icmp_ge (tgt := 26) hx hb d_LS_areCodes_4 (by decide) (fun c_4 => ?_) (fun c_4 => ?_)
      · replace h := itp c_4 h
        refine lv_iconst (v := 1) hx hb d_LS_areCodes_26 (by decide) ?_
        exact hRet _ rfl h _ _ hS _ _ d_LS_areCodes_27
      · replace h := itf c_4 h
        refine lv_lload_n hx hb d_LS_areCodes_7 rfl (lv_at hl 0 rfl) ?_
        refine lv_iload_n hx hb d_LS_areCodes_8 rfl (lv_at hl 2 rfl) ?_
        obtain ⟨v_9, e_9, h⟩ := bd1_some h
        refine P_cpi (va_runS (As := [.long x0, .int x3]) (rest := []) ⟨hx, hb, hml, hown, hts⟩ (c_LS_byteAt l e_9) (va_cwS 2 hts (gd_S wd_711 wd_712 wd_1 wd_713) rfl rfl rfl ds_LS_byteAt ⟨Nat.le_of_ble_eq_true rfl, Nat.le_of_ble_eq_true rfl⟩) (P_ps hk) rfl rfl hl.1 rfl (lv_room (Nat.le_of_ble_eq_true rfl)) d_LS_areCodes_9 ⟨Nat.le_of_ble_eq_true rfl, Nat.le_of_ble_eq_true rfl⟩) hS (fun H locs hS => ?_)
        obtain ⟨v_12, e_12, h⟩ := bd1_some h
        refine P_cpi (va_runS (As := [.int v_9]) (rest := []) ⟨hx, hb, hml, hown, hts⟩ (c_LS_isCode l e_12) (va_cwS 1 hts (gd_S wd_603 wd_604 wd_1 wd_605) rfl rfl rfl ds_LS_isCode ⟨Nat.le_of_ble_eq_true rfl, Nat.le_of_ble_eq_true rfl⟩) (P_ps hk) rfl rfl hl.1 rfl (lv_room (Nat.le_of_ble_eq_true rfl)) d_LS_areCodes_12 ⟨Nat.le_of_ble_eq_true rfl, Nat.le_of_ble_eq_true rfl⟩) hS (fun H locs hS => ?_)
        refine lv_if_ne (tgt := 20) hx hb d_LS_areCodes_15 (by decide) (fun c_15 => ?_) (fun c_15 => ?_)
        · replace h := itf c_15 h
          refine lv_iinc (v := x3 + 1) (lv' := [(3, .int (x3 + 1)), (0, .long x0), (2, .int x2)]) hx hb d_LS_areCodes_20 hl (k := 2) rfl (by first | rfl | decide) (by decide) rfl (fun ls hl => ?_)
          refine lv_goto (tgt := 2) hx hb d_LS_areCodes_23 (by decide) ?_
          exact ih _ h _ _ hS ls (lv_sub hl [1, 2, 0] rfl)
        · replace h := itp c_15 h
          refine lv_iconst (v := 0) hx hb d_LS_areCodes_18 (by decide) ?_
          exact hRet _ rfl h _ _ hS _ _ d_LS_areCodes_19
  refine lv_iconst (v := 0) hx hb d_LS_areCodes_0 (by decide) ?_
  refine lv_istore_n (lv' := [(3, .int 0), (0, .long x0), (2, .int x2)]) hx hb d_LS_areCodes_1 rfl hl (by decide) rfl (fun ls hl => ?_)
  exact L_2  FU _ h _ _ hS ls (lv_sub hl [1, 2, 0] rfl)
def p_Parser_only (x0 : Int32) (x1 : Int32) (x2 : Int32) : Option Int32 :=
  (if x0 = x1 then
      some x2
    else
      some 0)
abbrev w_Parser_only : List Cond := Cond.code y_Parser_only b_Parser_only 3 (some .int) :: Tg
abbrev r_Parser_only : Room := { frames := 0, cells := 0, slots := 0, locals := 0 }
theorem ds_Parser_only : y_Parser_only.cls ≠ "java/lang/invoke/MethodHandle" ∧ y_Parser_only.cls ≠ "java/lang/invoke/VarHandle" ∧ (parseMethodDescriptor y_Parser_only.desc).map (fun d => d.parameters.length) = some 3 := by decide +kernel
set_option maxHeartbeats 4000000 in
set_option maxRecDepth 100000 in
theorem c_Parser_only (l : Launch) {x0 : Int32} {x1 : Int32} {x2 : Int32} {rr : Int32} (h : p_Parser_only x0 x1 x2 = some rr) : Met l y_Parser_only w_Parser_only r_Parser_only (va_Pc [.int x0, .int x1, .int x2] KN) (PQi rr) 0 0 PF := by
  refine Met.ofW (cc := b_Parser_only) (maxL := 3) (ret := (some .int)) (by decide) rfl ?_
  intro p e s m args below meth c s₁ B hml hv
  obtain ⟨rfl, hk⟩ := hv
  have hx := B.exec
  have hb := B.bytes
  have hr := B.returns
  have hts := atoms_spec (ws := w_Parser_only) B.pre
  have hg : ∀ w ∈ Tg, w.before _ s = true := fun w q => hts w (List.mem_cons_of_mem _ q)
  have hown : s.vm.findClass "LanguageServer$Parser" = some m.cls := findClass_of_methodNamed B.named
  have hlocks := B.notSynchronized
  have hS : va_S (PF) s.heap s.heap [] := va_S.rf
  have hl := lv_entry ([.int x0, .int x1, .int x2]) (n := 3) (Nat.le_of_ble_eq_true rfl)
  rw [lg_entry_eq]
  generalize (lg_sl ([.int x0, .int x1, .int x2]) ++ List.replicate (3 - (lg_sl ([.int x0, .int x1, .int x2])).length) Slot.unset).toArray = ls at hl ⊢
  have hl : lv_has ls 3 [(0, .int x0), (1, .int x1), (2, .int x2)] := hl
  generalize hargs : ([.int x0, .int x1, .int x2] : List Value).toArray = args at hg hts ⊢
  obtain ⟨Q, hQ⟩ : ∃ Q, Q = MQ below (PQi rr) args s 0 0 (PF) := ⟨_, rfl⟩
  rw [← hQ]
  have hRet : ∀ (v : Int32), some v = some rr → ∀ (H : Heap) (locs : List Loc), va_S (PF) s.heap H locs → ∀ (pc : Nat) (ls : Array Slot), decode b_Parser_only pc = .ok (.ireturn, 1) → W p l e (headSpec w_Parser_only r_Parser_only).room s m args below meth c H locs 0 0 Q (F0 m pc ls [.int v]) := by
    intro v h H locs hS pc ls hd
    cases h
    subst hQ
    exact W.iret hx hb hr (fun t ht hW => ⟨⟨_, (), rfl, rfl, trivial⟩, hS.F ht⟩) hS.2.2 hd
  clear hQ
  unfold p_Parser_only at h
  refine lv_iload_n hx hb d_Parser_only_0 rfl (lv_at hl 0 rfl) ?_
  refine lv_iload_n hx hb d_Parser_only_1 rfl (lv_at hl 1 rfl) ?_
  refine lv_icmp_ne (tgt := 9) hx hb d_Parser_only_2 (by decide) (fun c_2 => ?_) (fun c_2 => ?_)
  · replace h := itf c_2 h
    refine lv_iconst (v := 0) hx hb d_Parser_only_9 (by decide) ?_
    exact hRet _ h _ _ hS _ _ d_Parser_only_10
  · replace h := itp c_2 h
    refine lv_iload_n hx hb d_Parser_only_5 rfl (lv_at hl 2 rfl) ?_
    refine lv_goto (tgt := 10) hx hb d_Parser_only_6 (by decide) ?_
    exact hRet _ h _ _ hS _ _ d_Parser_only_10
def p_Tokens_sortOfWord (x0 : Int64) : Option Int32 :=
  (if (lg_cmp x0 7164208255718129664) = 0 then
      some 3
    else
      (if (lg_cmp x0 7311721974028595968) = 0 then
        some 4
      else
        (if (lg_cmp x0 7597137164769427456) = 0 then
          some 5
        else
          (if (lg_cmp x0 8243122740751368192) = 0 then
            some 6
          else
            (if (lg_cmp x0 7954895158703554560) = 0 then
              some 7
            else
              (if (lg_cmp x0 8388070248619704320) = 0 then
                some 8
              else
                some 1))))))
abbrev w_Tokens_sortOfWord : List Cond := Cond.code y_Tokens_sortOfWord b_Tokens_sortOfWord 2 (some .int) :: Tg
abbrev r_Tokens_sortOfWord : Room := { frames := 0, cells := 0, slots := 0, locals := 0 }
theorem ds_Tokens_sortOfWord : y_Tokens_sortOfWord.cls ≠ "java/lang/invoke/MethodHandle" ∧ y_Tokens_sortOfWord.cls ≠ "java/lang/invoke/VarHandle" ∧ (parseMethodDescriptor y_Tokens_sortOfWord.desc).map (fun d => d.parameters.length) = some 1 := by decide +kernel
set_option maxHeartbeats 4000000 in
set_option maxRecDepth 100000 in
theorem c_Tokens_sortOfWord (l : Launch) {x0 : Int64} {rr : Int32} (h : p_Tokens_sortOfWord x0 = some rr) : Met l y_Tokens_sortOfWord w_Tokens_sortOfWord r_Tokens_sortOfWord (va_Pc [.long x0] KN) (PQi rr) 0 0 PF := by
  refine Met.ofW (cc := b_Tokens_sortOfWord) (maxL := 2) (ret := (some .int)) (by decide) rfl ?_
  intro p e s m args below meth c s₁ B hml hv
  obtain ⟨rfl, hk⟩ := hv
  have hx := B.exec
  have hb := B.bytes
  have hr := B.returns
  have hts := atoms_spec (ws := w_Tokens_sortOfWord) B.pre
  have hg : ∀ w ∈ Tg, w.before _ s = true := fun w q => hts w (List.mem_cons_of_mem _ q)
  have hown : s.vm.findClass "LanguageServer$Tokens" = some m.cls := findClass_of_methodNamed B.named
  have hlocks := B.notSynchronized
  have hS : va_S (PF) s.heap s.heap [] := va_S.rf
  have hl := lv_entry ([.long x0]) (n := 2) (Nat.le_of_ble_eq_true rfl)
  rw [lg_entry_eq]
  generalize (lg_sl ([.long x0]) ++ List.replicate (2 - (lg_sl ([.long x0])).length) Slot.unset).toArray = ls at hl ⊢
  have hl : lv_has ls 2 [(0, .long x0)] := hl
  generalize hargs : ([.long x0] : List Value).toArray = args at hg hts ⊢
  obtain ⟨Q, hQ⟩ : ∃ Q, Q = MQ below (PQi rr) args s 0 0 (PF) := ⟨_, rfl⟩
  rw [← hQ]
  have hRet : ∀ (v : Int32), some v = some rr → ∀ (H : Heap) (locs : List Loc), va_S (PF) s.heap H locs → ∀ (pc : Nat) (ls : Array Slot), decode b_Tokens_sortOfWord pc = .ok (.ireturn, 1) → W p l e (headSpec w_Tokens_sortOfWord r_Tokens_sortOfWord).room s m args below meth c H locs 0 0 Q (F0 m pc ls [.int v]) := by
    intro v h H locs hS pc ls hd
    cases h
    subst hQ
    exact W.iret hx hb hr (fun t ht hW => ⟨⟨_, (), rfl, rfl, trivial⟩, hS.F ht⟩) hS.2.2 hd
  clear hQ
  unfold p_Tokens_sortOfWord at h
  refine lv_lload_n hx hb d_Tokens_sortOfWord_0 rfl (lv_at hl 0 rfl) ?_
  refine lv_ldc2 hx hb hown (hg _ wd_339) d_Tokens_sortOfWord_1 ?_
  refine W.lcmp hx hb d_Tokens_sortOfWord_4 ?_
  refine lv_if_ne (tgt := 10) hx hb d_Tokens_sortOfWord_5 (by decide) (fun c_5 => ?_) (fun c_5 => ?_)
  · replace h := itf c_5 h
    refine lv_lload_n hx hb d_Tokens_sortOfWord_10 rfl (lv_at hl 0 rfl) ?_
    refine lv_ldc2 hx hb hown (hg _ wd_340) d_Tokens_sortOfWord_11 ?_
    refine W.lcmp hx hb d_Tokens_sortOfWord_14 ?_
    refine lv_if_ne (tgt := 20) hx hb d_Tokens_sortOfWord_15 (by decide) (fun c_15 => ?_) (fun c_15 => ?_)
    · replace h := itf c_15 h
      refine lv_lload_n hx hb d_Tokens_sortOfWord_20 rfl (lv_at hl 0 rfl) ?_
      refine lv_ldc2 hx hb hown (hg _ wd_341) d_Tokens_sortOfWord_21 ?_
      refine W.lcmp hx hb d_Tokens_sortOfWord_24 ?_
      refine lv_if_ne (tgt := 30) hx hb d_Tokens_sortOfWord_25 (by decide) (fun c_25 => ?_) (fun c_25 => ?_)
      · replace h := itf c_25 h
        refine lv_lload_n hx hb d_Tokens_sortOfWord_30 rfl (lv_at hl 0 rfl) ?_
        refine lv_ldc2 hx hb hown (hg _ wd_342) d_Tokens_sortOfWord_31 ?_
        refine W.lcmp hx hb d_Tokens_sortOfWord_34 ?_
        refine lv_if_ne (tgt := 41) hx hb d_Tokens_sortOfWord_35 (by decide) (fun c_35 => ?_) (fun c_35 => ?_)
        · replace h := itf c_35 h
          refine lv_lload_n hx hb d_Tokens_sortOfWord_41 rfl (lv_at hl 0 rfl) ?_
          refine lv_ldc2 hx hb hown (hg _ wd_343) d_Tokens_sortOfWord_42 ?_
          refine W.lcmp hx hb d_Tokens_sortOfWord_45 ?_
          refine lv_if_ne (tgt := 52) hx hb d_Tokens_sortOfWord_46 (by decide) (fun c_46 => ?_) (fun c_46 => ?_)
          · replace h := itf c_46 h
            refine lv_lload_n hx hb d_Tokens_sortOfWord_52 rfl (lv_at hl 0 rfl) ?_
            refine lv_ldc2 hx hb hown (hg _ wd_344) d_Tokens_sortOfWord_53 ?_
            refine W.lcmp hx hb d_Tokens_sortOfWord_56 ?_
            refine lv_if_ne (tgt := 65) hx hb d_Tokens_sortOfWord_57 (by decide) (fun c_57 => ?_) (fun c_57 => ?_)
            · replace h := itf c_57 h
              refine lv_iconst (v := 1) hx hb d_Tokens_sortOfWord_65 (by decide) ?_
              exact hRet _ h _ _ hS _ _ d_Tokens_sortOfWord_66
            · replace h := itp c_57 h
              refine lv_bipush (v := 8) hx hb d_Tokens_sortOfWord_60 (by decide) ?_
              refine lv_goto (tgt := 66) hx hb d_Tokens_sortOfWord_62 (by decide) ?_
              exact hRet _ h _ _ hS _ _ d_Tokens_sortOfWord_66
          · replace h := itp c_46 h
            refine lv_bipush (v := 7) hx hb d_Tokens_sortOfWord_49 (by decide) ?_
            exact hRet _ h _ _ hS _ _ d_Tokens_sortOfWord_51
        · replace h := itp c_35 h
          refine lv_bipush (v := 6) hx hb d_Tokens_sortOfWord_38 (by decide) ?_
          exact hRet _ h _ _ hS _ _ d_Tokens_sortOfWord_40
      · replace h := itp c_25 h
        refine lv_iconst (v := 5) hx hb d_Tokens_sortOfWord_28 (by decide) ?_
        exact hRet _ h _ _ hS _ _ d_Tokens_sortOfWord_29
    · replace h := itp c_15 h
      refine lv_iconst (v := 4) hx hb d_Tokens_sortOfWord_18 (by decide) ?_
      exact hRet _ h _ _ hS _ _ d_Tokens_sortOfWord_19
  · replace h := itp c_5 h
    refine lv_iconst (v := 3) hx hb d_Tokens_sortOfWord_8 (by decide) ?_
    exact hRet _ h _ _ hS _ _ d_Tokens_sortOfWord_9
def p_Tokens_isLetter_b12 (x0 : Int32) : Option Int32 :=
  (if x0 < 65 then
      some 0
    else
      (if (90 : Int32) < x0 then
        some 0
      else
        some 1))
def p_Tokens_isLetter (x0 : Int32) : Option Int32 :=
  (if x0 < 97 then
      p_Tokens_isLetter_b12 x0
    else
      (if x0 ≤ 122 then
        some 1
      else
        p_Tokens_isLetter_b12 x0))
abbrev w_Tokens_isLetter : List Cond := Cond.code y_Tokens_isLetter b_Tokens_isLetter 1 (some .boolean) :: Tg
abbrev r_Tokens_isLetter : Room := { frames := 0, cells := 0, slots := 0, locals := 0 }
theorem ds_Tokens_isLetter : y_Tokens_isLetter.cls ≠ "java/lang/invoke/MethodHandle" ∧ y_Tokens_isLetter.cls ≠ "java/lang/invoke/VarHandle" ∧ (parseMethodDescriptor y_Tokens_isLetter.desc).map (fun d => d.parameters.length) = some 1 := by decide +kernel
set_option maxHeartbeats 4000000 in
set_option maxRecDepth 100000 in
theorem c_Tokens_isLetter (l : Launch) {x0 : Int32} {rr : Int32} (h : p_Tokens_isLetter x0 = some rr) : Met l y_Tokens_isLetter w_Tokens_isLetter r_Tokens_isLetter (va_Pc [.int x0] KN) (PQi rr) 0 0 PF := by
  refine Met.ofW (cc := b_Tokens_isLetter) (maxL := 1) (ret := (some .boolean)) (by decide) rfl ?_
  intro p e s m args below meth c s₁ B hml hv
  obtain ⟨rfl, hk⟩ := hv
  have hx := B.exec
  have hb := B.bytes
  have hr := B.returns
  have hts := atoms_spec (ws := w_Tokens_isLetter) B.pre
  have hg : ∀ w ∈ Tg, w.before _ s = true := fun w q => hts w (List.mem_cons_of_mem _ q)
  have hown : s.vm.findClass "LanguageServer$Tokens" = some m.cls := findClass_of_methodNamed B.named
  have hlocks := B.notSynchronized
  have hS : va_S (PF) s.heap s.heap [] := va_S.rf
  have hl := lv_entry ([.int x0]) (n := 1) (Nat.le_of_ble_eq_true rfl)
  rw [lg_entry_eq]
  generalize (lg_sl ([.int x0]) ++ List.replicate (1 - (lg_sl ([.int x0])).length) Slot.unset).toArray = ls at hl ⊢
  have hl : lv_has ls 1 [(0, .int x0)] := hl
  generalize hargs : ([.int x0] : List Value).toArray = args at hg hts ⊢
  obtain ⟨Q, hQ⟩ : ∃ Q, Q = MQ below (PQi rr) args s 0 0 (PF) := ⟨_, rfl⟩
  rw [← hQ]
  have hRet : ∀ (v : Int32), (narrow .boolean (.int v) = .int v) → some v = some rr → ∀ (H : Heap) (locs : List Loc), va_S (PF) s.heap H locs → ∀ (pc : Nat) (ls : Array Slot), decode b_Tokens_isLetter pc = .ok (.ireturn, 1) → W p l e (headSpec w_Tokens_isLetter r_Tokens_isLetter).room s m args below meth c H locs 0 0 Q (F0 m pc ls [.int v]) := by
    intro v hn h H locs hS pc ls hd
    cases h
    subst hQ
    exact W.zret hx hb hr hn (fun t ht hW => ⟨⟨_, (), rfl, rfl, trivial⟩, hS.F ht⟩) hS.2.2 hd
  clear hQ
  unfold p_Tokens_isLetter at h
  have J_12 : p_Tokens_isLetter_b12 x0 = some rr → ∀ (H : Heap) (locs : List Loc), va_S PF s.heap H locs → ∀ ls : Array Slot, lv_has ls 1 [(0, .int x0)] → W p l e (headSpec w_Tokens_isLetter r_Tokens_isLetter).room s m args below meth c H locs 0 0 Q (F0 m 12 ls []) := by
    intro   h H locs hS ls hl
    rw [p_Tokens_isLetter_b12] at h
    refine lv_iload_n hx hb d_Tokens_isLetter_12 rfl (lv_at hl 0 rfl) ?_
    refine lv_bipush (v := 65) hx hb d_Tokens_isLetter_13 (by decide) ?_
    refine lv_icmp_lt (tgt := 28) hx hb d_Tokens_isLetter_15 (by decide) (fun c_15 => ?_) (fun c_15 => ?_)
    · replace h := itp c_15 h
      refine lv_iconst (v := 0) hx hb d_Tokens_isLetter_28 (by decide) ?_
      exact hRet _ rfl h _ _ hS _ _ d_Tokens_isLetter_29
    · replace h := itf c_15 h
      refine lv_iload_n hx hb d_Tokens_isLetter_18 rfl (lv_at hl 0 rfl) ?_
      refine lv_bipush (v := 90) hx hb d_Tokens_isLetter_19 (by decide) ?_
      refine lv_icmp_gt (tgt := 28) hx hb d_Tokens_isLetter_21 (by decide) (fun c_21 => ?_) (fun c_21 => ?_)
      · replace h := itp c_21 h
        refine lv_iconst (v := 0) hx hb d_Tokens_isLetter_28 (by decide) ?_
        exact hRet _ rfl h _ _ hS _ _ d_Tokens_isLetter_29
      · replace h := itf c_21 h
        refine lv_iconst (v := 1) hx hb d_Tokens_isLetter_24 (by decide) ?_
        refine lv_goto (tgt := 29) hx hb d_Tokens_isLetter_25 (by decide) ?_
        exact hRet _ rfl h _ _ hS _ _ d_Tokens_isLetter_29
  refine lv_iload_n hx hb d_Tokens_isLetter_0 rfl (lv_at hl 0 rfl) ?_
  refine lv_bipush (v := 97) hx hb d_Tokens_isLetter_1 (by decide) ?_
  refine lv_icmp_lt (tgt := 12) hx hb d_Tokens_isLetter_3 (by decide) (fun c_3 => ?_) (fun c_3 => ?_)
  · replace h := itp c_3 h
    exact J_12   h _ _ hS ls (lv_sub hl [0] rfl)
  · replace h := itf c_3 h
    refine lv_iload_n hx hb d_Tokens_isLetter_6 rfl (lv_at hl 0 rfl) ?_
    refine lv_bipush (v := 122) hx hb d_Tokens_isLetter_7 (by decide) ?_
    refine lv_icmp_le (tgt := 24) hx hb d_Tokens_isLetter_9 (by decide) (fun c_9 => ?_) (fun c_9 => ?_)
    · replace h := itp c_9 h
      refine lv_iconst (v := 1) hx hb d_Tokens_isLetter_24 (by decide) ?_
      refine lv_goto (tgt := 29) hx hb d_Tokens_isLetter_25 (by decide) ?_
      exact hRet _ rfl h _ _ hS _ _ d_Tokens_isLetter_29
    · replace h := itf c_9 h
      exact J_12   h _ _ hS ls (lv_sub hl [0] rfl)
def p_Tokens_isDigit (x0 : Int32) : Option Int32 :=
  (if x0 < 48 then
      some 0
    else
      (if (57 : Int32) < x0 then
        some 0
      else
        some 1))
abbrev w_Tokens_isDigit : List Cond := Cond.code y_Tokens_isDigit b_Tokens_isDigit 1 (some .boolean) :: Tg
abbrev r_Tokens_isDigit : Room := { frames := 0, cells := 0, slots := 0, locals := 0 }
theorem ds_Tokens_isDigit : y_Tokens_isDigit.cls ≠ "java/lang/invoke/MethodHandle" ∧ y_Tokens_isDigit.cls ≠ "java/lang/invoke/VarHandle" ∧ (parseMethodDescriptor y_Tokens_isDigit.desc).map (fun d => d.parameters.length) = some 1 := by decide +kernel
set_option maxHeartbeats 4000000 in
set_option maxRecDepth 100000 in
theorem c_Tokens_isDigit (l : Launch) {x0 : Int32} {rr : Int32} (h : p_Tokens_isDigit x0 = some rr) : Met l y_Tokens_isDigit w_Tokens_isDigit r_Tokens_isDigit (va_Pc [.int x0] KN) (PQi rr) 0 0 PF := by
  refine Met.ofW (cc := b_Tokens_isDigit) (maxL := 1) (ret := (some .boolean)) (by decide) rfl ?_
  intro p e s m args below meth c s₁ B hml hv
  obtain ⟨rfl, hk⟩ := hv
  have hx := B.exec
  have hb := B.bytes
  have hr := B.returns
  have hts := atoms_spec (ws := w_Tokens_isDigit) B.pre
  have hg : ∀ w ∈ Tg, w.before _ s = true := fun w q => hts w (List.mem_cons_of_mem _ q)
  have hown : s.vm.findClass "LanguageServer$Tokens" = some m.cls := findClass_of_methodNamed B.named
  have hlocks := B.notSynchronized
  have hS : va_S (PF) s.heap s.heap [] := va_S.rf
  have hl := lv_entry ([.int x0]) (n := 1) (Nat.le_of_ble_eq_true rfl)
  rw [lg_entry_eq]
  generalize (lg_sl ([.int x0]) ++ List.replicate (1 - (lg_sl ([.int x0])).length) Slot.unset).toArray = ls at hl ⊢
  have hl : lv_has ls 1 [(0, .int x0)] := hl
  generalize hargs : ([.int x0] : List Value).toArray = args at hg hts ⊢
  obtain ⟨Q, hQ⟩ : ∃ Q, Q = MQ below (PQi rr) args s 0 0 (PF) := ⟨_, rfl⟩
  rw [← hQ]
  have hRet : ∀ (v : Int32), (narrow .boolean (.int v) = .int v) → some v = some rr → ∀ (H : Heap) (locs : List Loc), va_S (PF) s.heap H locs → ∀ (pc : Nat) (ls : Array Slot), decode b_Tokens_isDigit pc = .ok (.ireturn, 1) → W p l e (headSpec w_Tokens_isDigit r_Tokens_isDigit).room s m args below meth c H locs 0 0 Q (F0 m pc ls [.int v]) := by
    intro v hn h H locs hS pc ls hd
    cases h
    subst hQ
    exact W.zret hx hb hr hn (fun t ht hW => ⟨⟨_, (), rfl, rfl, trivial⟩, hS.F ht⟩) hS.2.2 hd
  clear hQ
  unfold p_Tokens_isDigit at h
  refine lv_iload_n hx hb d_Tokens_isDigit_0 rfl (lv_at hl 0 rfl) ?_
  refine lv_bipush (v := 48) hx hb d_Tokens_isDigit_1 (by decide) ?_
  refine lv_icmp_lt (tgt := 16) hx hb d_Tokens_isDigit_3 (by decide) (fun c_3 => ?_) (fun c_3 => ?_)
  · replace h := itp c_3 h
    refine lv_iconst (v := 0) hx hb d_Tokens_isDigit_16 (by decide) ?_
    exact hRet _ rfl h _ _ hS _ _ d_Tokens_isDigit_17
  · replace h := itf c_3 h
    refine lv_iload_n hx hb d_Tokens_isDigit_6 rfl (lv_at hl 0 rfl) ?_
    refine lv_bipush (v := 57) hx hb d_Tokens_isDigit_7 (by decide) ?_
    refine lv_icmp_gt (tgt := 16) hx hb d_Tokens_isDigit_9 (by decide) (fun c_9 => ?_) (fun c_9 => ?_)
    · replace h := itp c_9 h
      refine lv_iconst (v := 0) hx hb d_Tokens_isDigit_16 (by decide) ?_
      exact hRet _ rfl h _ _ hS _ _ d_Tokens_isDigit_17
    · replace h := itf c_9 h
      refine lv_iconst (v := 1) hx hb d_Tokens_isDigit_12 (by decide) ?_
      refine lv_goto (tgt := 17) hx hb d_Tokens_isDigit_13 (by decide) ?_
      exact hRet _ rfl h _ _ hS _ _ d_Tokens_isDigit_17
def p_Tokens_isName_b26 (x0 : Int64) (x2 : Int32) (k2 : Int32 → Option Int32) (x3 : Int32) (x4 : Int32) (s0 : Int32) : Option Int32 :=
  bd1 (p_Tokens_isLetter x4) fun v_30 =>
    (if v_30 = 0 then
      (if s0 = 0 then
        bd1 (p_Tokens_isDigit x4) fun v_43 =>
        (if v_43 = 0 then
          some 0
        else
          k2 (x3 + 1))
      else
        some 0)
    else
      k2 (x3 + 1))
def p_Tokens_isName_L2 (x0 : Int64) (x2 : Int32) : Nat → Int32 → Option Int32
  | 0, _ => none
  | n + 1, x3 =>
    (if x2 ≤ x3 then
        bd1 (p_Tokens_sortOfWord (x0 <<< (((8 : Int32) * ((8 : Int32) - x2)).toInt64 &&& 63))) fun v_66 =>
        (if v_66 = 1 then
          some 1
        else
          some 0)
      else
        bd1 (p_LanguageServer_byteAt x0 x3) fun v_9 =>
        (if x3 = (x2 - 1) then
          p_Tokens_isName_b26 x0 x2 (p_Tokens_isName_L2 x0 x2 n) x3 v_9 1
        else
          p_Tokens_isName_b26 x0 x2 (p_Tokens_isName_L2 x0 x2 n) x3 v_9 0))
def p_Tokens_isName (x0 : Int64) (x2 : Int32) : Option Int32 :=
  p_Tokens_isName_L2 x0 x2 FU 0
abbrev w_Tokens_isName : List Cond := Cond.code y_Tokens_isName b_Tokens_isName 6 (some .boolean) :: Tg
abbrev r_Tokens_isName : Room := { frames := 1, cells := 0, slots := 0, locals := 22 }
theorem ds_Tokens_isName : y_Tokens_isName.cls ≠ "java/lang/invoke/MethodHandle" ∧ y_Tokens_isName.cls ≠ "java/lang/invoke/VarHandle" ∧ (parseMethodDescriptor y_Tokens_isName.desc).map (fun d => d.parameters.length) = some 2 := by decide +kernel
set_option maxHeartbeats 4000000 in
set_option maxRecDepth 100000 in
theorem c_Tokens_isName (l : Launch) {x0 : Int64} {x2 : Int32} {rr : Int32} (h : p_Tokens_isName x0 x2 = some rr) : Met l y_Tokens_isName w_Tokens_isName r_Tokens_isName (va_Pc [.long x0, .int x2] KN) (PQi rr) 0 0 PF := by
  refine Met.ofW (cc := b_Tokens_isName) (maxL := 6) (ret := (some .boolean)) (by decide) rfl ?_
  intro p e s m args below meth c s₁ B hml hv
  obtain ⟨rfl, hk⟩ := hv
  have hx := B.exec
  have hb := B.bytes
  have hr := B.returns
  have hts := atoms_spec (ws := w_Tokens_isName) B.pre
  have hg : ∀ w ∈ Tg, w.before _ s = true := fun w q => hts w (List.mem_cons_of_mem _ q)
  have hown : s.vm.findClass "LanguageServer$Tokens" = some m.cls := findClass_of_methodNamed B.named
  have hlocks := B.notSynchronized
  have hS : va_S (PF) s.heap s.heap [] := va_S.rf
  have hl := lv_entry ([.long x0, .int x2]) (n := 6) (Nat.le_of_ble_eq_true rfl)
  rw [lg_entry_eq]
  generalize (lg_sl ([.long x0, .int x2]) ++ List.replicate (6 - (lg_sl ([.long x0, .int x2])).length) Slot.unset).toArray = ls at hl ⊢
  have hl : lv_has ls 6 [(0, .long x0), (2, .int x2)] := hl
  generalize hargs : ([.long x0, .int x2] : List Value).toArray = args at hg hts ⊢
  obtain ⟨Q, hQ⟩ : ∃ Q, Q = MQ below (PQi rr) args s 0 0 (PF) := ⟨_, rfl⟩
  rw [← hQ]
  have hRet : ∀ (v : Int32), (narrow .boolean (.int v) = .int v) → some v = some rr → ∀ (H : Heap) (locs : List Loc), va_S (PF) s.heap H locs → ∀ (pc : Nat) (ls : Array Slot), decode b_Tokens_isName pc = .ok (.ireturn, 1) → W p l e (headSpec w_Tokens_isName r_Tokens_isName).room s m args below meth c H locs 0 0 Q (F0 m pc ls [.int v]) := by
    intro v hn h H locs hS pc ls hd
    cases h
    subst hQ
    exact W.zret hx hb hr hn (fun t ht hW => ⟨⟨_, (), rfl, rfl, trivial⟩, hS.F ht⟩) hS.2.2 hd
  clear hQ
  unfold p_Tokens_isName at h
  have J_26 : ∀ (k2 : Int32 → Option Int32) (hk2 : ∀ (x3 : Int32), k2 x3 = some rr → ∀ (H : Heap) (locs : List Loc), va_S PF s.heap H locs → ∀ ls : Array Slot, lv_has ls 6 [(0, .long x0), (2, .int x2), (3, .int x3)] → W p l e (headSpec w_Tokens_isName r_Tokens_isName).room s m args below meth c H locs 0 0 Q (F0 m 2 ls [])) (x3 : Int32) (x4 : Int32) (s0 : Int32), p_Tokens_isName_b26 x0 x2 k2 x3 x4 s0 = some rr → ∀ (H : Heap) (locs : List Loc), va_S PF s.heap H locs → ∀ ls : Array Slot, lv_has ls 6 [(0, .long x0), (2, .int x2), (3, .int x3), (4, .int x4)] → W p l e (headSpec w_Tokens_isName r_Tokens_isName).room s m args below meth c H locs 0 0 Q (F0 m 26 ls [.int s0]) := by
    intro k2 hk2 x3 x4 s0 h H locs hS ls hl
    rw [p_Tokens_isName_b26] at h
    refine lv_istore (lv' := [(5, .int s0), (0, .long x0), (2, .int x2), (3, .int x3), (4, .int x4)]) hx hb d_Tokens_isName_26 hl (by decide) rfl (fun ls hl => ?_)
    refine lv_iload hx hb d_Tokens_isName_28 (lv_at hl 4 rfl) ?_
    obtain ⟨v_30, e_30, h⟩ := bd1_some h
    refine P_cpi (va_runS (As := [.int x4]) (rest := []) ⟨hx, hb, hml, hown, hts⟩ (c_Tokens_isLetter l e_30) (va_cwS 1 hts (gd_S wd_323 wd_324 wd_4 wd_325) rfl rfl rfl ds_Tokens_isLetter ⟨Nat.le_of_ble_eq_true rfl, Nat.le_of_ble_eq_true rfl⟩) (P_ps hk) rfl rfl hl.1 rfl (lv_room (Nat.le_of_ble_eq_true rfl)) d_Tokens_isName_30 ⟨Nat.le_of_ble_eq_true rfl, Nat.le_of_ble_eq_true rfl⟩) hS (fun H locs hS => ?_)
    refine lv_if_ne (tgt := 51) hx hb d_Tokens_isName_33 (by decide) (fun c_33 => ?_) (fun c_33 => ?_)
    · replace h := itf c_33 h
      refine lv_iinc (v := x3 + 1) (lv' := [(3, .int (x3 + 1)), (5, .int s0), (0, .long x0), (2, .int x2), (4, .int x4)]) hx hb d_Tokens_isName_51 hl (k := 3) rfl (by first | rfl | decide) (by decide) rfl (fun ls hl => ?_)
      refine lv_goto (tgt := 2) hx hb d_Tokens_isName_54 (by decide) ?_
      exact hk2 _ h _ _ hS ls (lv_sub hl [2, 3, 0] rfl)
    · replace h := itp c_33 h
      refine lv_iload hx hb d_Tokens_isName_36 (lv_at hl 0 rfl) ?_
      refine lv_if_ne (tgt := 49) hx hb d_Tokens_isName_38 (by decide) (fun c_38 => ?_) (fun c_38 => ?_)
      · replace h := itf c_38 h
        refine lv_iconst (v := 0) hx hb d_Tokens_isName_49 (by decide) ?_
        exact hRet _ rfl h _ _ hS _ _ d_Tokens_isName_50
      · replace h := itp c_38 h
        refine lv_iload hx hb d_Tokens_isName_41 (lv_at hl 4 rfl) ?_
        obtain ⟨v_43, e_43, h⟩ := bd1_some h
        refine P_cpi (va_runS (As := [.int x4]) (rest := []) ⟨hx, hb, hml, hown, hts⟩ (c_Tokens_isDigit l e_43) (va_cwS 1 hts (gd_S wd_326 wd_327 wd_4 wd_328) rfl rfl rfl ds_Tokens_isDigit ⟨Nat.le_of_ble_eq_true rfl, Nat.le_of_ble_eq_true rfl⟩) (P_ps hk) rfl rfl hl.1 rfl (lv_room (Nat.le_of_ble_eq_true rfl)) d_Tokens_isName_43 ⟨Nat.le_of_ble_eq_true rfl, Nat.le_of_ble_eq_true rfl⟩) hS (fun H locs hS => ?_)
        refine lv_if_ne (tgt := 51) hx hb d_Tokens_isName_46 (by decide) (fun c_46 => ?_) (fun c_46 => ?_)
        · replace h := itf c_46 h
          refine lv_iinc (v := x3 + 1) (lv' := [(3, .int (x3 + 1)), (5, .int s0), (0, .long x0), (2, .int x2), (4, .int x4)]) hx hb d_Tokens_isName_51 hl (k := 3) rfl (by first | rfl | decide) (by decide) rfl (fun ls hl => ?_)
          refine lv_goto (tgt := 2) hx hb d_Tokens_isName_54 (by decide) ?_
          exact hk2 _ h _ _ hS ls (lv_sub hl [2, 3, 0] rfl)
        · replace h := itp c_46 h
          refine lv_iconst (v := 0) hx hb d_Tokens_isName_49 (by decide) ?_
          exact hRet _ rfl h _ _ hS _ _ d_Tokens_isName_50
  have L_2 : ∀ (n : Nat) (x3 : Int32), p_Tokens_isName_L2 x0 x2 n x3 = some rr → ∀ (H : Heap) (locs : List Loc), va_S PF s.heap H locs → ∀ ls : Array Slot, lv_has ls 6 [(0, .long x0), (2, .int x2), (3, .int x3)] → W p l e (headSpec w_Tokens_isName r_Tokens_isName).room s m args below meth c H locs 0 0 Q (F0 m 2 ls []) := by
    intro n
    induction n with
    | zero => intro _ h; cases h
    | succ n ih =>
      intro x3 h H locs hS ls hl
      rw [p_Tokens_isName_L2] at h
      refine lv_iload_n hx hb d_Tokens_isName_2 rfl (lv_at hl 2 rfl) ?_
      refine lv_iload_n hx hb d_Tokens_isName_3 rfl (lv_at hl 1 rfl) ?_
      refine lv_icmp_ge (tgt := 57) hx hb d_Tokens_isName_4 (by decide) (fun c_4 => ?_) (fun c_4 => ?_)
      · replace h := itp c_4 h
        refine lv_lload_n hx hb d_Tokens_isName_57 rfl (lv_at hl 0 rfl) ?_
        refine lv_bipush (v := 8) hx hb d_Tokens_isName_58 (by decide) ?_
        refine lv_bipush (v := 8) hx hb d_Tokens_isName_60 (by decide) ?_
        refine lv_iload_n hx hb d_Tokens_isName_62 rfl (lv_at hl 1 rfl) ?_
        refine lv_isub hx hb d_Tokens_isName_63 ?_
        refine lv_imul hx hb d_Tokens_isName_64 ?_
        refine lv_lshl hx hb d_Tokens_isName_65 rfl ?_
        obtain ⟨v_66, e_66, h⟩ := bd1_some h
        refine P_cpi (va_runS (As := [.long (x0 <<< (((8 : Int32) * ((8 : Int32) - x2)).toInt64 &&& 63))]) (rest := []) ⟨hx, hb, hml, hown, hts⟩ (c_Tokens_sortOfWord l e_66) (va_cwS 1 hts (gd_S wd_336 wd_337 wd_4 wd_338) rfl rfl rfl ds_Tokens_sortOfWord ⟨Nat.le_of_ble_eq_true rfl, Nat.le_of_ble_eq_true rfl⟩) (P_ps hk) rfl rfl hl.1 rfl (lv_room (Nat.le_of_ble_eq_true rfl)) d_Tokens_isName_66 ⟨Nat.le_of_ble_eq_true rfl, Nat.le_of_ble_eq_true rfl⟩) hS (fun H locs hS => ?_)
        refine lv_iconst (v := 1) hx hb d_Tokens_isName_69 (by decide) ?_
        refine lv_icmp_ne (tgt := 77) hx hb d_Tokens_isName_70 (by decide) (fun c_70 => ?_) (fun c_70 => ?_)
        · replace h := itf c_70 h
          refine lv_iconst (v := 0) hx hb d_Tokens_isName_77 (by decide) ?_
          exact hRet _ rfl h _ _ hS _ _ d_Tokens_isName_78
        · replace h := itp c_70 h
          refine lv_iconst (v := 1) hx hb d_Tokens_isName_73 (by decide) ?_
          refine lv_goto (tgt := 78) hx hb d_Tokens_isName_74 (by decide) ?_
          exact hRet _ rfl h _ _ hS _ _ d_Tokens_isName_78
      · replace h := itf c_4 h
        refine lv_lload_n hx hb d_Tokens_isName_7 rfl (lv_at hl 0 rfl) ?_
        refine lv_iload_n hx hb d_Tokens_isName_8 rfl (lv_at hl 2 rfl) ?_
        obtain ⟨v_9, e_9, h⟩ := bd1_some h
        refine P_cpi (va_runSN (As := [.long x0, .int x3]) (rest := []) ⟨hx, hb, hml, hown, hts⟩ (c_LS_byteAt l e_9) ⟨va_cnB 2 hts (gd_C wd_713) rfl rfl rfl hk.2 (hg _ wd_1) ds_LS_byteAt ⟨Nat.le_of_ble_eq_true rfl, Nat.le_of_ble_eq_true rfl⟩, hg _ wd_712, trivial⟩ (P_ps hk) rfl rfl hl.1 rfl (lv_room (Nat.le_of_ble_eq_true rfl)) d_Tokens_isName_9 ⟨Nat.le_of_ble_eq_true rfl, Nat.le_of_ble_eq_true rfl⟩) hS (fun H locs hS => ?_)
        refine lv_istore (lv' := [(4, .int v_9), (0, .long x0), (2, .int x2), (3, .int x3)]) hx hb d_Tokens_isName_12 hl (by decide) rfl (fun ls hl => ?_)
        refine lv_iload_n hx hb d_Tokens_isName_14 rfl (lv_at hl 3 rfl) ?_
        refine lv_iload_n hx hb d_Tokens_isName_15 rfl (lv_at hl 2 rfl) ?_
        refine lv_iconst (v := 1) hx hb d_Tokens_isName_16 (by decide) ?_
        refine lv_isub hx hb d_Tokens_isName_17 ?_
        refine lv_icmp_ne (tgt := 25) hx hb d_Tokens_isName_18 (by decide) (fun c_18 => ?_) (fun c_18 => ?_)
        · replace h := itf c_18 h
          refine lv_iconst (v := 0) hx hb d_Tokens_isName_25 (by decide) ?_
          exact J_26 _ ih _ _ _ h _ _ hS ls (lv_sub hl [1, 2, 3, 0] rfl)
        · replace h := itp c_18 h
          refine lv_iconst (v := 1) hx hb d_Tokens_isName_21 (by decide) ?_
          refine lv_goto (tgt := 26) hx hb d_Tokens_isName_22 (by decide) ?_
          exact J_26 _ ih _ _ _ h _ _ hS ls (lv_sub hl [1, 2, 3, 0] rfl)
  refine lv_iconst (v := 0) hx hb d_Tokens_isName_0 (by decide) ?_
  refine lv_istore_n (lv' := [(3, .int 0), (0, .long x0), (2, .int x2)]) hx hb d_Tokens_isName_1 rfl hl (by decide) rfl (fun ls hl => ?_)
  exact L_2  FU _ h _ _ hS ls (lv_sub hl [1, 2, 0] rfl)
def p_Tokens_isSign (x0 : Int32) : Option Int32 :=
  (if x0 = 40 then
      some 1
    else (if x0 = 41 then
      some 1
    else (if x0 = 43 then
      some 1
    else (if x0 = 44 then
      some 1
    else (if x0 = 46 then
      some 1
    else (if x0 = 59 then
      some 1
    else (if x0 = 61 then
      some 1
    else (if x0 = 123 then
      some 1
    else (if x0 = 125 then
      some 1
    else some 0)))))))))
abbrev w_Tokens_isSign : List Cond := Cond.code y_Tokens_isSign b_Tokens_isSign 1 (some .boolean) :: Tg
abbrev r_Tokens_isSign : Room := { frames := 0, cells := 0, slots := 0, locals := 0 }
theorem ds_Tokens_isSign : y_Tokens_isSign.cls ≠ "java/lang/invoke/MethodHandle" ∧ y_Tokens_isSign.cls ≠ "java/lang/invoke/VarHandle" ∧ (parseMethodDescriptor y_Tokens_isSign.desc).map (fun d => d.parameters.length) = some 1 := by decide +kernel
set_option maxHeartbeats 4000000 in
set_option maxRecDepth 100000 in
theorem c_Tokens_isSign (l : Launch) {x0 : Int32} {rr : Int32} (h : p_Tokens_isSign x0 = some rr) : Met l y_Tokens_isSign w_Tokens_isSign r_Tokens_isSign (va_Pc [.int x0] KN) (PQi rr) 0 0 PF := by
  refine Met.ofW (cc := b_Tokens_isSign) (maxL := 1) (ret := (some .boolean)) (by decide) rfl ?_
  intro p e s m args below meth c s₁ B hml hv
  obtain ⟨rfl, hk⟩ := hv
  have hx := B.exec
  have hb := B.bytes
  have hr := B.returns
  have hts := atoms_spec (ws := w_Tokens_isSign) B.pre
  have hg : ∀ w ∈ Tg, w.before _ s = true := fun w q => hts w (List.mem_cons_of_mem _ q)
  have hown : s.vm.findClass "LanguageServer$Tokens" = some m.cls := findClass_of_methodNamed B.named
  have hlocks := B.notSynchronized
  have hS : va_S (PF) s.heap s.heap [] := va_S.rf
  have hl := lv_entry ([.int x0]) (n := 1) (Nat.le_of_ble_eq_true rfl)
  rw [lg_entry_eq]
  generalize (lg_sl ([.int x0]) ++ List.replicate (1 - (lg_sl ([.int x0])).length) Slot.unset).toArray = ls at hl ⊢
  have hl : lv_has ls 1 [(0, .int x0)] := hl
  generalize hargs : ([.int x0] : List Value).toArray = args at hg hts ⊢
  obtain ⟨Q, hQ⟩ : ∃ Q, Q = MQ below (PQi rr) args s 0 0 (PF) := ⟨_, rfl⟩
  rw [← hQ]
  have hRet : ∀ (v : Int32), (narrow .boolean (.int v) = .int v) → some v = some rr → ∀ (H : Heap) (locs : List Loc), va_S (PF) s.heap H locs → ∀ (pc : Nat) (ls : Array Slot), decode b_Tokens_isSign pc = .ok (.ireturn, 1) → W p l e (headSpec w_Tokens_isSign r_Tokens_isSign).room s m args below meth c H locs 0 0 Q (F0 m pc ls [.int v]) := by
    intro v hn h H locs hS pc ls hd
    cases h
    subst hQ
    exact W.zret hx hb hr hn (fun t ht hW => ⟨⟨_, (), rfl, rfl, trivial⟩, hS.F ht⟩) hS.2.2 hd
  clear hQ
  unfold p_Tokens_isSign at h
  refine lv_iload_n hx hb d_Tokens_isSign_0 rfl (lv_at hl 0 rfl) ?_
  by_cases c_1_0 : x0 = 40
  · replace h := itp c_1_0 h
    refine lv_lookup (off := 83) (tgt := 84) hx hb d_Tokens_isSign_1 (by decide) (by rw [c_1_0]; first | done | rfl | decide) (by decide) ?_
    refine lv_iconst (v := 1) hx hb d_Tokens_isSign_84 (by decide) ?_
    exact hRet _ rfl h _ _ hS _ _ d_Tokens_isSign_85
  replace h := itf c_1_0 h
  by_cases c_1_1 : x0 = 41
  · replace h := itp c_1_1 h
    refine lv_lookup (off := 83) (tgt := 84) hx hb d_Tokens_isSign_1 (by decide) (by rw [c_1_1]; first | done | rfl | decide) (by decide) ?_
    refine lv_iconst (v := 1) hx hb d_Tokens_isSign_84 (by decide) ?_
    exact hRet _ rfl h _ _ hS _ _ d_Tokens_isSign_85
  replace h := itf c_1_1 h
  by_cases c_1_2 : x0 = 43
  · replace h := itp c_1_2 h
    refine lv_lookup (off := 83) (tgt := 84) hx hb d_Tokens_isSign_1 (by decide) (by rw [c_1_2]; first | done | rfl | decide) (by decide) ?_
    refine lv_iconst (v := 1) hx hb d_Tokens_isSign_84 (by decide) ?_
    exact hRet _ rfl h _ _ hS _ _ d_Tokens_isSign_85
  replace h := itf c_1_2 h
  by_cases c_1_3 : x0 = 44
  · replace h := itp c_1_3 h
    refine lv_lookup (off := 83) (tgt := 84) hx hb d_Tokens_isSign_1 (by decide) (by rw [c_1_3]; first | done | rfl | decide) (by decide) ?_
    refine lv_iconst (v := 1) hx hb d_Tokens_isSign_84 (by decide) ?_
    exact hRet _ rfl h _ _ hS _ _ d_Tokens_isSign_85
  replace h := itf c_1_3 h
  by_cases c_1_4 : x0 = 46
  · replace h := itp c_1_4 h
    refine lv_lookup (off := 83) (tgt := 84) hx hb d_Tokens_isSign_1 (by decide) (by rw [c_1_4]; first | done | rfl | decide) (by decide) ?_
    refine lv_iconst (v := 1) hx hb d_Tokens_isSign_84 (by decide) ?_
    exact hRet _ rfl h _ _ hS _ _ d_Tokens_isSign_85
  replace h := itf c_1_4 h
  by_cases c_1_5 : x0 = 59
  · replace h := itp c_1_5 h
    refine lv_lookup (off := 83) (tgt := 84) hx hb d_Tokens_isSign_1 (by decide) (by rw [c_1_5]; first | done | rfl | decide) (by decide) ?_
    refine lv_iconst (v := 1) hx hb d_Tokens_isSign_84 (by decide) ?_
    exact hRet _ rfl h _ _ hS _ _ d_Tokens_isSign_85
  replace h := itf c_1_5 h
  by_cases c_1_6 : x0 = 61
  · replace h := itp c_1_6 h
    refine lv_lookup (off := 83) (tgt := 84) hx hb d_Tokens_isSign_1 (by decide) (by rw [c_1_6]; first | done | rfl | decide) (by decide) ?_
    refine lv_iconst (v := 1) hx hb d_Tokens_isSign_84 (by decide) ?_
    exact hRet _ rfl h _ _ hS _ _ d_Tokens_isSign_85
  replace h := itf c_1_6 h
  by_cases c_1_7 : x0 = 123
  · replace h := itp c_1_7 h
    refine lv_lookup (off := 83) (tgt := 84) hx hb d_Tokens_isSign_1 (by decide) (by rw [c_1_7]; first | done | rfl | decide) (by decide) ?_
    refine lv_iconst (v := 1) hx hb d_Tokens_isSign_84 (by decide) ?_
    exact hRet _ rfl h _ _ hS _ _ d_Tokens_isSign_85
  replace h := itf c_1_7 h
  by_cases c_1_8 : x0 = 125
  · replace h := itp c_1_8 h
    refine lv_lookup (off := 83) (tgt := 84) hx hb d_Tokens_isSign_1 (by decide) (by rw [c_1_8]; first | done | rfl | decide) (by decide) ?_
    refine lv_iconst (v := 1) hx hb d_Tokens_isSign_84 (by decide) ?_
    exact hRet _ rfl h _ _ hS _ _ d_Tokens_isSign_85
  replace h := itf c_1_8 h
  refine lv_lookup (off := 85) (tgt := 86) hx hb d_Tokens_isSign_1 (by decide) ((lv_osw c_1_0 rfl).trans ((lv_osw c_1_1 rfl).trans ((lv_osw c_1_2 rfl).trans ((lv_osw c_1_3 rfl).trans ((lv_osw c_1_4 rfl).trans ((lv_osw c_1_5 rfl).trans ((lv_osw c_1_6 rfl).trans ((lv_osw c_1_7 rfl).trans ((lv_osw c_1_8 rfl).trans rfl))))))))) (by decide) ?_
  refine lv_iconst (v := 0) hx hb d_Tokens_isSign_86 (by decide) ?_
  exact hRet _ rfl h _ _ hS _ _ d_Tokens_isSign_87
