def p_Parser_assign (σ : Sto) (x1 : Int32) (x2 : Int32) (x3 : Int32) : Option (Int32 × Sto) :=
  if inR x1 121 then some (x3, sA σ 9 x1.toNatClampNeg x2) else none
abbrev w_Parser_assign : List Cond := Cond.code y_Parser_assign b_Parser_assign 4 (some .int) :: Tg
abbrev r_Parser_assign : Room := { frames := 0, cells := 0, slots := 0, locals := 0 }
theorem dv_Parser_assign : y_Parser_assign.cls = "LanguageServer$Parser" ∧ y_Parser_assign.cls ≠ "java/lang/invoke/MethodHandle" ∧ y_Parser_assign.cls ≠ "java/lang/invoke/VarHandle" ∧ (parseMethodDescriptor y_Parser_assign.desc).map (fun d => d.parameters.length) = some 3 := by decide +kernel
set_option maxHeartbeats 4000000 in
set_option maxRecDepth 100000 in
theorem c_Parser_assign (l : Launch) (K : Kst) (A : Nat → Nat) {σ : Sto} {x1 : Int32} {x2 : Int32} {x3 : Int32} {rr : Int32} {ss : Sto} (h : p_Parser_assign σ x1 x2 x3 = some (rr, ss)) : Met l y_Parser_assign w_Parser_assign r_Parser_assign (va_Pc [.ref (A 18), .int x1, .int x2, .int x3] (RB K A σ)) (RQi K A rr ss) 0 0 (RF A) := by
  refine Met.ofW (cc := b_Parser_assign) (maxL := 4) (ret := (some .int)) (by decide) rfl ?_
  intro p e s m args below meth c s₁ B hml hv
  obtain ⟨rfl, hP, hK, hD⟩ := hv
  have hx := B.exec
  have hb := B.bytes
  have hr := B.returns
  have hts := atoms_spec (ws := w_Parser_assign) B.pre
  have hg : ∀ w ∈ Tg, w.before _ s = true := fun w q => hts w (List.mem_cons_of_mem _ q)
  have hown : s.vm.findClass "LanguageServer$Parser" = some m.cls := findClass_of_methodNamed B.named
  have hlocks := B.notSynchronized
  have hS : va_S (RF A) s.heap s.heap [] := va_S.rf
  have hl := lv_entry ([.ref (A 18), .int x1, .int x2, .int x3]) (n := 4) (Nat.le_of_ble_eq_true rfl)
  rw [lg_entry_eq]
  generalize (lg_sl ([.ref (A 18), .int x1, .int x2, .int x3]) ++ List.replicate (4 - (lg_sl ([.ref (A 18), .int x1, .int x2, .int x3])).length) Slot.unset).toArray = ls at hl ⊢
  have hl : lv_has ls 4 [(0, .ref (A 18)), (1, .int x1), (2, .int x2), (3, .int x3)] := hl
  generalize hargs : ([.ref (A 18), .int x1, .int x2, .int x3] : List Value).toArray = args at hg hts ⊢
  obtain ⟨Q, hQ⟩ : ∃ Q, Q = MQ below (RQi K A rr ss) args s 0 0 (RF A) := ⟨_, rfl⟩
  rw [← hQ]
  have hRet : ∀ (v : Int32) (σ : Sto), some (v, σ) = some (rr, ss) → ∀ (H : Heap) (locs : List Loc), va_P K.1 vwCl (wR K A σ) H → va_D (RF A) (wR K A σ) → va_S (RF A) s.heap H locs → ∀ (pc : Nat) (ls : Array Slot), decode b_Parser_assign pc = .ok (.ireturn, 1) → W p l e (headSpec w_Parser_assign r_Parser_assign).room s m args below meth c H locs 0 0 Q (F0 m pc ls [.int v]) := by
    intro v σ h H locs hP hD hS pc ls hd
    cases h
    subst hQ
    exact W.iret hx hb hr (fun t ht hW => ⟨⟨_, (), rfl, rfl, by rw [ht]; exact hP, RK.warm hW hK, hD⟩, hS.F ht⟩) hS.2.2 hd
  clear hQ
  unfold p_Parser_assign at h
  refine lv_aload_n hx hb d_Parser_assign_0 rfl (lv_at hl 0 rfl) ?_
  refine gf_Parser_19 hx hb hg hown hK hP d_Parser_assign_1 ?_
  refine gf_Parser_107 hx hb hg hown hK hP d_Parser_assign_4 ?_
  refine lv_iload_n hx hb d_Parser_assign_7 rfl (lv_at hl 1 rfl) ?_
  refine lv_iload_n hx hb d_Parser_assign_8 rfl (lv_at hl 2 rfl) ?_
  obtain ⟨i_9, h⟩ := itn h
  refine wa_9 hx hb hK hP hD hS i_9 d_Parser_assign_9 (fun H locs hP hD hS => ?_)
  refine lv_iload_n hx hb d_Parser_assign_10 rfl (lv_at hl 3 rfl) ?_
  exact hRet _ _ h _ _ hP hD hS _ _ d_Parser_assign_11
def p_Parser_name (σ : Sto) (x1 : Int32) (x2 : Int32) (x3 : Int32) (x4 : Int32) : Option (Int32 × Sto) :=
  (if x2 = 1 then
      bd2 (p_Parser_assign σ x1 x3 x4) fun v_10 σ_10 =>
      some (v_10, σ_10)
    else
      some (0, σ))
abbrev w_Parser_name : List Cond := Cond.code y_Parser_name b_Parser_name 5 (some .int) :: Tg
abbrev r_Parser_name : Room := { frames := 1, cells := 0, slots := 0, locals := 23 }
theorem dv_Parser_name : y_Parser_name.cls = "LanguageServer$Parser" ∧ y_Parser_name.cls ≠ "java/lang/invoke/MethodHandle" ∧ y_Parser_name.cls ≠ "java/lang/invoke/VarHandle" ∧ (parseMethodDescriptor y_Parser_name.desc).map (fun d => d.parameters.length) = some 4 := by decide +kernel
set_option maxHeartbeats 4000000 in
set_option maxRecDepth 100000 in
theorem c_Parser_name (l : Launch) (K : Kst) (A : Nat → Nat) {σ : Sto} {x1 : Int32} {x2 : Int32} {x3 : Int32} {x4 : Int32} {rr : Int32} {ss : Sto} (h : p_Parser_name σ x1 x2 x3 x4 = some (rr, ss)) : Met l y_Parser_name w_Parser_name r_Parser_name (va_Pc [.ref (A 18), .int x1, .int x2, .int x3, .int x4] (RB K A σ)) (RQi K A rr ss) 0 0 (RF A) := by
  refine Met.ofW (cc := b_Parser_name) (maxL := 5) (ret := (some .int)) (by decide) rfl ?_
  intro p e s m args below meth c s₁ B hml hv
  obtain ⟨rfl, hP, hK, hD⟩ := hv
  have hx := B.exec
  have hb := B.bytes
  have hr := B.returns
  have hts := atoms_spec (ws := w_Parser_name) B.pre
  have hg : ∀ w ∈ Tg, w.before _ s = true := fun w q => hts w (List.mem_cons_of_mem _ q)
  have hown : s.vm.findClass "LanguageServer$Parser" = some m.cls := findClass_of_methodNamed B.named
  have hlocks := B.notSynchronized
  have hS : va_S (RF A) s.heap s.heap [] := va_S.rf
  have hl := lv_entry ([.ref (A 18), .int x1, .int x2, .int x3, .int x4]) (n := 5) (Nat.le_of_ble_eq_true rfl)
  rw [lg_entry_eq]
  generalize (lg_sl ([.ref (A 18), .int x1, .int x2, .int x3, .int x4]) ++ List.replicate (5 - (lg_sl ([.ref (A 18), .int x1, .int x2, .int x3, .int x4])).length) Slot.unset).toArray = ls at hl ⊢
  have hl : lv_has ls 5 [(0, .ref (A 18)), (1, .int x1), (2, .int x2), (3, .int x3), (4, .int x4)] := hl
  generalize hargs : ([.ref (A 18), .int x1, .int x2, .int x3, .int x4] : List Value).toArray = args at hg hts ⊢
  obtain ⟨Q, hQ⟩ : ∃ Q, Q = MQ below (RQi K A rr ss) args s 0 0 (RF A) := ⟨_, rfl⟩
  rw [← hQ]
  have hRet : ∀ (v : Int32) (σ : Sto), some (v, σ) = some (rr, ss) → ∀ (H : Heap) (locs : List Loc), va_P K.1 vwCl (wR K A σ) H → va_D (RF A) (wR K A σ) → va_S (RF A) s.heap H locs → ∀ (pc : Nat) (ls : Array Slot), decode b_Parser_name pc = .ok (.ireturn, 1) → W p l e (headSpec w_Parser_name r_Parser_name).room s m args below meth c H locs 0 0 Q (F0 m pc ls [.int v]) := by
    intro v σ h H locs hP hD hS pc ls hd
    cases h
    subst hQ
    exact W.iret hx hb hr (fun t ht hW => ⟨⟨_, (), rfl, rfl, by rw [ht]; exact hP, RK.warm hW hK, hD⟩, hS.F ht⟩) hS.2.2 hd
  clear hQ
  unfold p_Parser_name at h
  refine lv_iload_n hx hb d_Parser_name_0 rfl (lv_at hl 2 rfl) ?_
  refine lv_iconst (v := 1) hx hb d_Parser_name_1 (by decide) ?_
  refine lv_icmp_ne (tgt := 16) hx hb d_Parser_name_2 (by decide) (fun c_2 => ?_) (fun c_2 => ?_)
  · replace h := itf c_2 h
    refine lv_iconst (v := 0) hx hb d_Parser_name_16 (by decide) ?_
    exact hRet _ _ h _ _ hP hD hS _ _ d_Parser_name_17
  · replace h := itp c_2 h
    refine lv_aload_n hx hb d_Parser_name_5 rfl (lv_at hl 0 rfl) ?_
    refine lv_iload_n hx hb d_Parser_name_6 rfl (lv_at hl 1 rfl) ?_
    refine lv_iload_n hx hb d_Parser_name_7 rfl (lv_at hl 3 rfl) ?_
    refine lv_iload hx hb d_Parser_name_8 (lv_at hl 4 rfl) ?_
    obtain ⟨v_10, σ_10, e_10, h⟩ := bd2_some h
    refine R_calli (va_runV (As := [.int x1, .int x3, .int x4]) (rest := []) ⟨hx, hb, hml, hown, hts⟩ (c_Parser_assign l K A e_10) (cwV 3 hts (gd_V wd_380 wd_382 wp_4 wd_7 wd_383) rfl rfl rfl dv_Parser_assign ⟨Nat.le_of_ble_eq_true rfl, Nat.le_of_ble_eq_true rfl⟩) (R_pv_18 hK hP hD) rfl rfl hl.1 rfl (lv_room (Nat.le_of_ble_eq_true rfl)) d_Parser_name_10 ⟨Nat.le_of_ble_eq_true rfl, Nat.le_of_ble_eq_true rfl⟩) hS (fun H locs hP hD hS => ?_)
    refine lv_goto (tgt := 17) hx hb d_Parser_name_13 (by decide) ?_
    exact hRet _ _ h _ _ hP hD hS _ _ d_Parser_name_17
def p_Parser_className (σ : Sto) (x1 : Int32) (x2 : Int32) : Option (Int32 × Sto) :=
  (if x2 = 1 then
      bd1 (p_Outline_addClass σ x1) fun σ_10 =>
      bd2 (p_Parser_name σ_10 x1 x2 1 3) fun v_18 σ_18 =>
      some (v_18, σ_18)
    else
      bd2 (p_Parser_name σ x1 x2 1 3) fun v_18 σ_18 =>
      some (v_18, σ_18))
abbrev w_Parser_className : List Cond := Cond.code y_Parser_className b_Parser_className 3 (some .int) :: Tg
abbrev r_Parser_className : Room := { frames := 2, cells := 0, slots := 0, locals := 47 }
theorem dv_Parser_className : y_Parser_className.cls = "LanguageServer$Parser" ∧ y_Parser_className.cls ≠ "java/lang/invoke/MethodHandle" ∧ y_Parser_className.cls ≠ "java/lang/invoke/VarHandle" ∧ (parseMethodDescriptor y_Parser_className.desc).map (fun d => d.parameters.length) = some 2 := by decide +kernel
set_option maxHeartbeats 4000000 in
set_option maxRecDepth 100000 in
theorem c_Parser_className (l : Launch) (K : Kst) (A : Nat → Nat) {σ : Sto} {x1 : Int32} {x2 : Int32} {rr : Int32} {ss : Sto} (h : p_Parser_className σ x1 x2 = some (rr, ss)) : Met l y_Parser_className w_Parser_className r_Parser_className (va_Pc [.ref (A 18), .int x1, .int x2] (RB K A σ)) (RQi K A rr ss) 0 0 (RF A) := by
  refine Met.ofW (cc := b_Parser_className) (maxL := 3) (ret := (some .int)) (by decide) rfl ?_
  intro p e s m args below meth c s₁ B hml hv
  obtain ⟨rfl, hP, hK, hD⟩ := hv
  have hx := B.exec
  have hb := B.bytes
  have hr := B.returns
  have hts := atoms_spec (ws := w_Parser_className) B.pre
  have hg : ∀ w ∈ Tg, w.before _ s = true := fun w q => hts w (List.mem_cons_of_mem _ q)
  have hown : s.vm.findClass "LanguageServer$Parser" = some m.cls := findClass_of_methodNamed B.named
  have hlocks := B.notSynchronized
  have hS : va_S (RF A) s.heap s.heap [] := va_S.rf
  have hl := lv_entry ([.ref (A 18), .int x1, .int x2]) (n := 3) (Nat.le_of_ble_eq_true rfl)
  rw [lg_entry_eq]
  generalize (lg_sl ([.ref (A 18), .int x1, .int x2]) ++ List.replicate (3 - (lg_sl ([.ref (A 18), .int x1, .int x2])).length) Slot.unset).toArray = ls at hl ⊢
  have hl : lv_has ls 3 [(0, .ref (A 18)), (1, .int x1), (2, .int x2)] := hl
  generalize hargs : ([.ref (A 18), .int x1, .int x2] : List Value).toArray = args at hg hts ⊢
  obtain ⟨Q, hQ⟩ : ∃ Q, Q = MQ below (RQi K A rr ss) args s 0 0 (RF A) := ⟨_, rfl⟩
  rw [← hQ]
  have hRet : ∀ (v : Int32) (σ : Sto), some (v, σ) = some (rr, ss) → ∀ (H : Heap) (locs : List Loc), va_P K.1 vwCl (wR K A σ) H → va_D (RF A) (wR K A σ) → va_S (RF A) s.heap H locs → ∀ (pc : Nat) (ls : Array Slot), decode b_Parser_className pc = .ok (.ireturn, 1) → W p l e (headSpec w_Parser_className r_Parser_className).room s m args below meth c H locs 0 0 Q (F0 m pc ls [.int v]) := by
    intro v σ h H locs hP hD hS pc ls hd
    cases h
    subst hQ
    exact W.iret hx hb hr (fun t ht hW => ⟨⟨_, (), rfl, rfl, by rw [ht]; exact hP, RK.warm hW hK, hD⟩, hS.F ht⟩) hS.2.2 hd
  clear hQ
  unfold p_Parser_className at h
  refine lv_iload_n hx hb d_Parser_className_0 rfl (lv_at hl 2 rfl) ?_
  refine lv_iconst (v := 1) hx hb d_Parser_className_1 (by decide) ?_
  refine lv_icmp_ne (tgt := 13) hx hb d_Parser_className_2 (by decide) (fun c_2 => ?_) (fun c_2 => ?_)
  · replace h := itf c_2 h
    refine lv_aload_n hx hb d_Parser_className_13 rfl (lv_at hl 0 rfl) ?_
    refine lv_iload_n hx hb d_Parser_className_14 rfl (lv_at hl 1 rfl) ?_
    refine lv_iload_n hx hb d_Parser_className_15 rfl (lv_at hl 2 rfl) ?_
    refine lv_iconst (v := 1) hx hb d_Parser_className_16 (by decide) ?_
    refine lv_iconst (v := 3) hx hb d_Parser_className_17 (by decide) ?_
    obtain ⟨v_18, σ_18, e_18, h⟩ := bd2_some h
    refine R_calli (va_runV (As := [.int x1, .int x2, .int 1, .int 3]) (rest := []) ⟨hx, hb, hml, hown, hts⟩ (c_Parser_name l K A e_18) (cwV 4 hts (gd_V wd_376 wd_378 wp_3 wd_7 wd_379) rfl rfl rfl dv_Parser_name ⟨Nat.le_of_ble_eq_true rfl, Nat.le_of_ble_eq_true rfl⟩) (R_pv_18 hK hP hD) rfl rfl hl.1 rfl (lv_room (Nat.le_of_ble_eq_true rfl)) d_Parser_className_18 ⟨Nat.le_of_ble_eq_true rfl, Nat.le_of_ble_eq_true rfl⟩) hS (fun H locs hP hD hS => ?_)
    exact hRet _ _ h _ _ hP hD hS _ _ d_Parser_className_21
  · replace h := itp c_2 h
    refine lv_aload_n hx hb d_Parser_className_5 rfl (lv_at hl 0 rfl) ?_
    refine gf_Parser_19 hx hb hg hown hK hP d_Parser_className_6 ?_
    refine lv_iload_n hx hb d_Parser_className_9 rfl (lv_at hl 1 rfl) ?_
    obtain ⟨σ_10, e_10, h⟩ := bd1_some h
    refine R_callv (va_runV (As := [.int x1]) (rest := []) ⟨hx, hb, hml, hown, hts⟩ (c_Outline_addClass l K A e_10) (cwV 1 hts (gd_V wd_372 wd_373 wd_374 wd_5 wd_375) rfl rfl rfl dv_Outline_addClass ⟨Nat.le_of_ble_eq_true rfl, Nat.le_of_ble_eq_true rfl⟩) (R_pv_8 hK hP hD) rfl rfl hl.1 rfl (lv_room (Nat.le_of_ble_eq_true rfl)) d_Parser_className_10 ⟨Nat.le_of_ble_eq_true rfl, Nat.le_of_ble_eq_true rfl⟩) hS (fun H locs hP hD hS => ?_)
    refine lv_aload_n hx hb d_Parser_className_13 rfl (lv_at hl 0 rfl) ?_
    refine lv_iload_n hx hb d_Parser_className_14 rfl (lv_at hl 1 rfl) ?_
    refine lv_iload_n hx hb d_Parser_className_15 rfl (lv_at hl 2 rfl) ?_
    refine lv_iconst (v := 1) hx hb d_Parser_className_16 (by decide) ?_
    refine lv_iconst (v := 3) hx hb d_Parser_className_17 (by decide) ?_
    obtain ⟨v_18, σ_18, e_18, h⟩ := bd2_some h
    refine R_calli (va_runV (As := [.int x1, .int x2, .int 1, .int 3]) (rest := []) ⟨hx, hb, hml, hown, hts⟩ (c_Parser_name l K A e_18) (cwV 4 hts (gd_V wd_376 wd_378 wp_3 wd_7 wd_379) rfl rfl rfl dv_Parser_name ⟨Nat.le_of_ble_eq_true rfl, Nat.le_of_ble_eq_true rfl⟩) (R_pv_18 hK hP hD) rfl rfl hl.1 rfl (lv_room (Nat.le_of_ble_eq_true rfl)) d_Parser_className_18 ⟨Nat.le_of_ble_eq_true rfl, Nat.le_of_ble_eq_true rfl⟩) hS (fun H locs hP hD hS => ?_)
    exact hRet _ _ h _ _ hP hD hS _ _ d_Parser_className_21
def p_Parser_typeName (σ : Sto) (x1 : Int32) (x2 : Int32) (x3 : Int32) : Option (Int32 × Sto) :=
  (if x2 = 5 then
      some (x3, σ)
    else
      (if x2 = 1 then
        bd2 (p_Parser_assign σ x1 7 x3) fun v_17 σ_17 =>
        some (v_17, σ_17)
      else
        some (0, σ)))
abbrev w_Parser_typeName : List Cond := Cond.code y_Parser_typeName b_Parser_typeName 4 (some .int) :: Tg
abbrev r_Parser_typeName : Room := { frames := 1, cells := 0, slots := 0, locals := 23 }
theorem dv_Parser_typeName : y_Parser_typeName.cls = "LanguageServer$Parser" ∧ y_Parser_typeName.cls ≠ "java/lang/invoke/MethodHandle" ∧ y_Parser_typeName.cls ≠ "java/lang/invoke/VarHandle" ∧ (parseMethodDescriptor y_Parser_typeName.desc).map (fun d => d.parameters.length) = some 3 := by decide +kernel
set_option maxHeartbeats 4000000 in
set_option maxRecDepth 100000 in
theorem c_Parser_typeName (l : Launch) (K : Kst) (A : Nat → Nat) {σ : Sto} {x1 : Int32} {x2 : Int32} {x3 : Int32} {rr : Int32} {ss : Sto} (h : p_Parser_typeName σ x1 x2 x3 = some (rr, ss)) : Met l y_Parser_typeName w_Parser_typeName r_Parser_typeName (va_Pc [.ref (A 18), .int x1, .int x2, .int x3] (RB K A σ)) (RQi K A rr ss) 0 0 (RF A) := by
  refine Met.ofW (cc := b_Parser_typeName) (maxL := 4) (ret := (some .int)) (by decide) rfl ?_
  intro p e s m args below meth c s₁ B hml hv
  obtain ⟨rfl, hP, hK, hD⟩ := hv
  have hx := B.exec
  have hb := B.bytes
  have hr := B.returns
  have hts := atoms_spec (ws := w_Parser_typeName) B.pre
  have hg : ∀ w ∈ Tg, w.before _ s = true := fun w q => hts w (List.mem_cons_of_mem _ q)
  have hown : s.vm.findClass "LanguageServer$Parser" = some m.cls := findClass_of_methodNamed B.named
  have hlocks := B.notSynchronized
  have hS : va_S (RF A) s.heap s.heap [] := va_S.rf
  have hl := lv_entry ([.ref (A 18), .int x1, .int x2, .int x3]) (n := 4) (Nat.le_of_ble_eq_true rfl)
  rw [lg_entry_eq]
  generalize (lg_sl ([.ref (A 18), .int x1, .int x2, .int x3]) ++ List.replicate (4 - (lg_sl ([.ref (A 18), .int x1, .int x2, .int x3])).length) Slot.unset).toArray = ls at hl ⊢
  have hl : lv_has ls 4 [(0, .ref (A 18)), (1, .int x1), (2, .int x2), (3, .int x3)] := hl
  generalize hargs : ([.ref (A 18), .int x1, .int x2, .int x3] : List Value).toArray = args at hg hts ⊢
  obtain ⟨Q, hQ⟩ : ∃ Q, Q = MQ below (RQi K A rr ss) args s 0 0 (RF A) := ⟨_, rfl⟩
  rw [← hQ]
  have hRet : ∀ (v : Int32) (σ : Sto), some (v, σ) = some (rr, ss) → ∀ (H : Heap) (locs : List Loc), va_P K.1 vwCl (wR K A σ) H → va_D (RF A) (wR K A σ) → va_S (RF A) s.heap H locs → ∀ (pc : Nat) (ls : Array Slot), decode b_Parser_typeName pc = .ok (.ireturn, 1) → W p l e (headSpec w_Parser_typeName r_Parser_typeName).room s m args below meth c H locs 0 0 Q (F0 m pc ls [.int v]) := by
    intro v σ h H locs hP hD hS pc ls hd
    cases h
    subst hQ
    exact W.iret hx hb hr (fun t ht hW => ⟨⟨_, (), rfl, rfl, by rw [ht]; exact hP, RK.warm hW hK, hD⟩, hS.F ht⟩) hS.2.2 hd
  clear hQ
  unfold p_Parser_typeName at h
  refine lv_iload_n hx hb d_Parser_typeName_0 rfl (lv_at hl 2 rfl) ?_
  refine lv_iconst (v := 5) hx hb d_Parser_typeName_1 (by decide) ?_
  refine lv_icmp_ne (tgt := 7) hx hb d_Parser_typeName_2 (by decide) (fun c_2 => ?_) (fun c_2 => ?_)
  · replace h := itf c_2 h
    refine lv_iload_n hx hb d_Parser_typeName_7 rfl (lv_at hl 2 rfl) ?_
    refine lv_iconst (v := 1) hx hb d_Parser_typeName_8 (by decide) ?_
    refine lv_icmp_ne (tgt := 23) hx hb d_Parser_typeName_9 (by decide) (fun c_9 => ?_) (fun c_9 => ?_)
    · replace h := itf c_9 h
      refine lv_iconst (v := 0) hx hb d_Parser_typeName_23 (by decide) ?_
      exact hRet _ _ h _ _ hP hD hS _ _ d_Parser_typeName_24
    · replace h := itp c_9 h
      refine lv_aload_n hx hb d_Parser_typeName_12 rfl (lv_at hl 0 rfl) ?_
      refine lv_iload_n hx hb d_Parser_typeName_13 rfl (lv_at hl 1 rfl) ?_
      refine lv_bipush (v := 7) hx hb d_Parser_typeName_14 (by decide) ?_
      refine lv_iload_n hx hb d_Parser_typeName_16 rfl (lv_at hl 3 rfl) ?_
      obtain ⟨v_17, σ_17, e_17, h⟩ := bd2_some h
      refine R_calli (va_runV (As := [.int x1, .int 7, .int x3]) (rest := []) ⟨hx, hb, hml, hown, hts⟩ (c_Parser_assign l K A e_17) (cwV 3 hts (gd_V wd_380 wd_382 wp_4 wd_7 wd_383) rfl rfl rfl dv_Parser_assign ⟨Nat.le_of_ble_eq_true rfl, Nat.le_of_ble_eq_true rfl⟩) (R_pv_18 hK hP hD) rfl rfl hl.1 rfl (lv_room (Nat.le_of_ble_eq_true rfl)) d_Parser_typeName_17 ⟨Nat.le_of_ble_eq_true rfl, Nat.le_of_ble_eq_true rfl⟩) hS (fun H locs hP hD hS => ?_)
      refine lv_goto (tgt := 24) hx hb d_Parser_typeName_20 (by decide) ?_
      exact hRet _ _ h _ _ hP hD hS _ _ d_Parser_typeName_24
  · replace h := itp c_2 h
    refine lv_iload_n hx hb d_Parser_typeName_5 rfl (lv_at hl 3 rfl) ?_
    exact hRet _ _ h _ _ hP hD hS _ _ d_Parser_typeName_6
def p_Parser_memberTail (σ : Sto) (x1 : Int32) : Option (Int32 × Sto) :=
  (if x1 = 40 then
      if inR (σ.1 8) 121 then some (9, sA σ 9 ((σ.1 8).toNatClampNeg) 3) else none
    else
      bd1 (p_Parser_only x1 59 6) fun v_11 =>
      some (v_11, σ))
abbrev w_Parser_memberTail : List Cond := Cond.code y_Parser_memberTail b_Parser_memberTail 2 (some .int) :: Tg
abbrev r_Parser_memberTail : Room := { frames := 1, cells := 0, slots := 0, locals := 22 }
theorem dv_Parser_memberTail : y_Parser_memberTail.cls = "LanguageServer$Parser" ∧ y_Parser_memberTail.cls ≠ "java/lang/invoke/MethodHandle" ∧ y_Parser_memberTail.cls ≠ "java/lang/invoke/VarHandle" ∧ (parseMethodDescriptor y_Parser_memberTail.desc).map (fun d => d.parameters.length) = some 1 := by decide +kernel
set_option maxHeartbeats 4000000 in
set_option maxRecDepth 100000 in
theorem c_Parser_memberTail (l : Launch) (K : Kst) (A : Nat → Nat) {σ : Sto} {x1 : Int32} {rr : Int32} {ss : Sto} (h : p_Parser_memberTail σ x1 = some (rr, ss)) : Met l y_Parser_memberTail w_Parser_memberTail r_Parser_memberTail (va_Pc [.ref (A 18), .int x1] (RB K A σ)) (RQi K A rr ss) 0 0 (RF A) := by
  refine Met.ofW (cc := b_Parser_memberTail) (maxL := 2) (ret := (some .int)) (by decide) rfl ?_
  intro p e s m args below meth c s₁ B hml hv
  obtain ⟨rfl, hP, hK, hD⟩ := hv
  have hx := B.exec
  have hb := B.bytes
  have hr := B.returns
  have hts := atoms_spec (ws := w_Parser_memberTail) B.pre
  have hg : ∀ w ∈ Tg, w.before _ s = true := fun w q => hts w (List.mem_cons_of_mem _ q)
  have hown : s.vm.findClass "LanguageServer$Parser" = some m.cls := findClass_of_methodNamed B.named
  have hlocks := B.notSynchronized
  have hS : va_S (RF A) s.heap s.heap [] := va_S.rf
  have hl := lv_entry ([.ref (A 18), .int x1]) (n := 2) (Nat.le_of_ble_eq_true rfl)
  rw [lg_entry_eq]
  generalize (lg_sl ([.ref (A 18), .int x1]) ++ List.replicate (2 - (lg_sl ([.ref (A 18), .int x1])).length) Slot.unset).toArray = ls at hl ⊢
  have hl : lv_has ls 2 [(0, .ref (A 18)), (1, .int x1)] := hl
  generalize hargs : ([.ref (A 18), .int x1] : List Value).toArray = args at hg hts ⊢
  obtain ⟨Q, hQ⟩ : ∃ Q, Q = MQ below (RQi K A rr ss) args s 0 0 (RF A) := ⟨_, rfl⟩
  rw [← hQ]
  have hRet : ∀ (v : Int32) (σ : Sto), some (v, σ) = some (rr, ss) → ∀ (H : Heap) (locs : List Loc), va_P K.1 vwCl (wR K A σ) H → va_D (RF A) (wR K A σ) → va_S (RF A) s.heap H locs → ∀ (pc : Nat) (ls : Array Slot), decode b_Parser_memberTail pc = .ok (.ireturn, 1) → W p l e (headSpec w_Parser_memberTail r_Parser_memberTail).room s m args below meth c H locs 0 0 Q (F0 m pc ls [.int v]) := by
    intro v σ h H locs hP hD hS pc ls hd
    cases h
    subst hQ
    exact W.iret hx hb hr (fun t ht hW => ⟨⟨_, (), rfl, rfl, by rw [ht]; exact hP, RK.warm hW hK, hD⟩, hS.F ht⟩) hS.2.2 hd
  clear hQ
  unfold p_Parser_memberTail at h
  refine lv_iload_n hx hb d_Parser_memberTail_0 rfl (lv_at hl 1 rfl) ?_
  refine lv_bipush (v := 40) hx hb d_Parser_memberTail_1 (by decide) ?_
  refine lv_icmp_eq (tgt := 15) hx hb d_Parser_memberTail_3 (by decide) (fun c_3 => ?_) (fun c_3 => ?_)
  · replace h := itp c_3 h
    refine lv_aload_n hx hb d_Parser_memberTail_15 rfl (lv_at hl 0 rfl) ?_
    refine gf_Parser_19 hx hb hg hown hK hP d_Parser_memberTail_16 ?_
    refine gf_Parser_107 hx hb hg hown hK hP d_Parser_memberTail_19 ?_
    refine lv_aload_n hx hb d_Parser_memberTail_22 rfl (lv_at hl 0 rfl) ?_
    refine gf_Parser_97 hx hb hg hown hK hP d_Parser_memberTail_23 ?_
    refine lv_iconst (v := 3) hx hb d_Parser_memberTail_26 (by decide) ?_
    obtain ⟨i_27, h⟩ := itn h
    refine wa_9 hx hb hK hP hD hS i_27 d_Parser_memberTail_27 (fun H locs hP hD hS => ?_)
    refine lv_bipush (v := 9) hx hb d_Parser_memberTail_28 (by decide) ?_
    exact hRet _ _ h _ _ hP hD hS _ _ d_Parser_memberTail_30
  · replace h := itf c_3 h
    refine lv_iload_n hx hb d_Parser_memberTail_6 rfl (lv_at hl 1 rfl) ?_
    refine lv_bipush (v := 59) hx hb d_Parser_memberTail_7 (by decide) ?_
    refine lv_bipush (v := 6) hx hb d_Parser_memberTail_9 (by decide) ?_
    obtain ⟨v_11, e_11, h⟩ := bd1_some h
    refine R_cpi (va_runS (As := [.int x1, .int 59, .int 6]) (rest := []) ⟨hx, hb, hml, hown, hts⟩ (c_Parser_only l e_11) (va_cwS 3 hts (gd_S wd_384 wd_385 wd_7 wd_386) rfl rfl rfl ds_Parser_only ⟨Nat.le_of_ble_eq_true rfl, Nat.le_of_ble_eq_true rfl⟩) (P_ps hK.2) rfl rfl hl.1 rfl (lv_room (Nat.le_of_ble_eq_true rfl)) d_Parser_memberTail_11 ⟨Nat.le_of_ble_eq_true rfl, Nat.le_of_ble_eq_true rfl⟩) hP hD hS (fun H locs hP hD hS => ?_)
    exact hRet _ _ h _ _ hP hD hS _ _ d_Parser_memberTail_14
def p_Parser_nextInClass (σ : Sto) (x1 : Int32) (x2 : Int32) : Option (Int32 × Sto) :=
  (if (σ.1 7) = 1 then
      (if x2 = 3 then
        some (2, σ)
      else
        some (0, σ))
    else (if (σ.1 7) = 2 then
      bd2 (p_Parser_className σ x1 x2) fun v_62 σ_62 =>
      some (v_62, σ_62)
    else (if (σ.1 7) = 3 then
      (if x2 = 4 then
        some (4, σ)
      else
        bd1 (p_Parser_only x2 123 6) fun v_80 =>
        some (v_80, σ))
    else (if (σ.1 7) = 4 then
      bd2 (p_Parser_name σ x1 x2 6 5) fun v_90 σ_90 =>
      some (v_90, σ_90)
    else (if (σ.1 7) = 5 then
      bd1 (p_Parser_only x2 123 6) fun v_99 =>
      some (v_99, σ)
    else (if (σ.1 7) = 6 then
      (if x2 = 125 then
        some (1, σ)
      else
        bd2 (p_Parser_typeName σ x1 x2 7) fun v_118 σ_118 =>
        some (v_118, σ_118))
    else (if (σ.1 7) = 7 then
      bd2 (p_Parser_name (sS σ 8 x1) x1 x2 2 8) fun v_133 σ_133 =>
      some (v_133, σ_133)
    else bd2 (p_Parser_memberTail σ x2) fun v_139 σ_139 =>
      some (v_139, σ_139))))))))
abbrev w_Parser_nextInClass : List Cond := Cond.code y_Parser_nextInClass b_Parser_nextInClass 3 (some .int) :: Tg
abbrev r_Parser_nextInClass : Room := { frames := 3, cells := 0, slots := 0, locals := 69 }
theorem dv_Parser_nextInClass : y_Parser_nextInClass.cls = "LanguageServer$Parser" ∧ y_Parser_nextInClass.cls ≠ "java/lang/invoke/MethodHandle" ∧ y_Parser_nextInClass.cls ≠ "java/lang/invoke/VarHandle" ∧ (parseMethodDescriptor y_Parser_nextInClass.desc).map (fun d => d.parameters.length) = some 2 := by decide +kernel
set_option maxHeartbeats 4000000 in
set_option maxRecDepth 100000 in
theorem c_Parser_nextInClass (l : Launch) (K : Kst) (A : Nat → Nat) {σ : Sto} {x1 : Int32} {x2 : Int32} {rr : Int32} {ss : Sto} (h : p_Parser_nextInClass σ x1 x2 = some (rr, ss)) : Met l y_Parser_nextInClass w_Parser_nextInClass r_Parser_nextInClass (va_Pc [.ref (A 18), .int x1, .int x2] (RB K A σ)) (RQi K A rr ss) 0 0 (RF A) := by
  refine Met.ofW (cc := b_Parser_nextInClass) (maxL := 3) (ret := (some .int)) (by decide) rfl ?_
  intro p e s m args below meth c s₁ B hml hv
  obtain ⟨rfl, hP, hK, hD⟩ := hv
  have hx := B.exec
  have hb := B.bytes
  have hr := B.returns
  have hts := atoms_spec (ws := w_Parser_nextInClass) B.pre
  have hg : ∀ w ∈ Tg, w.before _ s = true := fun w q => hts w (List.mem_cons_of_mem _ q)
  have hown : s.vm.findClass "LanguageServer$Parser" = some m.cls := findClass_of_methodNamed B.named
  have hlocks := B.notSynchronized
  have hS : va_S (RF A) s.heap s.heap [] := va_S.rf
  have hl := lv_entry ([.ref (A 18), .int x1, .int x2]) (n := 3) (Nat.le_of_ble_eq_true rfl)
  rw [lg_entry_eq]
  generalize (lg_sl ([.ref (A 18), .int x1, .int x2]) ++ List.replicate (3 - (lg_sl ([.ref (A 18), .int x1, .int x2])).length) Slot.unset).toArray = ls at hl ⊢
  have hl : lv_has ls 3 [(0, .ref (A 18)), (1, .int x1), (2, .int x2)] := hl
  generalize hargs : ([.ref (A 18), .int x1, .int x2] : List Value).toArray = args at hg hts ⊢
  obtain ⟨Q, hQ⟩ : ∃ Q, Q = MQ below (RQi K A rr ss) args s 0 0 (RF A) := ⟨_, rfl⟩
  rw [← hQ]
  have hRet : ∀ (v : Int32) (σ : Sto), some (v, σ) = some (rr, ss) → ∀ (H : Heap) (locs : List Loc), va_P K.1 vwCl (wR K A σ) H → va_D (RF A) (wR K A σ) → va_S (RF A) s.heap H locs → ∀ (pc : Nat) (ls : Array Slot), decode b_Parser_nextInClass pc = .ok (.ireturn, 1) → W p l e (headSpec w_Parser_nextInClass r_Parser_nextInClass).room s m args below meth c H locs 0 0 Q (F0 m pc ls [.int v]) := by
    intro v σ h H locs hP hD hS pc ls hd
    cases h
    subst hQ
    exact W.iret hx hb hr (fun t ht hW => ⟨⟨_, (), rfl, rfl, by rw [ht]; exact hP, RK.warm hW hK, hD⟩, hS.F ht⟩) hS.2.2 hd
  clear hQ
  unfold p_Parser_nextInClass at h
  refine lv_aload_n hx hb d_Parser_nextInClass_0 rfl (lv_at hl 0 rfl) ?_
  refine gf_Parser_39 hx hb hg hown hK hP d_Parser_nextInClass_1 ?_
  by_cases c_4_0 : (σ.1 7) = 1
  · replace h := itp c_4_0 h
    refine lv_tableIn (off := 44) (tgt := 48) hx hb d_Parser_nextInClass_4 (by rw [c_4_0]; decide) (by rw [c_4_0]; decide) (by rw [c_4_0]; first | done | rfl | decide) (by decide) ?_
    refine lv_iload_n hx hb d_Parser_nextInClass_48 rfl (lv_at hl 2 rfl) ?_
    refine lv_iconst (v := 3) hx hb d_Parser_nextInClass_49 (by decide) ?_
    refine lv_icmp_ne (tgt := 57) hx hb d_Parser_nextInClass_50 (by decide) (fun c_50 => ?_) (fun c_50 => ?_)
    · replace h := itf c_50 h
      refine lv_iconst (v := 0) hx hb d_Parser_nextInClass_57 (by decide) ?_
      exact hRet _ _ h _ _ hP hD hS _ _ d_Parser_nextInClass_58
    · replace h := itp c_50 h
      refine lv_iconst (v := 2) hx hb d_Parser_nextInClass_53 (by decide) ?_
      refine lv_goto (tgt := 58) hx hb d_Parser_nextInClass_54 (by decide) ?_
      exact hRet _ _ h _ _ hP hD hS _ _ d_Parser_nextInClass_58
  replace h := itf c_4_0 h
  by_cases c_4_1 : (σ.1 7) = 2
  · replace h := itp c_4_1 h
    refine lv_tableIn (off := 55) (tgt := 59) hx hb d_Parser_nextInClass_4 (by rw [c_4_1]; decide) (by rw [c_4_1]; decide) (by rw [c_4_1]; first | done | rfl | decide) (by decide) ?_
    refine lv_aload_n hx hb d_Parser_nextInClass_59 rfl (lv_at hl 0 rfl) ?_
    refine lv_iload_n hx hb d_Parser_nextInClass_60 rfl (lv_at hl 1 rfl) ?_
    refine lv_iload_n hx hb d_Parser_nextInClass_61 rfl (lv_at hl 2 rfl) ?_
    obtain ⟨v_62, σ_62, e_62, h⟩ := bd2_some h
    refine R_calli (va_runV (As := [.int x1, .int x2]) (rest := []) ⟨hx, hb, hml, hown, hts⟩ (c_Parser_className l K A e_62) (cwV 2 hts (gd_V wd_368 wd_370 wp_2 wd_7 wd_371) rfl rfl rfl dv_Parser_className ⟨Nat.le_of_ble_eq_true rfl, Nat.le_of_ble_eq_true rfl⟩) (R_pv_18 hK hP hD) rfl rfl hl.1 rfl (lv_room (Nat.le_of_ble_eq_true rfl)) d_Parser_nextInClass_62 ⟨Nat.le_of_ble_eq_true rfl, Nat.le_of_ble_eq_true rfl⟩) hS (fun H locs hP hD hS => ?_)
    exact hRet _ _ h _ _ hP hD hS _ _ d_Parser_nextInClass_65
  replace h := itf c_4_1 h
  by_cases c_4_2 : (σ.1 7) = 3
  · replace h := itp c_4_2 h
    refine lv_tableIn (off := 62) (tgt := 66) hx hb d_Parser_nextInClass_4 (by rw [c_4_2]; decide) (by rw [c_4_2]; decide) (by rw [c_4_2]; first | done | rfl | decide) (by decide) ?_
    refine lv_iload_n hx hb d_Parser_nextInClass_66 rfl (lv_at hl 2 rfl) ?_
    refine lv_iconst (v := 4) hx hb d_Parser_nextInClass_67 (by decide) ?_
    refine lv_icmp_ne (tgt := 75) hx hb d_Parser_nextInClass_68 (by decide) (fun c_68 => ?_) (fun c_68 => ?_)
    · replace h := itf c_68 h
      refine lv_iload_n hx hb d_Parser_nextInClass_75 rfl (lv_at hl 2 rfl) ?_
      refine lv_bipush (v := 123) hx hb d_Parser_nextInClass_76 (by decide) ?_
      refine lv_bipush (v := 6) hx hb d_Parser_nextInClass_78 (by decide) ?_
      obtain ⟨v_80, e_80, h⟩ := bd1_some h
      refine R_cpi (va_runS (As := [.int x2, .int 123, .int 6]) (rest := []) ⟨hx, hb, hml, hown, hts⟩ (c_Parser_only l e_80) (va_cwS 3 hts (gd_S wd_384 wd_385 wd_7 wd_386) rfl rfl rfl ds_Parser_only ⟨Nat.le_of_ble_eq_true rfl, Nat.le_of_ble_eq_true rfl⟩) (P_ps hK.2) rfl rfl hl.1 rfl (lv_room (Nat.le_of_ble_eq_true rfl)) d_Parser_nextInClass_80 ⟨Nat.le_of_ble_eq_true rfl, Nat.le_of_ble_eq_true rfl⟩) hP hD hS (fun H locs hP hD hS => ?_)
      exact hRet _ _ h _ _ hP hD hS _ _ d_Parser_nextInClass_83
    · replace h := itp c_68 h
      refine lv_iconst (v := 4) hx hb d_Parser_nextInClass_71 (by decide) ?_
      refine lv_goto (tgt := 83) hx hb d_Parser_nextInClass_72 (by decide) ?_
      exact hRet _ _ h _ _ hP hD hS _ _ d_Parser_nextInClass_83
  replace h := itf c_4_2 h
  by_cases c_4_3 : (σ.1 7) = 4
  · replace h := itp c_4_3 h
    refine lv_tableIn (off := 80) (tgt := 84) hx hb d_Parser_nextInClass_4 (by rw [c_4_3]; decide) (by rw [c_4_3]; decide) (by rw [c_4_3]; first | done | rfl | decide) (by decide) ?_
    refine lv_aload_n hx hb d_Parser_nextInClass_84 rfl (lv_at hl 0 rfl) ?_
    refine lv_iload_n hx hb d_Parser_nextInClass_85 rfl (lv_at hl 1 rfl) ?_
    refine lv_iload_n hx hb d_Parser_nextInClass_86 rfl (lv_at hl 2 rfl) ?_
    refine lv_bipush (v := 6) hx hb d_Parser_nextInClass_87 (by decide) ?_
    refine lv_iconst (v := 5) hx hb d_Parser_nextInClass_89 (by decide) ?_
    obtain ⟨v_90, σ_90, e_90, h⟩ := bd2_some h
    refine R_calli (va_runV (As := [.int x1, .int x2, .int 6, .int 5]) (rest := []) ⟨hx, hb, hml, hown, hts⟩ (c_Parser_name l K A e_90) (cwV 4 hts (gd_V wd_376 wd_378 wp_3 wd_7 wd_379) rfl rfl rfl dv_Parser_name ⟨Nat.le_of_ble_eq_true rfl, Nat.le_of_ble_eq_true rfl⟩) (R_pv_18 hK hP hD) rfl rfl hl.1 rfl (lv_room (Nat.le_of_ble_eq_true rfl)) d_Parser_nextInClass_90 ⟨Nat.le_of_ble_eq_true rfl, Nat.le_of_ble_eq_true rfl⟩) hS (fun H locs hP hD hS => ?_)
    exact hRet _ _ h _ _ hP hD hS _ _ d_Parser_nextInClass_93
  replace h := itf c_4_3 h
  by_cases c_4_4 : (σ.1 7) = 5
  · replace h := itp c_4_4 h
    refine lv_tableIn (off := 90) (tgt := 94) hx hb d_Parser_nextInClass_4 (by rw [c_4_4]; decide) (by rw [c_4_4]; decide) (by rw [c_4_4]; first | done | rfl | decide) (by decide) ?_
    refine lv_iload_n hx hb d_Parser_nextInClass_94 rfl (lv_at hl 2 rfl) ?_
    refine lv_bipush (v := 123) hx hb d_Parser_nextInClass_95 (by decide) ?_
    refine lv_bipush (v := 6) hx hb d_Parser_nextInClass_97 (by decide) ?_
    obtain ⟨v_99, e_99, h⟩ := bd1_some h
    refine R_cpi (va_runS (As := [.int x2, .int 123, .int 6]) (rest := []) ⟨hx, hb, hml, hown, hts⟩ (c_Parser_only l e_99) (va_cwS 3 hts (gd_S wd_384 wd_385 wd_7 wd_386) rfl rfl rfl ds_Parser_only ⟨Nat.le_of_ble_eq_true rfl, Nat.le_of_ble_eq_true rfl⟩) (P_ps hK.2) rfl rfl hl.1 rfl (lv_room (Nat.le_of_ble_eq_true rfl)) d_Parser_nextInClass_99 ⟨Nat.le_of_ble_eq_true rfl, Nat.le_of_ble_eq_true rfl⟩) hP hD hS (fun H locs hP hD hS => ?_)
    exact hRet _ _ h _ _ hP hD hS _ _ d_Parser_nextInClass_102
  replace h := itf c_4_4 h
  by_cases c_4_5 : (σ.1 7) = 6
  · replace h := itp c_4_5 h
    refine lv_tableIn (off := 99) (tgt := 103) hx hb d_Parser_nextInClass_4 (by rw [c_4_5]; decide) (by rw [c_4_5]; decide) (by rw [c_4_5]; first | done | rfl | decide) (by decide) ?_
    refine lv_iload_n hx hb d_Parser_nextInClass_103 rfl (lv_at hl 2 rfl) ?_
    refine lv_bipush (v := 125) hx hb d_Parser_nextInClass_104 (by decide) ?_
    refine lv_icmp_ne (tgt := 113) hx hb d_Parser_nextInClass_106 (by decide) (fun c_106 => ?_) (fun c_106 => ?_)
    · replace h := itf c_106 h
      refine lv_aload_n hx hb d_Parser_nextInClass_113 rfl (lv_at hl 0 rfl) ?_
      refine lv_iload_n hx hb d_Parser_nextInClass_114 rfl (lv_at hl 1 rfl) ?_
      refine lv_iload_n hx hb d_Parser_nextInClass_115 rfl (lv_at hl 2 rfl) ?_
      refine lv_bipush (v := 7) hx hb d_Parser_nextInClass_116 (by decide) ?_
      obtain ⟨v_118, σ_118, e_118, h⟩ := bd2_some h
      refine R_calli (va_runV (As := [.int x1, .int x2, .int 7]) (rest := []) ⟨hx, hb, hml, hown, hts⟩ (c_Parser_typeName l K A e_118) (cwV 3 hts (gd_V wd_387 wd_389 wp_5 wd_7 wd_390) rfl rfl rfl dv_Parser_typeName ⟨Nat.le_of_ble_eq_true rfl, Nat.le_of_ble_eq_true rfl⟩) (R_pv_18 hK hP hD) rfl rfl hl.1 rfl (lv_room (Nat.le_of_ble_eq_true rfl)) d_Parser_nextInClass_118 ⟨Nat.le_of_ble_eq_true rfl, Nat.le_of_ble_eq_true rfl⟩) hS (fun H locs hP hD hS => ?_)
      exact hRet _ _ h _ _ hP hD hS _ _ d_Parser_nextInClass_121
    · replace h := itp c_106 h
      refine lv_iconst (v := 1) hx hb d_Parser_nextInClass_109 (by decide) ?_
      refine lv_goto (tgt := 121) hx hb d_Parser_nextInClass_110 (by decide) ?_
      exact hRet _ _ h _ _ hP hD hS _ _ d_Parser_nextInClass_121
  replace h := itf c_4_5 h
  by_cases c_4_6 : (σ.1 7) = 7
  · replace h := itp c_4_6 h
    refine lv_tableIn (off := 118) (tgt := 122) hx hb d_Parser_nextInClass_4 (by rw [c_4_6]; decide) (by rw [c_4_6]; decide) (by rw [c_4_6]; first | done | rfl | decide) (by decide) ?_
    refine lv_aload_n hx hb d_Parser_nextInClass_122 rfl (lv_at hl 0 rfl) ?_
    refine lv_iload_n hx hb d_Parser_nextInClass_123 rfl (lv_at hl 1 rfl) ?_
    refine pf_Parser_97 hx hb hg hown hK hP hD hS d_Parser_nextInClass_124 (fun H locs hP hD hS => ?_)
    refine lv_aload_n hx hb d_Parser_nextInClass_127 rfl (lv_at hl 0 rfl) ?_
    refine lv_iload_n hx hb d_Parser_nextInClass_128 rfl (lv_at hl 1 rfl) ?_
    refine lv_iload_n hx hb d_Parser_nextInClass_129 rfl (lv_at hl 2 rfl) ?_
    refine lv_iconst (v := 2) hx hb d_Parser_nextInClass_130 (by decide) ?_
    refine lv_bipush (v := 8) hx hb d_Parser_nextInClass_131 (by decide) ?_
    obtain ⟨v_133, σ_133, e_133, h⟩ := bd2_some h
    refine R_calli (va_runV (As := [.int x1, .int x2, .int 2, .int 8]) (rest := []) ⟨hx, hb, hml, hown, hts⟩ (c_Parser_name l K A e_133) (cwV 4 hts (gd_V wd_376 wd_378 wp_3 wd_7 wd_379) rfl rfl rfl dv_Parser_name ⟨Nat.le_of_ble_eq_true rfl, Nat.le_of_ble_eq_true rfl⟩) (R_pv_18 hK hP hD) rfl rfl hl.1 rfl (lv_room (Nat.le_of_ble_eq_true rfl)) d_Parser_nextInClass_133 ⟨Nat.le_of_ble_eq_true rfl, Nat.le_of_ble_eq_true rfl⟩) hS (fun H locs hP hD hS => ?_)
    exact hRet _ _ h _ _ hP hD hS _ _ d_Parser_nextInClass_136
  replace h := itf c_4_6 h
  have n_0 := lv_neT c_4_0 (a := 1) rfl
  have n_1 := lv_neT c_4_1 (a := 2) rfl
  have n_2 := lv_neT c_4_2 (a := 3) rfl
  have n_3 := lv_neT c_4_3 (a := 4) rfl
  have n_4 := lv_neT c_4_4 (a := 5) rfl
  have n_5 := lv_neT c_4_5 (a := 6) rfl
  have n_6 := lv_neT c_4_6 (a := 7) rfl
  refine lv_tableOut (tgt := 137) hx hb d_Parser_nextInClass_4 (by omega) (by decide) ?_
  refine lv_aload_n hx hb d_Parser_nextInClass_137 rfl (lv_at hl 0 rfl) ?_
  refine lv_iload_n hx hb d_Parser_nextInClass_138 rfl (lv_at hl 2 rfl) ?_
  obtain ⟨v_139, σ_139, e_139, h⟩ := bd2_some h
  refine R_calli (va_runV (As := [.int x2]) (rest := []) ⟨hx, hb, hml, hown, hts⟩ (c_Parser_memberTail l K A e_139) (cwV 1 hts (gd_V wd_391 wd_393 wp_6 wd_7 wd_394) rfl rfl rfl dv_Parser_memberTail ⟨Nat.le_of_ble_eq_true rfl, Nat.le_of_ble_eq_true rfl⟩) (R_pv_18 hK hP hD) rfl rfl hl.1 rfl (lv_room (Nat.le_of_ble_eq_true rfl)) d_Parser_nextInClass_139 ⟨Nat.le_of_ble_eq_true rfl, Nat.le_of_ble_eq_true rfl⟩) hS (fun H locs hP hD hS => ?_)
  exact hRet _ _ h _ _ hP hD hS _ _ d_Parser_nextInClass_142
def p_Parser_nextInHead (σ : Sto) (x1 : Int32) (x2 : Int32) : Option (Int32 × Sto) :=
  (if (σ.1 7) = 9 then
      (if x2 = 41 then
        some (13, σ)
      else
        bd2 (p_Parser_typeName σ x1 x2 11) fun v_52 σ_52 =>
        some (v_52, σ_52))
    else (if (σ.1 7) = 10 then
      bd2 (p_Parser_typeName σ x1 x2 11) fun v_61 σ_61 =>
      some (v_61, σ_61)
    else (if (σ.1 7) = 11 then
      if inR (σ.1 8) 121 then if inR (σ.1 8) 121 then bd2 (p_Parser_name (sA σ 10 ((σ.1 8).toNatClampNeg) ((σ.2.1 10 ((σ.1 8).toNatClampNeg)) + 1)) x1 x2 4 12) fun v_87 σ_87 =>
      some (v_87, σ_87) else none else none
    else (if (σ.1 7) = 12 then
      (if x2 = 44 then
        some (10, σ)
      else
        bd1 (p_Parser_only x2 41 13) fun v_107 =>
        some (v_107, σ))
    else (if x2 = 123 then
        bd2 (p_Parser_assign σ x1 15 14) fun v_123 σ_123 =>
        some (v_123, σ_123)
      else
        some (0, σ))))))
abbrev w_Parser_nextInHead : List Cond := Cond.code y_Parser_nextInHead b_Parser_nextInHead 3 (some .int) :: Tg
abbrev r_Parser_nextInHead : Room := { frames := 2, cells := 0, slots := 0, locals := 47 }
theorem dv_Parser_nextInHead : y_Parser_nextInHead.cls = "LanguageServer$Parser" ∧ y_Parser_nextInHead.cls ≠ "java/lang/invoke/MethodHandle" ∧ y_Parser_nextInHead.cls ≠ "java/lang/invoke/VarHandle" ∧ (parseMethodDescriptor y_Parser_nextInHead.desc).map (fun d => d.parameters.length) = some 2 := by decide +kernel
set_option maxHeartbeats 4000000 in
set_option maxRecDepth 100000 in
theorem c_Parser_nextInHead (l : Launch) (K : Kst) (A : Nat → Nat) {σ : Sto} {x1 : Int32} {x2 : Int32} {rr : Int32} {ss : Sto} (h : p_Parser_nextInHead σ x1 x2 = some (rr, ss)) : Met l y_Parser_nextInHead w_Parser_nextInHead r_Parser_nextInHead (va_Pc [.ref (A 18), .int x1, .int x2] (RB K A σ)) (RQi K A rr ss) 0 0 (RF A) := by
  refine Met.ofW (cc := b_Parser_nextInHead) (maxL := 3) (ret := (some .int)) (by decide) rfl ?_
  intro p e s m args below meth c s₁ B hml hv
  obtain ⟨rfl, hP, hK, hD⟩ := hv
  have hx := B.exec
  have hb := B.bytes
  have hr := B.returns
  have hts := atoms_spec (ws := w_Parser_nextInHead) B.pre
  have hg : ∀ w ∈ Tg, w.before _ s = true := fun w q => hts w (List.mem_cons_of_mem _ q)
  have hown : s.vm.findClass "LanguageServer$Parser" = some m.cls := findClass_of_methodNamed B.named
  have hlocks := B.notSynchronized
  have hS : va_S (RF A) s.heap s.heap [] := va_S.rf
  have hl := lv_entry ([.ref (A 18), .int x1, .int x2]) (n := 3) (Nat.le_of_ble_eq_true rfl)
  rw [lg_entry_eq]
  generalize (lg_sl ([.ref (A 18), .int x1, .int x2]) ++ List.replicate (3 - (lg_sl ([.ref (A 18), .int x1, .int x2])).length) Slot.unset).toArray = ls at hl ⊢
  have hl : lv_has ls 3 [(0, .ref (A 18)), (1, .int x1), (2, .int x2)] := hl
  generalize hargs : ([.ref (A 18), .int x1, .int x2] : List Value).toArray = args at hg hts ⊢
  obtain ⟨Q, hQ⟩ : ∃ Q, Q = MQ below (RQi K A rr ss) args s 0 0 (RF A) := ⟨_, rfl⟩
  rw [← hQ]
  have hRet : ∀ (v : Int32) (σ : Sto), some (v, σ) = some (rr, ss) → ∀ (H : Heap) (locs : List Loc), va_P K.1 vwCl (wR K A σ) H → va_D (RF A) (wR K A σ) → va_S (RF A) s.heap H locs → ∀ (pc : Nat) (ls : Array Slot), decode b_Parser_nextInHead pc = .ok (.ireturn, 1) → W p l e (headSpec w_Parser_nextInHead r_Parser_nextInHead).room s m args below meth c H locs 0 0 Q (F0 m pc ls [.int v]) := by
    intro v σ h H locs hP hD hS pc ls hd
    cases h
    subst hQ
    exact W.iret hx hb hr (fun t ht hW => ⟨⟨_, (), rfl, rfl, by rw [ht]; exact hP, RK.warm hW hK, hD⟩, hS.F ht⟩) hS.2.2 hd
  clear hQ
  unfold p_Parser_nextInHead at h
  refine lv_aload_n hx hb d_Parser_nextInHead_0 rfl (lv_at hl 0 rfl) ?_
  refine gf_Parser_39 hx hb hg hown hK hP d_Parser_nextInHead_1 ?_
  by_cases c_4_0 : (σ.1 7) = 9
  · replace h := itp c_4_0 h
    refine lv_tableIn (off := 32) (tgt := 36) hx hb d_Parser_nextInHead_4 (by rw [c_4_0]; decide) (by rw [c_4_0]; decide) (by rw [c_4_0]; first | done | rfl | decide) (by decide) ?_
    refine lv_iload_n hx hb d_Parser_nextInHead_36 rfl (lv_at hl 2 rfl) ?_
    refine lv_bipush (v := 41) hx hb d_Parser_nextInHead_37 (by decide) ?_
    refine lv_icmp_ne (tgt := 47) hx hb d_Parser_nextInHead_39 (by decide) (fun c_39 => ?_) (fun c_39 => ?_)
    · replace h := itf c_39 h
      refine lv_aload_n hx hb d_Parser_nextInHead_47 rfl (lv_at hl 0 rfl) ?_
      refine lv_iload_n hx hb d_Parser_nextInHead_48 rfl (lv_at hl 1 rfl) ?_
      refine lv_iload_n hx hb d_Parser_nextInHead_49 rfl (lv_at hl 2 rfl) ?_
      refine lv_bipush (v := 11) hx hb d_Parser_nextInHead_50 (by decide) ?_
      obtain ⟨v_52, σ_52, e_52, h⟩ := bd2_some h
      refine R_calli (va_runV (As := [.int x1, .int x2, .int 11]) (rest := []) ⟨hx, hb, hml, hown, hts⟩ (c_Parser_typeName l K A e_52) (cwV 3 hts (gd_V wd_387 wd_389 wp_5 wd_7 wd_390) rfl rfl rfl dv_Parser_typeName ⟨Nat.le_of_ble_eq_true rfl, Nat.le_of_ble_eq_true rfl⟩) (R_pv_18 hK hP hD) rfl rfl hl.1 rfl (lv_room (Nat.le_of_ble_eq_true rfl)) d_Parser_nextInHead_52 ⟨Nat.le_of_ble_eq_true rfl, Nat.le_of_ble_eq_true rfl⟩) hS (fun H locs hP hD hS => ?_)
      exact hRet _ _ h _ _ hP hD hS _ _ d_Parser_nextInHead_55
    · replace h := itp c_39 h
      refine lv_bipush (v := 13) hx hb d_Parser_nextInHead_42 (by decide) ?_
      refine lv_goto (tgt := 55) hx hb d_Parser_nextInHead_44 (by decide) ?_
      exact hRet _ _ h _ _ hP hD hS _ _ d_Parser_nextInHead_55
  replace h := itf c_4_0 h
  by_cases c_4_1 : (σ.1 7) = 10
  · replace h := itp c_4_1 h
    refine lv_tableIn (off := 52) (tgt := 56) hx hb d_Parser_nextInHead_4 (by rw [c_4_1]; decide) (by rw [c_4_1]; decide) (by rw [c_4_1]; first | done | rfl | decide) (by decide) ?_
    refine lv_aload_n hx hb d_Parser_nextInHead_56 rfl (lv_at hl 0 rfl) ?_
    refine lv_iload_n hx hb d_Parser_nextInHead_57 rfl (lv_at hl 1 rfl) ?_
    refine lv_iload_n hx hb d_Parser_nextInHead_58 rfl (lv_at hl 2 rfl) ?_
    refine lv_bipush (v := 11) hx hb d_Parser_nextInHead_59 (by decide) ?_
    obtain ⟨v_61, σ_61, e_61, h⟩ := bd2_some h
    refine R_calli (va_runV (As := [.int x1, .int x2, .int 11]) (rest := []) ⟨hx, hb, hml, hown, hts⟩ (c_Parser_typeName l K A e_61) (cwV 3 hts (gd_V wd_387 wd_389 wp_5 wd_7 wd_390) rfl rfl rfl dv_Parser_typeName ⟨Nat.le_of_ble_eq_true rfl, Nat.le_of_ble_eq_true rfl⟩) (R_pv_18 hK hP hD) rfl rfl hl.1 rfl (lv_room (Nat.le_of_ble_eq_true rfl)) d_Parser_nextInHead_61 ⟨Nat.le_of_ble_eq_true rfl, Nat.le_of_ble_eq_true rfl⟩) hS (fun H locs hP hD hS => ?_)
    exact hRet _ _ h _ _ hP hD hS _ _ d_Parser_nextInHead_64
  replace h := itf c_4_1 h
  by_cases c_4_2 : (σ.1 7) = 11
  · replace h := itp c_4_2 h
    refine lv_tableIn (off := 61) (tgt := 65) hx hb d_Parser_nextInHead_4 (by rw [c_4_2]; decide) (by rw [c_4_2]; decide) (by rw [c_4_2]; first | done | rfl | decide) (by decide) ?_
    refine lv_aload_n hx hb d_Parser_nextInHead_65 rfl (lv_at hl 0 rfl) ?_
    refine gf_Parser_19 hx hb hg hown hK hP d_Parser_nextInHead_66 ?_
    refine gf_Parser_110 hx hb hg hown hK hP d_Parser_nextInHead_69 ?_
    refine lv_aload_n hx hb d_Parser_nextInHead_72 rfl (lv_at hl 0 rfl) ?_
    refine gf_Parser_97 hx hb hg hown hK hP d_Parser_nextInHead_73 ?_
    refine lv_dup2_11 hx hb d_Parser_nextInHead_76 rfl rfl ?_
    obtain ⟨i_77, h⟩ := itn h
    refine ra_10 hx hb hK hP i_77 d_Parser_nextInHead_77 ?_
    refine lv_iconst (v := 1) hx hb d_Parser_nextInHead_78 (by decide) ?_
    refine lv_iadd hx hb d_Parser_nextInHead_79 ?_
    obtain ⟨i_80, h⟩ := itn h
    refine wa_10 hx hb hK hP hD hS i_80 d_Parser_nextInHead_80 (fun H locs hP hD hS => ?_)
    refine lv_aload_n hx hb d_Parser_nextInHead_81 rfl (lv_at hl 0 rfl) ?_
    refine lv_iload_n hx hb d_Parser_nextInHead_82 rfl (lv_at hl 1 rfl) ?_
    refine lv_iload_n hx hb d_Parser_nextInHead_83 rfl (lv_at hl 2 rfl) ?_
    refine lv_iconst (v := 4) hx hb d_Parser_nextInHead_84 (by decide) ?_
    refine lv_bipush (v := 12) hx hb d_Parser_nextInHead_85 (by decide) ?_
    obtain ⟨v_87, σ_87, e_87, h⟩ := bd2_some h
    refine R_calli (va_runV (As := [.int x1, .int x2, .int 4, .int 12]) (rest := []) ⟨hx, hb, hml, hown, hts⟩ (c_Parser_name l K A e_87) (cwV 4 hts (gd_V wd_376 wd_378 wp_3 wd_7 wd_379) rfl rfl rfl dv_Parser_name ⟨Nat.le_of_ble_eq_true rfl, Nat.le_of_ble_eq_true rfl⟩) (R_pv_18 hK hP hD) rfl rfl hl.1 rfl (lv_room (Nat.le_of_ble_eq_true rfl)) d_Parser_nextInHead_87 ⟨Nat.le_of_ble_eq_true rfl, Nat.le_of_ble_eq_true rfl⟩) hS (fun H locs hP hD hS => ?_)
    exact hRet _ _ h _ _ hP hD hS _ _ d_Parser_nextInHead_90
  replace h := itf c_4_2 h
  by_cases c_4_3 : (σ.1 7) = 12
  · replace h := itp c_4_3 h
    refine lv_tableIn (off := 87) (tgt := 91) hx hb d_Parser_nextInHead_4 (by rw [c_4_3]; decide) (by rw [c_4_3]; decide) (by rw [c_4_3]; first | done | rfl | decide) (by decide) ?_
    refine lv_iload_n hx hb d_Parser_nextInHead_91 rfl (lv_at hl 2 rfl) ?_
    refine lv_bipush (v := 44) hx hb d_Parser_nextInHead_92 (by decide) ?_
    refine lv_icmp_ne (tgt := 102) hx hb d_Parser_nextInHead_94 (by decide) (fun c_94 => ?_) (fun c_94 => ?_)
    · replace h := itf c_94 h
      refine lv_iload_n hx hb d_Parser_nextInHead_102 rfl (lv_at hl 2 rfl) ?_
      refine lv_bipush (v := 41) hx hb d_Parser_nextInHead_103 (by decide) ?_
      refine lv_bipush (v := 13) hx hb d_Parser_nextInHead_105 (by decide) ?_
      obtain ⟨v_107, e_107, h⟩ := bd1_some h
      refine R_cpi (va_runS (As := [.int x2, .int 41, .int 13]) (rest := []) ⟨hx, hb, hml, hown, hts⟩ (c_Parser_only l e_107) (va_cwS 3 hts (gd_S wd_384 wd_385 wd_7 wd_386) rfl rfl rfl ds_Parser_only ⟨Nat.le_of_ble_eq_true rfl, Nat.le_of_ble_eq_true rfl⟩) (P_ps hK.2) rfl rfl hl.1 rfl (lv_room (Nat.le_of_ble_eq_true rfl)) d_Parser_nextInHead_107 ⟨Nat.le_of_ble_eq_true rfl, Nat.le_of_ble_eq_true rfl⟩) hP hD hS (fun H locs hP hD hS => ?_)
      exact hRet _ _ h _ _ hP hD hS _ _ d_Parser_nextInHead_110
    · replace h := itp c_94 h
      refine lv_bipush (v := 10) hx hb d_Parser_nextInHead_97 (by decide) ?_
      refine lv_goto (tgt := 110) hx hb d_Parser_nextInHead_99 (by decide) ?_
      exact hRet _ _ h _ _ hP hD hS _ _ d_Parser_nextInHead_110
  replace h := itf c_4_3 h
  have n_0 := lv_neT c_4_0 (a := 9) rfl
  have n_1 := lv_neT c_4_1 (a := 10) rfl
  have n_2 := lv_neT c_4_2 (a := 11) rfl
  have n_3 := lv_neT c_4_3 (a := 12) rfl
  refine lv_tableOut (tgt := 111) hx hb d_Parser_nextInHead_4 (by omega) (by decide) ?_
  refine lv_iload_n hx hb d_Parser_nextInHead_111 rfl (lv_at hl 2 rfl) ?_
  refine lv_bipush (v := 123) hx hb d_Parser_nextInHead_112 (by decide) ?_
  refine lv_icmp_ne (tgt := 129) hx hb d_Parser_nextInHead_114 (by decide) (fun c_114 => ?_) (fun c_114 => ?_)
  · replace h := itf c_114 h
    refine lv_iconst (v := 0) hx hb d_Parser_nextInHead_129 (by decide) ?_
    exact hRet _ _ h _ _ hP hD hS _ _ d_Parser_nextInHead_130
  · replace h := itp c_114 h
    refine lv_aload_n hx hb d_Parser_nextInHead_117 rfl (lv_at hl 0 rfl) ?_
    refine lv_iload_n hx hb d_Parser_nextInHead_118 rfl (lv_at hl 1 rfl) ?_
    refine lv_bipush (v := 15) hx hb d_Parser_nextInHead_119 (by decide) ?_
    refine lv_bipush (v := 14) hx hb d_Parser_nextInHead_121 (by decide) ?_
    obtain ⟨v_123, σ_123, e_123, h⟩ := bd2_some h
    refine R_calli (va_runV (As := [.int x1, .int 15, .int 14]) (rest := []) ⟨hx, hb, hml, hown, hts⟩ (c_Parser_assign l K A e_123) (cwV 3 hts (gd_V wd_380 wd_382 wp_4 wd_7 wd_383) rfl rfl rfl dv_Parser_assign ⟨Nat.le_of_ble_eq_true rfl, Nat.le_of_ble_eq_true rfl⟩) (R_pv_18 hK hP hD) rfl rfl hl.1 rfl (lv_room (Nat.le_of_ble_eq_true rfl)) d_Parser_nextInHead_123 ⟨Nat.le_of_ble_eq_true rfl, Nat.le_of_ble_eq_true rfl⟩) hS (fun H locs hP hD hS => ?_)
    refine lv_goto (tgt := 130) hx hb d_Parser_nextInHead_126 (by decide) ?_
    exact hRet _ _ h _ _ hP hD hS _ _ d_Parser_nextInHead_130
def p_Parser_open (σ : Sto) (x1 : Int32) (x2 : Int32) : Option (Int32 × Sto) :=
  (if (σ.1 6) < 8 then
      if inR (σ.1 6) 8 then some (x2, sS (sA σ 19 ((σ.1 6).toNatClampNeg) x1) 6 (((sA σ 19 ((σ.1 6).toNatClampNeg) x1).1 6) + 1)) else none
    else
      some (0, σ))
abbrev w_Parser_opn : List Cond := Cond.code y_Parser_opn b_Parser_opn 3 (some .int) :: Tg
abbrev r_Parser_opn : Room := { frames := 0, cells := 0, slots := 0, locals := 0 }
theorem dv_Parser_opn : y_Parser_opn.cls = "LanguageServer$Parser" ∧ y_Parser_opn.cls ≠ "java/lang/invoke/MethodHandle" ∧ y_Parser_opn.cls ≠ "java/lang/invoke/VarHandle" ∧ (parseMethodDescriptor y_Parser_opn.desc).map (fun d => d.parameters.length) = some 2 := by decide +kernel
set_option maxHeartbeats 4000000 in
set_option maxRecDepth 100000 in
theorem c_Parser_opn (l : Launch) (K : Kst) (A : Nat → Nat) {σ : Sto} {x1 : Int32} {x2 : Int32} {rr : Int32} {ss : Sto} (h : p_Parser_open σ x1 x2 = some (rr, ss)) : Met l y_Parser_opn w_Parser_opn r_Parser_opn (va_Pc [.ref (A 18), .int x1, .int x2] (RB K A σ)) (RQi K A rr ss) 0 0 (RF A) := by
  refine Met.ofW (cc := b_Parser_opn) (maxL := 3) (ret := (some .int)) (by decide) rfl ?_
  intro p e s m args below meth c s₁ B hml hv
  obtain ⟨rfl, hP, hK, hD⟩ := hv
  have hx := B.exec
  have hb := B.bytes
  have hr := B.returns
  have hts := atoms_spec (ws := w_Parser_opn) B.pre
  have hg : ∀ w ∈ Tg, w.before _ s = true := fun w q => hts w (List.mem_cons_of_mem _ q)
  have hown : s.vm.findClass "LanguageServer$Parser" = some m.cls := findClass_of_methodNamed B.named
  have hlocks := B.notSynchronized
  have hS : va_S (RF A) s.heap s.heap [] := va_S.rf
  have hl := lv_entry ([.ref (A 18), .int x1, .int x2]) (n := 3) (Nat.le_of_ble_eq_true rfl)
  rw [lg_entry_eq]
  generalize (lg_sl ([.ref (A 18), .int x1, .int x2]) ++ List.replicate (3 - (lg_sl ([.ref (A 18), .int x1, .int x2])).length) Slot.unset).toArray = ls at hl ⊢
  have hl : lv_has ls 3 [(0, .ref (A 18)), (1, .int x1), (2, .int x2)] := hl
  generalize hargs : ([.ref (A 18), .int x1, .int x2] : List Value).toArray = args at hg hts ⊢
  obtain ⟨Q, hQ⟩ : ∃ Q, Q = MQ below (RQi K A rr ss) args s 0 0 (RF A) := ⟨_, rfl⟩
  rw [← hQ]
  have hRet : ∀ (v : Int32) (σ : Sto), some (v, σ) = some (rr, ss) → ∀ (H : Heap) (locs : List Loc), va_P K.1 vwCl (wR K A σ) H → va_D (RF A) (wR K A σ) → va_S (RF A) s.heap H locs → ∀ (pc : Nat) (ls : Array Slot), decode b_Parser_opn pc = .ok (.ireturn, 1) → W p l e (headSpec w_Parser_opn r_Parser_opn).room s m args below meth c H locs 0 0 Q (F0 m pc ls [.int v]) := by
    intro v σ h H locs hP hD hS pc ls hd
    cases h
    subst hQ
    exact W.iret hx hb hr (fun t ht hW => ⟨⟨_, (), rfl, rfl, by rw [ht]; exact hP, RK.warm hW hK, hD⟩, hS.F ht⟩) hS.2.2 hd
  clear hQ
  unfold p_Parser_open at h
  refine lv_aload_n hx hb d_Parser_opn_0 rfl (lv_at hl 0 rfl) ?_
  refine gf_Parser_35 hx hb hg hown hK hP d_Parser_opn_1 ?_
  refine lv_bipush (v := 8) hx hb d_Parser_opn_4 (by decide) ?_
  refine lv_icmp_lt (tgt := 11) hx hb d_Parser_opn_6 (by decide) (fun c_6 => ?_) (fun c_6 => ?_)
  · replace h := itp c_6 h
    refine lv_aload_n hx hb d_Parser_opn_11 rfl (lv_at hl 0 rfl) ?_
    refine gf_Parser_9 hx hb hg hown hK hP d_Parser_opn_12 ?_
    refine lv_aload_n hx hb d_Parser_opn_15 rfl (lv_at hl 0 rfl) ?_
    refine gf_Parser_35 hx hb hg hown hK hP d_Parser_opn_16 ?_
    refine lv_iload_n hx hb d_Parser_opn_19 rfl (lv_at hl 1 rfl) ?_
    obtain ⟨i_20, h⟩ := itn h
    refine wa_19 hx hb hK hP hD hS i_20 d_Parser_opn_20 (fun H locs hP hD hS => ?_)
    refine lv_aload_n hx hb d_Parser_opn_21 rfl (lv_at hl 0 rfl) ?_
    refine lv_dup hx hb d_Parser_opn_22 rfl ?_
    refine gf_Parser_35 hx hb hg hown hK hP d_Parser_opn_23 ?_
    refine lv_iconst (v := 1) hx hb d_Parser_opn_26 (by decide) ?_
    refine lv_iadd hx hb d_Parser_opn_27 ?_
    refine pf_Parser_35 hx hb hg hown hK hP hD hS d_Parser_opn_28 (fun H locs hP hD hS => ?_)
    refine lv_iload_n hx hb d_Parser_opn_31 rfl (lv_at hl 2 rfl) ?_
    exact hRet _ _ h _ _ hP hD hS _ _ d_Parser_opn_32
  · replace h := itf c_6 h
    refine lv_iconst (v := 0) hx hb d_Parser_opn_9 (by decide) ?_
    exact hRet _ _ h _ _ hP hD hS _ _ d_Parser_opn_10
def p_Parser_operand (σ : Sto) (x1 : Int32) (x2 : Int32) : Option (Int32 × Sto) :=
  (if x2 = 1 then
      bd2 (p_Parser_assign σ x1 9 20) fun v_58 σ_58 =>
      some (v_58, σ_58)
    else (if x2 = 2 then
      bd2 (p_Parser_assign σ x1 13 22) fun v_68 σ_68 =>
      some (v_68, σ_68)
    else (if x2 = 7 then
      some (18, σ)
    else (if x2 = 8 then
      bd2 (p_Parser_assign σ x1 14 22) fun v_78 σ_78 =>
      some (v_78, σ_78)
    else (if x2 = 40 then
      if inR x1 121 then bd2 (p_Parser_open (sA σ 9 x1.toNatClampNeg 21) (-1) 17) fun v_100 σ_100 =>
      some (v_100, σ_100) else none
    else some (0, σ))))))
abbrev w_Parser_operand : List Cond := Cond.code y_Parser_operand b_Parser_operand 3 (some .int) :: Tg
abbrev r_Parser_operand : Room := { frames := 1, cells := 0, slots := 0, locals := 23 }
theorem dv_Parser_operand : y_Parser_operand.cls = "LanguageServer$Parser" ∧ y_Parser_operand.cls ≠ "java/lang/invoke/MethodHandle" ∧ y_Parser_operand.cls ≠ "java/lang/invoke/VarHandle" ∧ (parseMethodDescriptor y_Parser_operand.desc).map (fun d => d.parameters.length) = some 2 := by decide +kernel
set_option maxHeartbeats 4000000 in
set_option maxRecDepth 100000 in
theorem c_Parser_operand (l : Launch) (K : Kst) (A : Nat → Nat) {σ : Sto} {x1 : Int32} {x2 : Int32} {rr : Int32} {ss : Sto} (h : p_Parser_operand σ x1 x2 = some (rr, ss)) : Met l y_Parser_operand w_Parser_operand r_Parser_operand (va_Pc [.ref (A 18), .int x1, .int x2] (RB K A σ)) (RQi K A rr ss) 0 0 (RF A) := by
  refine Met.ofW (cc := b_Parser_operand) (maxL := 3) (ret := (some .int)) (by decide) rfl ?_
  intro p e s m args below meth c s₁ B hml hv
  obtain ⟨rfl, hP, hK, hD⟩ := hv
  have hx := B.exec
  have hb := B.bytes
  have hr := B.returns
  have hts := atoms_spec (ws := w_Parser_operand) B.pre
  have hg : ∀ w ∈ Tg, w.before _ s = true := fun w q => hts w (List.mem_cons_of_mem _ q)
  have hown : s.vm.findClass "LanguageServer$Parser" = some m.cls := findClass_of_methodNamed B.named
  have hlocks := B.notSynchronized
  have hS : va_S (RF A) s.heap s.heap [] := va_S.rf
  have hl := lv_entry ([.ref (A 18), .int x1, .int x2]) (n := 3) (Nat.le_of_ble_eq_true rfl)
  rw [lg_entry_eq]
  generalize (lg_sl ([.ref (A 18), .int x1, .int x2]) ++ List.replicate (3 - (lg_sl ([.ref (A 18), .int x1, .int x2])).length) Slot.unset).toArray = ls at hl ⊢
  have hl : lv_has ls 3 [(0, .ref (A 18)), (1, .int x1), (2, .int x2)] := hl
  generalize hargs : ([.ref (A 18), .int x1, .int x2] : List Value).toArray = args at hg hts ⊢
  obtain ⟨Q, hQ⟩ : ∃ Q, Q = MQ below (RQi K A rr ss) args s 0 0 (RF A) := ⟨_, rfl⟩
  rw [← hQ]
  have hRet : ∀ (v : Int32) (σ : Sto), some (v, σ) = some (rr, ss) → ∀ (H : Heap) (locs : List Loc), va_P K.1 vwCl (wR K A σ) H → va_D (RF A) (wR K A σ) → va_S (RF A) s.heap H locs → ∀ (pc : Nat) (ls : Array Slot), decode b_Parser_operand pc = .ok (.ireturn, 1) → W p l e (headSpec w_Parser_operand r_Parser_operand).room s m args below meth c H locs 0 0 Q (F0 m pc ls [.int v]) := by
    intro v σ h H locs hP hD hS pc ls hd
    cases h
    subst hQ
    exact W.iret hx hb hr (fun t ht hW => ⟨⟨_, (), rfl, rfl, by rw [ht]; exact hP, RK.warm hW hK, hD⟩, hS.F ht⟩) hS.2.2 hd
  clear hQ
  unfold p_Parser_operand at h
  refine lv_iload_n hx hb d_Parser_operand_0 rfl (lv_at hl 2 rfl) ?_
  by_cases c_1_0 : x2 = 1
  · replace h := itp c_1_0 h
    refine lv_lookup (off := 51) (tgt := 52) hx hb d_Parser_operand_1 (by decide) (by rw [c_1_0]; first | done | rfl | decide) (by decide) ?_
    refine lv_aload_n hx hb d_Parser_operand_52 rfl (lv_at hl 0 rfl) ?_
    refine lv_iload_n hx hb d_Parser_operand_53 rfl (lv_at hl 1 rfl) ?_
    refine lv_bipush (v := 9) hx hb d_Parser_operand_54 (by decide) ?_
    refine lv_bipush (v := 20) hx hb d_Parser_operand_56 (by decide) ?_
    obtain ⟨v_58, σ_58, e_58, h⟩ := bd2_some h
    refine R_calli (va_runV (As := [.int x1, .int 9, .int 20]) (rest := []) ⟨hx, hb, hml, hown, hts⟩ (c_Parser_assign l K A e_58) (cwV 3 hts (gd_V wd_380 wd_382 wp_4 wd_7 wd_383) rfl rfl rfl dv_Parser_assign ⟨Nat.le_of_ble_eq_true rfl, Nat.le_of_ble_eq_true rfl⟩) (R_pv_18 hK hP hD) rfl rfl hl.1 rfl (lv_room (Nat.le_of_ble_eq_true rfl)) d_Parser_operand_58 ⟨Nat.le_of_ble_eq_true rfl, Nat.le_of_ble_eq_true rfl⟩) hS (fun H locs hP hD hS => ?_)
    exact hRet _ _ h _ _ hP hD hS _ _ d_Parser_operand_61
  replace h := itf c_1_0 h
  by_cases c_1_1 : x2 = 2
  · replace h := itp c_1_1 h
    refine lv_lookup (off := 61) (tgt := 62) hx hb d_Parser_operand_1 (by decide) (by rw [c_1_1]; first | done | rfl | decide) (by decide) ?_
    refine lv_aload_n hx hb d_Parser_operand_62 rfl (lv_at hl 0 rfl) ?_
    refine lv_iload_n hx hb d_Parser_operand_63 rfl (lv_at hl 1 rfl) ?_
    refine lv_bipush (v := 13) hx hb d_Parser_operand_64 (by decide) ?_
    refine lv_bipush (v := 22) hx hb d_Parser_operand_66 (by decide) ?_
    obtain ⟨v_68, σ_68, e_68, h⟩ := bd2_some h
    refine R_calli (va_runV (As := [.int x1, .int 13, .int 22]) (rest := []) ⟨hx, hb, hml, hown, hts⟩ (c_Parser_assign l K A e_68) (cwV 3 hts (gd_V wd_380 wd_382 wp_4 wd_7 wd_383) rfl rfl rfl dv_Parser_assign ⟨Nat.le_of_ble_eq_true rfl, Nat.le_of_ble_eq_true rfl⟩) (R_pv_18 hK hP hD) rfl rfl hl.1 rfl (lv_room (Nat.le_of_ble_eq_true rfl)) d_Parser_operand_68 ⟨Nat.le_of_ble_eq_true rfl, Nat.le_of_ble_eq_true rfl⟩) hS (fun H locs hP hD hS => ?_)
    exact hRet _ _ h _ _ hP hD hS _ _ d_Parser_operand_71
  replace h := itf c_1_1 h
  by_cases c_1_2 : x2 = 7
  · replace h := itp c_1_2 h
    refine lv_lookup (off := 81) (tgt := 82) hx hb d_Parser_operand_1 (by decide) (by rw [c_1_2]; first | done | rfl | decide) (by decide) ?_
    refine lv_bipush (v := 18) hx hb d_Parser_operand_82 (by decide) ?_
    exact hRet _ _ h _ _ hP hD hS _ _ d_Parser_operand_84
  replace h := itf c_1_2 h
  by_cases c_1_3 : x2 = 8
  · replace h := itp c_1_3 h
    refine lv_lookup (off := 71) (tgt := 72) hx hb d_Parser_operand_1 (by decide) (by rw [c_1_3]; first | done | rfl | decide) (by decide) ?_
    refine lv_aload_n hx hb d_Parser_operand_72 rfl (lv_at hl 0 rfl) ?_
    refine lv_iload_n hx hb d_Parser_operand_73 rfl (lv_at hl 1 rfl) ?_
    refine lv_bipush (v := 14) hx hb d_Parser_operand_74 (by decide) ?_
    refine lv_bipush (v := 22) hx hb d_Parser_operand_76 (by decide) ?_
    obtain ⟨v_78, σ_78, e_78, h⟩ := bd2_some h
    refine R_calli (va_runV (As := [.int x1, .int 14, .int 22]) (rest := []) ⟨hx, hb, hml, hown, hts⟩ (c_Parser_assign l K A e_78) (cwV 3 hts (gd_V wd_380 wd_382 wp_4 wd_7 wd_383) rfl rfl rfl dv_Parser_assign ⟨Nat.le_of_ble_eq_true rfl, Nat.le_of_ble_eq_true rfl⟩) (R_pv_18 hK hP hD) rfl rfl hl.1 rfl (lv_room (Nat.le_of_ble_eq_true rfl)) d_Parser_operand_78 ⟨Nat.le_of_ble_eq_true rfl, Nat.le_of_ble_eq_true rfl⟩) hS (fun H locs hP hD hS => ?_)
    exact hRet _ _ h _ _ hP hD hS _ _ d_Parser_operand_81
  replace h := itf c_1_3 h
  by_cases c_1_4 : x2 = 40
  · replace h := itp c_1_4 h
    refine lv_lookup (off := 84) (tgt := 85) hx hb d_Parser_operand_1 (by decide) (by rw [c_1_4]; first | done | rfl | decide) (by decide) ?_
    refine lv_aload_n hx hb d_Parser_operand_85 rfl (lv_at hl 0 rfl) ?_
    refine gf_Parser_19 hx hb hg hown hK hP d_Parser_operand_86 ?_
    refine gf_Parser_107 hx hb hg hown hK hP d_Parser_operand_89 ?_
    refine lv_iload_n hx hb d_Parser_operand_92 rfl (lv_at hl 1 rfl) ?_
    refine lv_bipush (v := 21) hx hb d_Parser_operand_93 (by decide) ?_
    obtain ⟨i_95, h⟩ := itn h
    refine wa_9 hx hb hK hP hD hS i_95 d_Parser_operand_95 (fun H locs hP hD hS => ?_)
    refine lv_aload_n hx hb d_Parser_operand_96 rfl (lv_at hl 0 rfl) ?_
    refine lv_iconst (v := (-1)) hx hb d_Parser_operand_97 (by decide) ?_
    refine lv_bipush (v := 17) hx hb d_Parser_operand_98 (by decide) ?_
    obtain ⟨v_100, σ_100, e_100, h⟩ := bd2_some h
    refine R_calli (va_runV (As := [.int (-1), .int 17]) (rest := []) ⟨hx, hb, hml, hown, hts⟩ (c_Parser_opn l K A e_100) (cwV 2 hts (gd_V wd_411 wd_413 wp_11 wd_7 wd_414) rfl rfl rfl dv_Parser_opn ⟨Nat.le_of_ble_eq_true rfl, Nat.le_of_ble_eq_true rfl⟩) (R_pv_18 hK hP hD) rfl rfl hl.1 rfl (lv_room (Nat.le_of_ble_eq_true rfl)) d_Parser_operand_100 ⟨Nat.le_of_ble_eq_true rfl, Nat.le_of_ble_eq_true rfl⟩) hS (fun H locs hP hD hS => ?_)
    exact hRet _ _ h _ _ hP hD hS _ _ d_Parser_operand_103
  replace h := itf c_1_4 h
  refine lv_lookup (off := 103) (tgt := 104) hx hb d_Parser_operand_1 (by decide) ((lv_osw c_1_0 rfl).trans ((lv_osw c_1_1 rfl).trans ((lv_osw c_1_2 rfl).trans ((lv_osw c_1_3 rfl).trans ((lv_osw c_1_4 rfl).trans rfl))))) (by decide) ?_
  refine lv_iconst (v := 0) hx hb d_Parser_operand_104 (by decide) ?_
  exact hRet _ _ h _ _ hP hD hS _ _ d_Parser_operand_105
def p_Parser_statement_b38 (x1 : Int32) (x2 : Int32) (σ : Sto) (s0 : Int32) : Option (Int32 × Sto) :=
  (if x2 = 125 then
      some (6, sS σ 9 0)
    else
      (if x2 = 5 then
        bd2 (p_Parser_typeName (sS σ 9 0) x1 x2 15) fun v_67 σ_67 =>
        some (v_67, σ_67)
      else
        (if s0 = 0 then
          (if x2 = 6 then
            bd2 (p_Parser_assign (sS σ 9 0) x1 16 17) fun v_83 σ_83 =>
            some (v_83, σ_83)
          else
            bd2 (p_Parser_operand (sS (sS σ 9 0) 9 1) x1 x2) fun v_95 σ_95 =>
            some (v_95, σ_95))
        else
          bd2 (p_Parser_typeName (sS σ 9 0) x1 x2 15) fun v_67 σ_67 =>
          some (v_67, σ_67))))
def p_Parser_statement_b37 (x1 : Int32) (x2 : Int32) (σ : Sto) : Option (Int32 × Sto) :=
  p_Parser_statement_b38 x1 x2 σ 0
def p_Parser_statement (σ : Sto) (x1 : Int32) (x2 : Int32) : Option (Int32 × Sto) :=
  (if x2 = 1 then
      (if (σ.1 2) ≤ (x1 + 1) then
        p_Parser_statement_b37 x1 x2 σ
      else
        if inR (x1 + 1) 121 then (if (σ.2.1 6 ((x1 + 1).toNatClampNeg)) = 1 then
          p_Parser_statement_b38 x1 x2 σ 1
        else
          p_Parser_statement_b37 x1 x2 σ) else none)
    else
      p_Parser_statement_b37 x1 x2 σ)
abbrev w_Parser_statement : List Cond := Cond.code y_Parser_statement b_Parser_statement 4 (some .int) :: Tg
abbrev r_Parser_statement : Room := { frames := 2, cells := 0, slots := 0, locals := 46 }
theorem dv_Parser_statement : y_Parser_statement.cls = "LanguageServer$Parser" ∧ y_Parser_statement.cls ≠ "java/lang/invoke/MethodHandle" ∧ y_Parser_statement.cls ≠ "java/lang/invoke/VarHandle" ∧ (parseMethodDescriptor y_Parser_statement.desc).map (fun d => d.parameters.length) = some 2 := by decide +kernel
set_option maxHeartbeats 4000000 in
set_option maxRecDepth 100000 in
theorem c_Parser_statement (l : Launch) (K : Kst) (A : Nat → Nat) {σ : Sto} {x1 : Int32} {x2 : Int32} {rr : Int32} {ss : Sto} (h : p_Parser_statement σ x1 x2 = some (rr, ss)) : Met l y_Parser_statement w_Parser_statement r_Parser_statement (va_Pc [.ref (A 18), .int x1, .int x2] (RB K A σ)) (RQi K A rr ss) 0 0 (RF A) := by
  refine Met.ofW (cc := b_Parser_statement) (maxL := 4) (ret := (some .int)) (by decide) rfl ?_
  intro p e s m args below meth c s₁ B hml hv
  obtain ⟨rfl, hP, hK, hD⟩ := hv
  have hx := B.exec
  have hb := B.bytes
  have hr := B.returns
  have hts := atoms_spec (ws := w_Parser_statement) B.pre
  have hg : ∀ w ∈ Tg, w.before _ s = true := fun w q => hts w (List.mem_cons_of_mem _ q)
  have hown : s.vm.findClass "LanguageServer$Parser" = some m.cls := findClass_of_methodNamed B.named
  have hlocks := B.notSynchronized
  have hS : va_S (RF A) s.heap s.heap [] := va_S.rf
  have hl := lv_entry ([.ref (A 18), .int x1, .int x2]) (n := 4) (Nat.le_of_ble_eq_true rfl)
  rw [lg_entry_eq]
  generalize (lg_sl ([.ref (A 18), .int x1, .int x2]) ++ List.replicate (4 - (lg_sl ([.ref (A 18), .int x1, .int x2])).length) Slot.unset).toArray = ls at hl ⊢
  have hl : lv_has ls 4 [(0, .ref (A 18)), (1, .int x1), (2, .int x2)] := hl
  generalize hargs : ([.ref (A 18), .int x1, .int x2] : List Value).toArray = args at hg hts ⊢
  obtain ⟨Q, hQ⟩ : ∃ Q, Q = MQ below (RQi K A rr ss) args s 0 0 (RF A) := ⟨_, rfl⟩
  rw [← hQ]
  have hRet : ∀ (v : Int32) (σ : Sto), some (v, σ) = some (rr, ss) → ∀ (H : Heap) (locs : List Loc), va_P K.1 vwCl (wR K A σ) H → va_D (RF A) (wR K A σ) → va_S (RF A) s.heap H locs → ∀ (pc : Nat) (ls : Array Slot), decode b_Parser_statement pc = .ok (.ireturn, 1) → W p l e (headSpec w_Parser_statement r_Parser_statement).room s m args below meth c H locs 0 0 Q (F0 m pc ls [.int v]) := by
    intro v σ h H locs hP hD hS pc ls hd
    cases h
    subst hQ
    exact W.iret hx hb hr (fun t ht hW => ⟨⟨_, (), rfl, rfl, by rw [ht]; exact hP, RK.warm hW hK, hD⟩, hS.F ht⟩) hS.2.2 hd
  clear hQ
  unfold p_Parser_statement at h
  have J_38 : ∀ (σ : Sto) (s0 : Int32), p_Parser_statement_b38 x1 x2 σ s0 = some (rr, ss) → ∀ (H : Heap) (locs : List Loc), va_P K.1 vwCl (wR K A σ) H → va_D (RF A) (wR K A σ) → va_S (RF A) s.heap H locs → ∀ ls : Array Slot, lv_has ls 4 [(0, .ref (A 18)), (1, .int x1), (2, .int x2)] → W p l e (headSpec w_Parser_statement r_Parser_statement).room s m args below meth c H locs 0 0 Q (F0 m 38 ls [.int s0]) := by
    intro  σ s0 h H locs hP hD hS ls hl
    rw [p_Parser_statement_b38] at h
    refine lv_istore_n (lv' := [(3, .int s0), (0, .ref (A 18)), (1, .int x1), (2, .int x2)]) hx hb d_Parser_statement_38 rfl hl (by decide) rfl (fun ls hl => ?_)
    refine lv_aload_n hx hb d_Parser_statement_39 rfl (lv_at hl 1 rfl) ?_
    refine lv_iconst (v := 0) hx hb d_Parser_statement_40 (by decide) ?_
    refine pf_Parser_119 hx hb hg hown hK hP hD hS d_Parser_statement_41 rfl rfl (fun H locs hP hD hS => ?_)
    refine lv_iload_n hx hb d_Parser_statement_44 rfl (lv_at hl 3 rfl) ?_
    refine lv_bipush (v := 125) hx hb d_Parser_statement_45 (by decide) ?_
    refine lv_icmp_ne (tgt := 53) hx hb d_Parser_statement_47 (by decide) (fun c_47 => ?_) (fun c_47 => ?_)
    · replace h := itf c_47 h
      refine lv_iload_n hx hb d_Parser_statement_53 rfl (lv_at hl 3 rfl) ?_
      refine lv_iconst (v := 5) hx hb d_Parser_statement_54 (by decide) ?_
      refine lv_icmp_eq (tgt := 62) hx hb d_Parser_statement_55 (by decide) (fun c_55 => ?_) (fun c_55 => ?_)
      · replace h := itp c_55 h
        refine lv_aload_n hx hb d_Parser_statement_62 rfl (lv_at hl 1 rfl) ?_
        refine lv_iload_n hx hb d_Parser_statement_63 rfl (lv_at hl 2 rfl) ?_
        refine lv_iload_n hx hb d_Parser_statement_64 rfl (lv_at hl 3 rfl) ?_
        refine lv_bipush (v := 15) hx hb d_Parser_statement_65 (by decide) ?_
        obtain ⟨v_67, σ_67, e_67, h⟩ := bd2_some h
        refine R_calli (va_runV (As := [.int x1, .int x2, .int 15]) (rest := []) ⟨hx, hb, hml, hown, hts⟩ (c_Parser_typeName l K A e_67) (cwV 3 hts (gd_V wd_387 wd_389 wp_5 wd_7 wd_390) rfl rfl rfl dv_Parser_typeName ⟨Nat.le_of_ble_eq_true rfl, Nat.le_of_ble_eq_true rfl⟩) (R_pv_18 hK hP hD) rfl rfl hl.1 rfl (lv_room (Nat.le_of_ble_eq_true rfl)) d_Parser_statement_67 ⟨Nat.le_of_ble_eq_true rfl, Nat.le_of_ble_eq_true rfl⟩) hS (fun H locs hP hD hS => ?_)
        exact hRet _ _ h _ _ hP hD hS _ _ d_Parser_statement_70
      · replace h := itf c_55 h
        refine lv_iload_n hx hb d_Parser_statement_58 rfl (lv_at hl 0 rfl) ?_
        refine lv_if_eq (tgt := 71) hx hb d_Parser_statement_59 (by decide) (fun c_59 => ?_) (fun c_59 => ?_)
        · replace h := itp c_59 h
          refine lv_iload_n hx hb d_Parser_statement_71 rfl (lv_at hl 3 rfl) ?_
          refine lv_bipush (v := 6) hx hb d_Parser_statement_72 (by decide) ?_
          refine lv_icmp_ne (tgt := 87) hx hb d_Parser_statement_74 (by decide) (fun c_74 => ?_) (fun c_74 => ?_)
          · replace h := itf c_74 h
            refine lv_aload_n hx hb d_Parser_statement_87 rfl (lv_at hl 1 rfl) ?_
            refine lv_iconst (v := 1) hx hb d_Parser_statement_88 (by decide) ?_
            refine pf_Parser_119 hx hb hg hown hK hP hD hS d_Parser_statement_89 rfl rfl (fun H locs hP hD hS => ?_)
            refine lv_aload_n hx hb d_Parser_statement_92 rfl (lv_at hl 1 rfl) ?_
            refine lv_iload_n hx hb d_Parser_statement_93 rfl (lv_at hl 2 rfl) ?_
            refine lv_iload_n hx hb d_Parser_statement_94 rfl (lv_at hl 3 rfl) ?_
            obtain ⟨v_95, σ_95, e_95, h⟩ := bd2_some h
            refine R_calli (va_runV (As := [.int x1, .int x2]) (rest := []) ⟨hx, hb, hml, hown, hts⟩ (c_Parser_operand l K A e_95) (cwV 2 hts (gd_V wd_407 wd_409 wp_10 wd_7 wd_410) rfl rfl rfl dv_Parser_operand ⟨Nat.le_of_ble_eq_true rfl, Nat.le_of_ble_eq_true rfl⟩) (R_pv_18 hK hP hD) rfl rfl hl.1 rfl (lv_room (Nat.le_of_ble_eq_true rfl)) d_Parser_statement_95 ⟨Nat.le_of_ble_eq_true rfl, Nat.le_of_ble_eq_true rfl⟩) hS (fun H locs hP hD hS => ?_)
            exact hRet _ _ h _ _ hP hD hS _ _ d_Parser_statement_98
          · replace h := itp c_74 h
            refine lv_aload_n hx hb d_Parser_statement_77 rfl (lv_at hl 1 rfl) ?_
            refine lv_iload_n hx hb d_Parser_statement_78 rfl (lv_at hl 2 rfl) ?_
            refine lv_bipush (v := 16) hx hb d_Parser_statement_79 (by decide) ?_
            refine lv_bipush (v := 17) hx hb d_Parser_statement_81 (by decide) ?_
            obtain ⟨v_83, σ_83, e_83, h⟩ := bd2_some h
            refine R_calli (va_runV (As := [.int x1, .int 16, .int 17]) (rest := []) ⟨hx, hb, hml, hown, hts⟩ (c_Parser_assign l K A e_83) (cwV 3 hts (gd_V wd_380 wd_382 wp_4 wd_7 wd_383) rfl rfl rfl dv_Parser_assign ⟨Nat.le_of_ble_eq_true rfl, Nat.le_of_ble_eq_true rfl⟩) (R_pv_18 hK hP hD) rfl rfl hl.1 rfl (lv_room (Nat.le_of_ble_eq_true rfl)) d_Parser_statement_83 ⟨Nat.le_of_ble_eq_true rfl, Nat.le_of_ble_eq_true rfl⟩) hS (fun H locs hP hD hS => ?_)
            exact hRet _ _ h _ _ hP hD hS _ _ d_Parser_statement_86
        · replace h := itf c_59 h
          refine lv_aload_n hx hb d_Parser_statement_62 rfl (lv_at hl 1 rfl) ?_
          refine lv_iload_n hx hb d_Parser_statement_63 rfl (lv_at hl 2 rfl) ?_
          refine lv_iload_n hx hb d_Parser_statement_64 rfl (lv_at hl 3 rfl) ?_
          refine lv_bipush (v := 15) hx hb d_Parser_statement_65 (by decide) ?_
          obtain ⟨v_67, σ_67, e_67, h⟩ := bd2_some h
          refine R_calli (va_runV (As := [.int x1, .int x2, .int 15]) (rest := []) ⟨hx, hb, hml, hown, hts⟩ (c_Parser_typeName l K A e_67) (cwV 3 hts (gd_V wd_387 wd_389 wp_5 wd_7 wd_390) rfl rfl rfl dv_Parser_typeName ⟨Nat.le_of_ble_eq_true rfl, Nat.le_of_ble_eq_true rfl⟩) (R_pv_18 hK hP hD) rfl rfl hl.1 rfl (lv_room (Nat.le_of_ble_eq_true rfl)) d_Parser_statement_67 ⟨Nat.le_of_ble_eq_true rfl, Nat.le_of_ble_eq_true rfl⟩) hS (fun H locs hP hD hS => ?_)
          exact hRet _ _ h _ _ hP hD hS _ _ d_Parser_statement_70
    · replace h := itp c_47 h
      refine lv_bipush (v := 6) hx hb d_Parser_statement_50 (by decide) ?_
      exact hRet _ _ h _ _ hP hD hS _ _ d_Parser_statement_52
  have J_37 : ∀ (σ : Sto), p_Parser_statement_b37 x1 x2 σ = some (rr, ss) → ∀ (H : Heap) (locs : List Loc), va_P K.1 vwCl (wR K A σ) H → va_D (RF A) (wR K A σ) → va_S (RF A) s.heap H locs → ∀ ls : Array Slot, lv_has ls 4 [(0, .ref (A 18)), (1, .int x1), (2, .int x2)] → W p l e (headSpec w_Parser_statement r_Parser_statement).room s m args below meth c H locs 0 0 Q (F0 m 37 ls []) := by
    intro  σ h H locs hP hD hS ls hl
    rw [p_Parser_statement_b37] at h
    refine lv_iconst (v := 0) hx hb d_Parser_statement_37 (by decide) ?_
    exact J_38  _ _ h _ _ hP hD hS ls (lv_sub hl [0, 1, 2] rfl)
  refine lv_iload_n hx hb d_Parser_statement_0 rfl (lv_at hl 2 rfl) ?_
  refine lv_iconst (v := 1) hx hb d_Parser_statement_1 (by decide) ?_
  refine lv_icmp_ne (tgt := 37) hx hb d_Parser_statement_2 (by decide) (fun c_2 => ?_) (fun c_2 => ?_)
  · replace h := itf c_2 h
    exact J_37  _ h _ _ hP hD hS ls (lv_sub hl [0, 1, 2] rfl)
  · replace h := itp c_2 h
    refine lv_iload_n hx hb d_Parser_statement_5 rfl (lv_at hl 1 rfl) ?_
    refine lv_iconst (v := 1) hx hb d_Parser_statement_6 (by decide) ?_
    refine lv_iadd hx hb d_Parser_statement_7 ?_
    refine lv_aload_n hx hb d_Parser_statement_8 rfl (lv_at hl 0 rfl) ?_
    refine gf_Parser_15 hx hb hg hown hK hP d_Parser_statement_9 ?_
    refine gf_Parser_42 hx hb hg hown hK hP d_Parser_statement_12 ?_
    refine lv_icmp_ge (tgt := 37) hx hb d_Parser_statement_15 (by decide) (fun c_15 => ?_) (fun c_15 => ?_)
    · replace h := itp c_15 h
      exact J_37  _ h _ _ hP hD hS ls (lv_sub hl [0, 1, 2] rfl)
    · replace h := itf c_15 h
      refine lv_aload_n hx hb d_Parser_statement_18 rfl (lv_at hl 0 rfl) ?_
      refine gf_Parser_15 hx hb hg hown hK hP d_Parser_statement_19 ?_
      refine gf_Parser_47 hx hb hg hown hK hP d_Parser_statement_22 ?_
      refine lv_iload_n hx hb d_Parser_statement_25 rfl (lv_at hl 1 rfl) ?_
      refine lv_iconst (v := 1) hx hb d_Parser_statement_26 (by decide) ?_
      refine lv_iadd hx hb d_Parser_statement_27 ?_
      obtain ⟨i_28, h⟩ := itn h
      refine ra_6 hx hb hK hP i_28 d_Parser_statement_28 ?_
      refine lv_iconst (v := 1) hx hb d_Parser_statement_29 (by decide) ?_
      refine lv_icmp_ne (tgt := 37) hx hb d_Parser_statement_30 (by decide) (fun c_30 => ?_) (fun c_30 => ?_)
      · replace h := itf c_30 h
        exact J_37  _ h _ _ hP hD hS ls (lv_sub hl [0, 1, 2] rfl)
      · replace h := itp c_30 h
        refine lv_iconst (v := 1) hx hb d_Parser_statement_33 (by decide) ?_
        refine lv_goto (tgt := 38) hx hb d_Parser_statement_34 (by decide) ?_
        exact J_38  _ _ h _ _ hP hD hS ls (lv_sub hl [0, 1, 2] rfl)
def p_Parser_nextInBody (σ : Sto) (x1 : Int32) (x2 : Int32) : Option (Int32 × Sto) :=
  (if (σ.1 7) = 14 then
      bd2 (p_Parser_statement σ x1 x2) fun v_35 σ_35 =>
      some (v_35, σ_35)
    else (if (σ.1 7) = 15 then
      bd2 (p_Parser_name σ x1 x2 5 16) fun v_45 σ_45 =>
      some (v_45, σ_45)
    else (if x2 = 61 then
        bd2 (p_Parser_assign σ x1 17 17) fun v_61 σ_61 =>
        some (v_61, σ_61)
      else
        some (0, σ))))
abbrev w_Parser_nextInBody : List Cond := Cond.code y_Parser_nextInBody b_Parser_nextInBody 3 (some .int) :: Tg
abbrev r_Parser_nextInBody : Room := { frames := 3, cells := 0, slots := 0, locals := 69 }
theorem dv_Parser_nextInBody : y_Parser_nextInBody.cls = "LanguageServer$Parser" ∧ y_Parser_nextInBody.cls ≠ "java/lang/invoke/MethodHandle" ∧ y_Parser_nextInBody.cls ≠ "java/lang/invoke/VarHandle" ∧ (parseMethodDescriptor y_Parser_nextInBody.desc).map (fun d => d.parameters.length) = some 2 := by decide +kernel
set_option maxHeartbeats 4000000 in
set_option maxRecDepth 100000 in
theorem c_Parser_nextInBody (l : Launch) (K : Kst) (A : Nat → Nat) {σ : Sto} {x1 : Int32} {x2 : Int32} {rr : Int32} {ss : Sto} (h : p_Parser_nextInBody σ x1 x2 = some (rr, ss)) : Met l y_Parser_nextInBody w_Parser_nextInBody r_Parser_nextInBody (va_Pc [.ref (A 18), .int x1, .int x2] (RB K A σ)) (RQi K A rr ss) 0 0 (RF A) := by
  refine Met.ofW (cc := b_Parser_nextInBody) (maxL := 3) (ret := (some .int)) (by decide) rfl ?_
  intro p e s m args below meth c s₁ B hml hv
  obtain ⟨rfl, hP, hK, hD⟩ := hv
  have hx := B.exec
  have hb := B.bytes
  have hr := B.returns
  have hts := atoms_spec (ws := w_Parser_nextInBody) B.pre
  have hg : ∀ w ∈ Tg, w.before _ s = true := fun w q => hts w (List.mem_cons_of_mem _ q)
  have hown : s.vm.findClass "LanguageServer$Parser" = some m.cls := findClass_of_methodNamed B.named
  have hlocks := B.notSynchronized
  have hS : va_S (RF A) s.heap s.heap [] := va_S.rf
  have hl := lv_entry ([.ref (A 18), .int x1, .int x2]) (n := 3) (Nat.le_of_ble_eq_true rfl)
  rw [lg_entry_eq]
  generalize (lg_sl ([.ref (A 18), .int x1, .int x2]) ++ List.replicate (3 - (lg_sl ([.ref (A 18), .int x1, .int x2])).length) Slot.unset).toArray = ls at hl ⊢
  have hl : lv_has ls 3 [(0, .ref (A 18)), (1, .int x1), (2, .int x2)] := hl
  generalize hargs : ([.ref (A 18), .int x1, .int x2] : List Value).toArray = args at hg hts ⊢
  obtain ⟨Q, hQ⟩ : ∃ Q, Q = MQ below (RQi K A rr ss) args s 0 0 (RF A) := ⟨_, rfl⟩
  rw [← hQ]
  have hRet : ∀ (v : Int32) (σ : Sto), some (v, σ) = some (rr, ss) → ∀ (H : Heap) (locs : List Loc), va_P K.1 vwCl (wR K A σ) H → va_D (RF A) (wR K A σ) → va_S (RF A) s.heap H locs → ∀ (pc : Nat) (ls : Array Slot), decode b_Parser_nextInBody pc = .ok (.ireturn, 1) → W p l e (headSpec w_Parser_nextInBody r_Parser_nextInBody).room s m args below meth c H locs 0 0 Q (F0 m pc ls [.int v]) := by
    intro v σ h H locs hP hD hS pc ls hd
    cases h
    subst hQ
    exact W.iret hx hb hr (fun t ht hW => ⟨⟨_, (), rfl, rfl, by rw [ht]; exact hP, RK.warm hW hK, hD⟩, hS.F ht⟩) hS.2.2 hd
  clear hQ
  unfold p_Parser_nextInBody at h
  refine lv_aload_n hx hb d_Parser_nextInBody_0 rfl (lv_at hl 0 rfl) ?_
  refine gf_Parser_39 hx hb hg hown hK hP d_Parser_nextInBody_1 ?_
  by_cases c_4_0 : (σ.1 7) = 14
  · replace h := itp c_4_0 h
    refine lv_lookup (off := 28) (tgt := 32) hx hb d_Parser_nextInBody_4 (by decide) (by rw [c_4_0]; first | done | rfl | decide) (by decide) ?_
    refine lv_aload_n hx hb d_Parser_nextInBody_32 rfl (lv_at hl 0 rfl) ?_
    refine lv_iload_n hx hb d_Parser_nextInBody_33 rfl (lv_at hl 1 rfl) ?_
    refine lv_iload_n hx hb d_Parser_nextInBody_34 rfl (lv_at hl 2 rfl) ?_
    obtain ⟨v_35, σ_35, e_35, h⟩ := bd2_some h
    refine R_calli (va_runV (As := [.int x1, .int x2]) (rest := []) ⟨hx, hb, hml, hown, hts⟩ (c_Parser_statement l K A e_35) (cwV 2 hts (gd_V wd_403 wd_405 wp_9 wd_7 wd_406) rfl rfl rfl dv_Parser_statement ⟨Nat.le_of_ble_eq_true rfl, Nat.le_of_ble_eq_true rfl⟩) (R_pv_18 hK hP hD) rfl rfl hl.1 rfl (lv_room (Nat.le_of_ble_eq_true rfl)) d_Parser_nextInBody_35 ⟨Nat.le_of_ble_eq_true rfl, Nat.le_of_ble_eq_true rfl⟩) hS (fun H locs hP hD hS => ?_)
    exact hRet _ _ h _ _ hP hD hS _ _ d_Parser_nextInBody_38
  replace h := itf c_4_0 h
  by_cases c_4_1 : (σ.1 7) = 15
  · replace h := itp c_4_1 h
    refine lv_lookup (off := 35) (tgt := 39) hx hb d_Parser_nextInBody_4 (by decide) (by rw [c_4_1]; first | done | rfl | decide) (by decide) ?_
    refine lv_aload_n hx hb d_Parser_nextInBody_39 rfl (lv_at hl 0 rfl) ?_
    refine lv_iload_n hx hb d_Parser_nextInBody_40 rfl (lv_at hl 1 rfl) ?_
    refine lv_iload_n hx hb d_Parser_nextInBody_41 rfl (lv_at hl 2 rfl) ?_
    refine lv_iconst (v := 5) hx hb d_Parser_nextInBody_42 (by decide) ?_
    refine lv_bipush (v := 16) hx hb d_Parser_nextInBody_43 (by decide) ?_
    obtain ⟨v_45, σ_45, e_45, h⟩ := bd2_some h
    refine R_calli (va_runV (As := [.int x1, .int x2, .int 5, .int 16]) (rest := []) ⟨hx, hb, hml, hown, hts⟩ (c_Parser_name l K A e_45) (cwV 4 hts (gd_V wd_376 wd_378 wp_3 wd_7 wd_379) rfl rfl rfl dv_Parser_name ⟨Nat.le_of_ble_eq_true rfl, Nat.le_of_ble_eq_true rfl⟩) (R_pv_18 hK hP hD) rfl rfl hl.1 rfl (lv_room (Nat.le_of_ble_eq_true rfl)) d_Parser_nextInBody_45 ⟨Nat.le_of_ble_eq_true rfl, Nat.le_of_ble_eq_true rfl⟩) hS (fun H locs hP hD hS => ?_)
    exact hRet _ _ h _ _ hP hD hS _ _ d_Parser_nextInBody_48
  replace h := itf c_4_1 h
  refine lv_lookup (off := 45) (tgt := 49) hx hb d_Parser_nextInBody_4 (by decide) ((lv_osw c_4_0 rfl).trans ((lv_osw c_4_1 rfl).trans rfl)) (by decide) ?_
  refine lv_iload_n hx hb d_Parser_nextInBody_49 rfl (lv_at hl 2 rfl) ?_
  refine lv_bipush (v := 61) hx hb d_Parser_nextInBody_50 (by decide) ?_
  refine lv_icmp_ne (tgt := 67) hx hb d_Parser_nextInBody_52 (by decide) (fun c_52 => ?_) (fun c_52 => ?_)
  · replace h := itf c_52 h
    refine lv_iconst (v := 0) hx hb d_Parser_nextInBody_67 (by decide) ?_
    exact hRet _ _ h _ _ hP hD hS _ _ d_Parser_nextInBody_68
  · replace h := itp c_52 h
    refine lv_aload_n hx hb d_Parser_nextInBody_55 rfl (lv_at hl 0 rfl) ?_
    refine lv_iload_n hx hb d_Parser_nextInBody_56 rfl (lv_at hl 1 rfl) ?_
    refine lv_bipush (v := 17) hx hb d_Parser_nextInBody_57 (by decide) ?_
    refine lv_bipush (v := 17) hx hb d_Parser_nextInBody_59 (by decide) ?_
    obtain ⟨v_61, σ_61, e_61, h⟩ := bd2_some h
    refine R_calli (va_runV (As := [.int x1, .int 17, .int 17]) (rest := []) ⟨hx, hb, hml, hown, hts⟩ (c_Parser_assign l K A e_61) (cwV 3 hts (gd_V wd_380 wd_382 wp_4 wd_7 wd_383) rfl rfl rfl dv_Parser_assign ⟨Nat.le_of_ble_eq_true rfl, Nat.le_of_ble_eq_true rfl⟩) (R_pv_18 hK hP hD) rfl rfl hl.1 rfl (lv_room (Nat.le_of_ble_eq_true rfl)) d_Parser_nextInBody_61 ⟨Nat.le_of_ble_eq_true rfl, Nat.le_of_ble_eq_true rfl⟩) hS (fun H locs hP hD hS => ?_)
    refine lv_goto (tgt := 68) hx hb d_Parser_nextInBody_64 (by decide) ?_
    exact hRet _ _ h _ _ hP hD hS _ _ d_Parser_nextInBody_68
def p_Parser_openArguments (σ : Sto) (x1 : Int32) : Option (Int32 × Sto) :=
  (if (0 : Int32) ≤ (x1 - 1) then
      if inR (x1 - 1) 121 then (if (σ.2.1 9 ((x1 - 1).toNatClampNeg)) = 9 then
        if inR (x1 - 1) 121 then if inR x1 121 then bd2 (p_Parser_open (sA (sA σ 9 ((x1 - 1).toNatClampNeg) 10) 9 x1.toNatClampNeg 22) (x1 - 1) 21) fun v_55 σ_55 =>
        some (v_55, σ_55) else none else none
      else
        if inR (x1 - 1) 121 then if inR x1 121 then bd2 (p_Parser_open (sA (sA σ 9 ((x1 - 1).toNatClampNeg) 12) 9 x1.toNatClampNeg 22) (x1 - 1) 21) fun v_55 σ_55 =>
        some (v_55, σ_55) else none else none) else none
    else
      some (0, σ))
abbrev w_Parser_opnArguments : List Cond := Cond.code y_Parser_opnArguments b_Parser_opnArguments 3 (some .int) :: Tg
abbrev r_Parser_opnArguments : Room := { frames := 1, cells := 0, slots := 0, locals := 22 }
theorem dv_Parser_opnArguments : y_Parser_opnArguments.cls = "LanguageServer$Parser" ∧ y_Parser_opnArguments.cls ≠ "java/lang/invoke/MethodHandle" ∧ y_Parser_opnArguments.cls ≠ "java/lang/invoke/VarHandle" ∧ (parseMethodDescriptor y_Parser_opnArguments.desc).map (fun d => d.parameters.length) = some 1 := by decide +kernel
set_option maxHeartbeats 4000000 in
set_option maxRecDepth 100000 in
theorem c_Parser_opnArguments (l : Launch) (K : Kst) (A : Nat → Nat) {σ : Sto} {x1 : Int32} {rr : Int32} {ss : Sto} (h : p_Parser_openArguments σ x1 = some (rr, ss)) : Met l y_Parser_opnArguments w_Parser_opnArguments r_Parser_opnArguments (va_Pc [.ref (A 18), .int x1] (RB K A σ)) (RQi K A rr ss) 0 0 (RF A) := by
  refine Met.ofW (cc := b_Parser_opnArguments) (maxL := 3) (ret := (some .int)) (by decide) rfl ?_
  intro p e s m args below meth c s₁ B hml hv
  obtain ⟨rfl, hP, hK, hD⟩ := hv
  have hx := B.exec
  have hb := B.bytes
  have hr := B.returns
  have hts := atoms_spec (ws := w_Parser_opnArguments) B.pre
  have hg : ∀ w ∈ Tg, w.before _ s = true := fun w q => hts w (List.mem_cons_of_mem _ q)
  have hown : s.vm.findClass "LanguageServer$Parser" = some m.cls := findClass_of_methodNamed B.named
  have hlocks := B.notSynchronized
  have hS : va_S (RF A) s.heap s.heap [] := va_S.rf
  have hl := lv_entry ([.ref (A 18), .int x1]) (n := 3) (Nat.le_of_ble_eq_true rfl)
  rw [lg_entry_eq]
  generalize (lg_sl ([.ref (A 18), .int x1]) ++ List.replicate (3 - (lg_sl ([.ref (A 18), .int x1])).length) Slot.unset).toArray = ls at hl ⊢
  have hl : lv_has ls 3 [(0, .ref (A 18)), (1, .int x1)] := hl
  generalize hargs : ([.ref (A 18), .int x1] : List Value).toArray = args at hg hts ⊢
  obtain ⟨Q, hQ⟩ : ∃ Q, Q = MQ below (RQi K A rr ss) args s 0 0 (RF A) := ⟨_, rfl⟩
  rw [← hQ]
  have hRet : ∀ (v : Int32) (σ : Sto), some (v, σ) = some (rr, ss) → ∀ (H : Heap) (locs : List Loc), va_P K.1 vwCl (wR K A σ) H → va_D (RF A) (wR K A σ) → va_S (RF A) s.heap H locs → ∀ (pc : Nat) (ls : Array Slot), decode b_Parser_opnArguments pc = .ok (.ireturn, 1) → W p l e (headSpec w_Parser_opnArguments r_Parser_opnArguments).room s m args below meth c H locs 0 0 Q (F0 m pc ls [.int v]) := by
    intro v σ h H locs hP hD hS pc ls hd
    cases h
    subst hQ
    exact W.iret hx hb hr (fun t ht hW => ⟨⟨_, (), rfl, rfl, by rw [ht]; exact hP, RK.warm hW hK, hD⟩, hS.F ht⟩) hS.2.2 hd
  clear hQ
  unfold p_Parser_openArguments at h
  refine lv_iload_n hx hb d_Parser_opnArguments_0 rfl (lv_at hl 1 rfl) ?_
  refine lv_iconst (v := 1) hx hb d_Parser_opnArguments_1 (by decide) ?_
  refine lv_isub hx hb d_Parser_opnArguments_2 ?_
  refine lv_istore_n (lv' := [(2, .int (x1 - 1)), (0, .ref (A 18)), (1, .int x1)]) hx hb d_Parser_opnArguments_3 rfl hl (by decide) rfl (fun ls hl => ?_)
  refine lv_iload_n hx hb d_Parser_opnArguments_4 rfl (lv_at hl 0 rfl) ?_
  refine lv_if_ge (tgt := 10) hx hb d_Parser_opnArguments_5 (by decide) (fun c_5 => ?_) (fun c_5 => ?_)
  · replace h := itp c_5 h
    refine lv_aload_n hx hb d_Parser_opnArguments_10 rfl (lv_at hl 1 rfl) ?_
    refine gf_Parser_19 hx hb hg hown hK hP d_Parser_opnArguments_11 ?_
    refine gf_Parser_107 hx hb hg hown hK hP d_Parser_opnArguments_14 ?_
    refine lv_iload_n hx hb d_Parser_opnArguments_17 rfl (lv_at hl 0 rfl) ?_
    refine lv_aload_n hx hb d_Parser_opnArguments_18 rfl (lv_at hl 1 rfl) ?_
    refine gf_Parser_19 hx hb hg hown hK hP d_Parser_opnArguments_19 ?_
    refine gf_Parser_107 hx hb hg hown hK hP d_Parser_opnArguments_22 ?_
    refine lv_iload_n hx hb d_Parser_opnArguments_25 rfl (lv_at hl 0 rfl) ?_
    obtain ⟨i_26, h⟩ := itn h
    refine ra_9 hx hb hK hP i_26 d_Parser_opnArguments_26 ?_
    refine lv_bipush (v := 9) hx hb d_Parser_opnArguments_27 (by decide) ?_
    refine lv_icmp_ne (tgt := 37) hx hb d_Parser_opnArguments_29 (by decide) (fun c_29 => ?_) (fun c_29 => ?_)
    · replace h := itf c_29 h
      refine lv_bipush (v := 12) hx hb d_Parser_opnArguments_37 (by decide) ?_
      obtain ⟨i_39, h⟩ := itn h
      refine wa_9 hx hb hK hP hD hS i_39 d_Parser_opnArguments_39 (fun H locs hP hD hS => ?_)
      refine lv_aload_n hx hb d_Parser_opnArguments_40 rfl (lv_at hl 1 rfl) ?_
      refine gf_Parser_19 hx hb hg hown hK hP d_Parser_opnArguments_41 ?_
      refine gf_Parser_107 hx hb hg hown hK hP d_Parser_opnArguments_44 ?_
      refine lv_iload_n hx hb d_Parser_opnArguments_47 rfl (lv_at hl 2 rfl) ?_
      refine lv_bipush (v := 22) hx hb d_Parser_opnArguments_48 (by decide) ?_
      obtain ⟨i_50, h⟩ := itn h
      refine wa_9 hx hb hK hP hD hS i_50 d_Parser_opnArguments_50 (fun H locs hP hD hS => ?_)
      refine lv_aload_n hx hb d_Parser_opnArguments_51 rfl (lv_at hl 1 rfl) ?_
      refine lv_iload_n hx hb d_Parser_opnArguments_52 rfl (lv_at hl 0 rfl) ?_
      refine lv_bipush (v := 21) hx hb d_Parser_opnArguments_53 (by decide) ?_
      obtain ⟨v_55, σ_55, e_55, h⟩ := bd2_some h
      refine R_calli (va_runV (As := [.int (x1 - 1), .int 21]) (rest := []) ⟨hx, hb, hml, hown, hts⟩ (c_Parser_opn l K A e_55) (cwV 2 hts (gd_V wd_411 wd_413 wp_11 wd_7 wd_414) rfl rfl rfl dv_Parser_opn ⟨Nat.le_of_ble_eq_true rfl, Nat.le_of_ble_eq_true rfl⟩) (R_pv_18 hK hP hD) rfl rfl hl.1 rfl (lv_room (Nat.le_of_ble_eq_true rfl)) d_Parser_opnArguments_55 ⟨Nat.le_of_ble_eq_true rfl, Nat.le_of_ble_eq_true rfl⟩) hS (fun H locs hP hD hS => ?_)
      exact hRet _ _ h _ _ hP hD hS _ _ d_Parser_opnArguments_58
    · replace h := itp c_29 h
      refine lv_bipush (v := 10) hx hb d_Parser_opnArguments_32 (by decide) ?_
      refine lv_goto (tgt := 39) hx hb d_Parser_opnArguments_34 (by decide) ?_
      obtain ⟨i_39, h⟩ := itn h
      refine wa_9 hx hb hK hP hD hS i_39 d_Parser_opnArguments_39 (fun H locs hP hD hS => ?_)
      refine lv_aload_n hx hb d_Parser_opnArguments_40 rfl (lv_at hl 1 rfl) ?_
      refine gf_Parser_19 hx hb hg hown hK hP d_Parser_opnArguments_41 ?_
      refine gf_Parser_107 hx hb hg hown hK hP d_Parser_opnArguments_44 ?_
      refine lv_iload_n hx hb d_Parser_opnArguments_47 rfl (lv_at hl 2 rfl) ?_
      refine lv_bipush (v := 22) hx hb d_Parser_opnArguments_48 (by decide) ?_
      obtain ⟨i_50, h⟩ := itn h
      refine wa_9 hx hb hK hP hD hS i_50 d_Parser_opnArguments_50 (fun H locs hP hD hS => ?_)
      refine lv_aload_n hx hb d_Parser_opnArguments_51 rfl (lv_at hl 1 rfl) ?_
      refine lv_iload_n hx hb d_Parser_opnArguments_52 rfl (lv_at hl 0 rfl) ?_
      refine lv_bipush (v := 21) hx hb d_Parser_opnArguments_53 (by decide) ?_
      obtain ⟨v_55, σ_55, e_55, h⟩ := bd2_some h
      refine R_calli (va_runV (As := [.int (x1 - 1), .int 21]) (rest := []) ⟨hx, hb, hml, hown, hts⟩ (c_Parser_opn l K A e_55) (cwV 2 hts (gd_V wd_411 wd_413 wp_11 wd_7 wd_414) rfl rfl rfl dv_Parser_opn ⟨Nat.le_of_ble_eq_true rfl, Nat.le_of_ble_eq_true rfl⟩) (R_pv_18 hK hP hD) rfl rfl hl.1 rfl (lv_room (Nat.le_of_ble_eq_true rfl)) d_Parser_opnArguments_55 ⟨Nat.le_of_ble_eq_true rfl, Nat.le_of_ble_eq_true rfl⟩) hS (fun H locs hP hD hS => ?_)
      exact hRet _ _ h _ _ hP hD hS _ _ d_Parser_opnArguments_58
  · replace h := itf c_5 h
    refine lv_iconst (v := 0) hx hb d_Parser_opnArguments_8 (by decide) ?_
    exact hRet _ _ h _ _ hP hD hS _ _ d_Parser_opnArguments_9
def p_Parser_countArgument_b22 (σ : Sto) (s0 : Int32) : Option (Int32 × Sto) :=
  (if s0 = (-1) then
      some (0, σ)
    else
      if inR s0 121 then if inR s0 121 then some (1, sA σ 10 s0.toNatClampNeg ((σ.2.1 10 s0.toNatClampNeg) + 1)) else none else none)
def p_Parser_countArgument (σ : Sto) : Option (Int32 × Sto) :=
  (if (σ.1 6) = 0 then
      p_Parser_countArgument_b22 σ (-1)
    else
      if inR ((σ.1 6) - 1) 8 then p_Parser_countArgument_b22 σ (σ.2.1 19 (((σ.1 6) - 1).toNatClampNeg)) else none)
abbrev w_Parser_countArgument : List Cond := Cond.code y_Parser_countArgument b_Parser_countArgument 2 (some .boolean) :: Tg
abbrev r_Parser_countArgument : Room := { frames := 0, cells := 0, slots := 0, locals := 0 }
theorem dv_Parser_countArgument : y_Parser_countArgument.cls = "LanguageServer$Parser" ∧ y_Parser_countArgument.cls ≠ "java/lang/invoke/MethodHandle" ∧ y_Parser_countArgument.cls ≠ "java/lang/invoke/VarHandle" ∧ (parseMethodDescriptor y_Parser_countArgument.desc).map (fun d => d.parameters.length) = some 0 := by decide +kernel
set_option maxHeartbeats 4000000 in
set_option maxRecDepth 100000 in
theorem c_Parser_countArgument (l : Launch) (K : Kst) (A : Nat → Nat) {σ : Sto} {rr : Int32} {ss : Sto} (h : p_Parser_countArgument σ = some (rr, ss)) : Met l y_Parser_countArgument w_Parser_countArgument r_Parser_countArgument (va_Pc [.ref (A 18)] (RB K A σ)) (RQi K A rr ss) 0 0 (RF A) := by
  refine Met.ofW (cc := b_Parser_countArgument) (maxL := 2) (ret := (some .boolean)) (by decide) rfl ?_
  intro p e s m args below meth c s₁ B hml hv
  obtain ⟨rfl, hP, hK, hD⟩ := hv
  have hx := B.exec
  have hb := B.bytes
  have hr := B.returns
  have hts := atoms_spec (ws := w_Parser_countArgument) B.pre
  have hg : ∀ w ∈ Tg, w.before _ s = true := fun w q => hts w (List.mem_cons_of_mem _ q)
  have hown : s.vm.findClass "LanguageServer$Parser" = some m.cls := findClass_of_methodNamed B.named
  have hlocks := B.notSynchronized
  have hS : va_S (RF A) s.heap s.heap [] := va_S.rf
  have hl := lv_entry ([.ref (A 18)]) (n := 2) (Nat.le_of_ble_eq_true rfl)
  rw [lg_entry_eq]
  generalize (lg_sl ([.ref (A 18)]) ++ List.replicate (2 - (lg_sl ([.ref (A 18)])).length) Slot.unset).toArray = ls at hl ⊢
  have hl : lv_has ls 2 [(0, .ref (A 18))] := hl
  generalize hargs : ([.ref (A 18)] : List Value).toArray = args at hg hts ⊢
  obtain ⟨Q, hQ⟩ : ∃ Q, Q = MQ below (RQi K A rr ss) args s 0 0 (RF A) := ⟨_, rfl⟩
  rw [← hQ]
  have hRet : ∀ (v : Int32) (σ : Sto), (narrow .boolean (.int v) = .int v) → some (v, σ) = some (rr, ss) → ∀ (H : Heap) (locs : List Loc), va_P K.1 vwCl (wR K A σ) H → va_D (RF A) (wR K A σ) → va_S (RF A) s.heap H locs → ∀ (pc : Nat) (ls : Array Slot), decode b_Parser_countArgument pc = .ok (.ireturn, 1) → W p l e (headSpec w_Parser_countArgument r_Parser_countArgument).room s m args below meth c H locs 0 0 Q (F0 m pc ls [.int v]) := by
    intro v σ hn h H locs hP hD hS pc ls hd
    cases h
    subst hQ
    exact W.zret hx hb hr hn (fun t ht hW => ⟨⟨_, (), rfl, rfl, by rw [ht]; exact hP, RK.warm hW hK, hD⟩, hS.F ht⟩) hS.2.2 hd
  clear hQ
  unfold p_Parser_countArgument at h
  have J_22 : ∀ (σ : Sto) (s0 : Int32), p_Parser_countArgument_b22 σ s0 = some (rr, ss) → ∀ (H : Heap) (locs : List Loc), va_P K.1 vwCl (wR K A σ) H → va_D (RF A) (wR K A σ) → va_S (RF A) s.heap H locs → ∀ ls : Array Slot, lv_has ls 2 [(0, .ref (A 18))] → W p l e (headSpec w_Parser_countArgument r_Parser_countArgument).room s m args below meth c H locs 0 0 Q (F0 m 22 ls [.int s0]) := by
    intro  σ s0 h H locs hP hD hS ls hl
    rw [p_Parser_countArgument_b22] at h
    refine lv_istore_n (lv' := [(1, .int s0), (0, .ref (A 18))]) hx hb d_Parser_countArgument_22 rfl hl (by decide) rfl (fun ls hl => ?_)
    refine lv_iload_n hx hb d_Parser_countArgument_23 rfl (lv_at hl 0 rfl) ?_
    refine lv_iconst (v := (-1)) hx hb d_Parser_countArgument_24 (by decide) ?_
    refine lv_icmp_ne (tgt := 30) hx hb d_Parser_countArgument_25 (by decide) (fun c_25 => ?_) (fun c_25 => ?_)
    · replace h := itf c_25 h
      refine lv_aload_n hx hb d_Parser_countArgument_30 rfl (lv_at hl 1 rfl) ?_
      refine gf_Parser_19 hx hb hg hown hK hP d_Parser_countArgument_31 ?_
      refine gf_Parser_110 hx hb hg hown hK hP d_Parser_countArgument_34 ?_
      refine lv_iload_n hx hb d_Parser_countArgument_37 rfl (lv_at hl 0 rfl) ?_
      refine lv_dup2_11 hx hb d_Parser_countArgument_38 rfl rfl ?_
      obtain ⟨i_39, h⟩ := itn h
      refine ra_10 hx hb hK hP i_39 d_Parser_countArgument_39 ?_
      refine lv_iconst (v := 1) hx hb d_Parser_countArgument_40 (by decide) ?_
      refine lv_iadd hx hb d_Parser_countArgument_41 ?_
      obtain ⟨i_42, h⟩ := itn h
      refine wa_10 hx hb hK hP hD hS i_42 d_Parser_countArgument_42 (fun H locs hP hD hS => ?_)
      refine lv_iconst (v := 1) hx hb d_Parser_countArgument_43 (by decide) ?_
      exact hRet _ _ rfl h _ _ hP hD hS _ _ d_Parser_countArgument_44
    · replace h := itp c_25 h
      refine lv_iconst (v := 0) hx hb d_Parser_countArgument_28 (by decide) ?_
      exact hRet _ _ rfl h _ _ hP hD hS _ _ d_Parser_countArgument_29
  refine lv_aload_n hx hb d_Parser_countArgument_0 rfl (lv_at hl 0 rfl) ?_
  refine gf_Parser_35 hx hb hg hown hK hP d_Parser_countArgument_1 ?_
  refine lv_if_ne (tgt := 11) hx hb d_Parser_countArgument_4 (by decide) (fun c_4 => ?_) (fun c_4 => ?_)
  · replace h := itf c_4 h
    refine lv_aload_n hx hb d_Parser_countArgument_11 rfl (lv_at hl 0 rfl) ?_
    refine gf_Parser_9 hx hb hg hown hK hP d_Parser_countArgument_12 ?_
    refine lv_aload_n hx hb d_Parser_countArgument_15 rfl (lv_at hl 0 rfl) ?_
    refine gf_Parser_35 hx hb hg hown hK hP d_Parser_countArgument_16 ?_
    refine lv_iconst (v := 1) hx hb d_Parser_countArgument_19 (by decide) ?_
    refine lv_isub hx hb d_Parser_countArgument_20 ?_
    obtain ⟨i_21, h⟩ := itn h
    refine ra_19 hx hb hK hP i_21 d_Parser_countArgument_21 ?_
    exact J_22  _ _ h _ _ hP hD hS ls (lv_sub hl [0] rfl)
  · replace h := itp c_4 h
    refine lv_iconst (v := (-1)) hx hb d_Parser_countArgument_7 (by decide) ?_
    refine lv_goto (tgt := 22) hx hb d_Parser_countArgument_8 (by decide) ?_
    exact J_22  _ _ h _ _ hP hD hS ls (lv_sub hl [0] rfl)
def p_Parser_close (σ : Sto) (x1 : Int32) : Option (Int32 × Sto) :=
  (if (σ.1 6) = 0 then
      some (0, σ)
    else
      bd2 (p_Parser_assign (sS σ 6 ((σ.1 6) - 1)) x1 24 22) fun v_25 σ_25 =>
      some (v_25, σ_25))
abbrev w_Parser_close : List Cond := Cond.code y_Parser_close b_Parser_close 2 (some .int) :: Tg
abbrev r_Parser_close : Room := { frames := 1, cells := 0, slots := 0, locals := 23 }
theorem dv_Parser_close : y_Parser_close.cls = "LanguageServer$Parser" ∧ y_Parser_close.cls ≠ "java/lang/invoke/MethodHandle" ∧ y_Parser_close.cls ≠ "java/lang/invoke/VarHandle" ∧ (parseMethodDescriptor y_Parser_close.desc).map (fun d => d.parameters.length) = some 1 := by decide +kernel
set_option maxHeartbeats 4000000 in
set_option maxRecDepth 100000 in
theorem c_Parser_close (l : Launch) (K : Kst) (A : Nat → Nat) {σ : Sto} {x1 : Int32} {rr : Int32} {ss : Sto} (h : p_Parser_close σ x1 = some (rr, ss)) : Met l y_Parser_close w_Parser_close r_Parser_close (va_Pc [.ref (A 18), .int x1] (RB K A σ)) (RQi K A rr ss) 0 0 (RF A) := by
  refine Met.ofW (cc := b_Parser_close) (maxL := 2) (ret := (some .int)) (by decide) rfl ?_
  intro p e s m args below meth c s₁ B hml hv
  obtain ⟨rfl, hP, hK, hD⟩ := hv
  have hx := B.exec
  have hb := B.bytes
  have hr := B.returns
  have hts := atoms_spec (ws := w_Parser_close) B.pre
  have hg : ∀ w ∈ Tg, w.before _ s = true := fun w q => hts w (List.mem_cons_of_mem _ q)
  have hown : s.vm.findClass "LanguageServer$Parser" = some m.cls := findClass_of_methodNamed B.named
  have hlocks := B.notSynchronized
  have hS : va_S (RF A) s.heap s.heap [] := va_S.rf
  have hl := lv_entry ([.ref (A 18), .int x1]) (n := 2) (Nat.le_of_ble_eq_true rfl)
  rw [lg_entry_eq]
  generalize (lg_sl ([.ref (A 18), .int x1]) ++ List.replicate (2 - (lg_sl ([.ref (A 18), .int x1])).length) Slot.unset).toArray = ls at hl ⊢
  have hl : lv_has ls 2 [(0, .ref (A 18)), (1, .int x1)] := hl
  generalize hargs : ([.ref (A 18), .int x1] : List Value).toArray = args at hg hts ⊢
  obtain ⟨Q, hQ⟩ : ∃ Q, Q = MQ below (RQi K A rr ss) args s 0 0 (RF A) := ⟨_, rfl⟩
  rw [← hQ]
  have hRet : ∀ (v : Int32) (σ : Sto), some (v, σ) = some (rr, ss) → ∀ (H : Heap) (locs : List Loc), va_P K.1 vwCl (wR K A σ) H → va_D (RF A) (wR K A σ) → va_S (RF A) s.heap H locs → ∀ (pc : Nat) (ls : Array Slot), decode b_Parser_close pc = .ok (.ireturn, 1) → W p l e (headSpec w_Parser_close r_Parser_close).room s m args below meth c H locs 0 0 Q (F0 m pc ls [.int v]) := by
    intro v σ h H locs hP hD hS pc ls hd
    cases h
    subst hQ
    exact W.iret hx hb hr (fun t ht hW => ⟨⟨_, (), rfl, rfl, by rw [ht]; exact hP, RK.warm hW hK, hD⟩, hS.F ht⟩) hS.2.2 hd
  clear hQ
  unfold p_Parser_close at h
  refine lv_aload_n hx hb d_Parser_close_0 rfl (lv_at hl 0 rfl) ?_
  refine gf_Parser_35 hx hb hg hown hK hP d_Parser_close_1 ?_
  refine lv_if_ne (tgt := 9) hx hb d_Parser_close_4 (by decide) (fun c_4 => ?_) (fun c_4 => ?_)
  · replace h := itf c_4 h
    refine lv_aload_n hx hb d_Parser_close_9 rfl (lv_at hl 0 rfl) ?_
    refine lv_dup hx hb d_Parser_close_10 rfl ?_
    refine gf_Parser_35 hx hb hg hown hK hP d_Parser_close_11 ?_
    refine lv_iconst (v := 1) hx hb d_Parser_close_14 (by decide) ?_
    refine lv_isub hx hb d_Parser_close_15 ?_
    refine pf_Parser_35 hx hb hg hown hK hP hD hS d_Parser_close_16 (fun H locs hP hD hS => ?_)
    refine lv_aload_n hx hb d_Parser_close_19 rfl (lv_at hl 0 rfl) ?_
    refine lv_iload_n hx hb d_Parser_close_20 rfl (lv_at hl 1 rfl) ?_
    refine lv_bipush (v := 24) hx hb d_Parser_close_21 (by decide) ?_
    refine lv_bipush (v := 22) hx hb d_Parser_close_23 (by decide) ?_
    obtain ⟨v_25, σ_25, e_25, h⟩ := bd2_some h
    refine R_calli (va_runV (As := [.int x1, .int 24, .int 22]) (rest := []) ⟨hx, hb, hml, hown, hts⟩ (c_Parser_assign l K A e_25) (cwV 3 hts (gd_V wd_380 wd_382 wp_4 wd_7 wd_383) rfl rfl rfl dv_Parser_assign ⟨Nat.le_of_ble_eq_true rfl, Nat.le_of_ble_eq_true rfl⟩) (R_pv_18 hK hP hD) rfl rfl hl.1 rfl (lv_room (Nat.le_of_ble_eq_true rfl)) d_Parser_close_25 ⟨Nat.le_of_ble_eq_true rfl, Nat.le_of_ble_eq_true rfl⟩) hS (fun H locs hP hD hS => ?_)
    exact hRet _ _ h _ _ hP hD hS _ _ d_Parser_close_28
  · replace h := itp c_4 h
    refine lv_iconst (v := 0) hx hb d_Parser_close_7 (by decide) ?_
    exact hRet _ _ h _ _ hP hD hS _ _ d_Parser_close_8
def p_Parser_equalsSign (σ : Sto) (x1 : Int32) : Option (Int32 × Sto) :=
  (if (σ.1 6) = 0 then
      (if (σ.1 9) = 0 then
        some (0, σ)
      else
        bd2 (p_Parser_assign (sS σ 9 0) x1 18 17) fun v_27 σ_27 =>
        some (v_27, σ_27))
    else
      some (0, σ))
abbrev w_Parser_equalsSign : List Cond := Cond.code y_Parser_equalsSign b_Parser_equalsSign 2 (some .int) :: Tg
abbrev r_Parser_equalsSign : Room := { frames := 1, cells := 0, slots := 0, locals := 23 }
theorem dv_Parser_equalsSign : y_Parser_equalsSign.cls = "LanguageServer$Parser" ∧ y_Parser_equalsSign.cls ≠ "java/lang/invoke/MethodHandle" ∧ y_Parser_equalsSign.cls ≠ "java/lang/invoke/VarHandle" ∧ (parseMethodDescriptor y_Parser_equalsSign.desc).map (fun d => d.parameters.length) = some 1 := by decide +kernel
set_option maxHeartbeats 4000000 in
set_option maxRecDepth 100000 in
theorem c_Parser_equalsSign (l : Launch) (K : Kst) (A : Nat → Nat) {σ : Sto} {x1 : Int32} {rr : Int32} {ss : Sto} (h : p_Parser_equalsSign σ x1 = some (rr, ss)) : Met l y_Parser_equalsSign w_Parser_equalsSign r_Parser_equalsSign (va_Pc [.ref (A 18), .int x1] (RB K A σ)) (RQi K A rr ss) 0 0 (RF A) := by
  refine Met.ofW (cc := b_Parser_equalsSign) (maxL := 2) (ret := (some .int)) (by decide) rfl ?_
  intro p e s m args below meth c s₁ B hml hv
  obtain ⟨rfl, hP, hK, hD⟩ := hv
  have hx := B.exec
  have hb := B.bytes
  have hr := B.returns
  have hts := atoms_spec (ws := w_Parser_equalsSign) B.pre
  have hg : ∀ w ∈ Tg, w.before _ s = true := fun w q => hts w (List.mem_cons_of_mem _ q)
  have hown : s.vm.findClass "LanguageServer$Parser" = some m.cls := findClass_of_methodNamed B.named
  have hlocks := B.notSynchronized
  have hS : va_S (RF A) s.heap s.heap [] := va_S.rf
  have hl := lv_entry ([.ref (A 18), .int x1]) (n := 2) (Nat.le_of_ble_eq_true rfl)
  rw [lg_entry_eq]
  generalize (lg_sl ([.ref (A 18), .int x1]) ++ List.replicate (2 - (lg_sl ([.ref (A 18), .int x1])).length) Slot.unset).toArray = ls at hl ⊢
  have hl : lv_has ls 2 [(0, .ref (A 18)), (1, .int x1)] := hl
  generalize hargs : ([.ref (A 18), .int x1] : List Value).toArray = args at hg hts ⊢
  obtain ⟨Q, hQ⟩ : ∃ Q, Q = MQ below (RQi K A rr ss) args s 0 0 (RF A) := ⟨_, rfl⟩
  rw [← hQ]
  have hRet : ∀ (v : Int32) (σ : Sto), some (v, σ) = some (rr, ss) → ∀ (H : Heap) (locs : List Loc), va_P K.1 vwCl (wR K A σ) H → va_D (RF A) (wR K A σ) → va_S (RF A) s.heap H locs → ∀ (pc : Nat) (ls : Array Slot), decode b_Parser_equalsSign pc = .ok (.ireturn, 1) → W p l e (headSpec w_Parser_equalsSign r_Parser_equalsSign).room s m args below meth c H locs 0 0 Q (F0 m pc ls [.int v]) := by
    intro v σ h H locs hP hD hS pc ls hd
    cases h
    subst hQ
    exact W.iret hx hb hr (fun t ht hW => ⟨⟨_, (), rfl, rfl, by rw [ht]; exact hP, RK.warm hW hK, hD⟩, hS.F ht⟩) hS.2.2 hd
  clear hQ
  unfold p_Parser_equalsSign at h
  refine lv_aload_n hx hb d_Parser_equalsSign_0 rfl (lv_at hl 0 rfl) ?_
  refine gf_Parser_35 hx hb hg hown hK hP d_Parser_equalsSign_1 ?_
  refine lv_if_ne (tgt := 14) hx hb d_Parser_equalsSign_4 (by decide) (fun c_4 => ?_) (fun c_4 => ?_)
  · replace h := itf c_4 h
    refine lv_iconst (v := 0) hx hb d_Parser_equalsSign_14 (by decide) ?_
    exact hRet _ _ h _ _ hP hD hS _ _ d_Parser_equalsSign_15
  · replace h := itp c_4 h
    refine lv_aload_n hx hb d_Parser_equalsSign_7 rfl (lv_at hl 0 rfl) ?_
    refine gf_Parser_119 hx hb hg hown hK hP d_Parser_equalsSign_8 ?_
    refine lv_if_ne (tgt := 16) hx hb d_Parser_equalsSign_11 (by decide) (fun c_11 => ?_) (fun c_11 => ?_)
    · replace h := itf c_11 h
      refine lv_aload_n hx hb d_Parser_equalsSign_16 rfl (lv_at hl 0 rfl) ?_
      refine lv_iconst (v := 0) hx hb d_Parser_equalsSign_17 (by decide) ?_
      refine pf_Parser_119 hx hb hg hown hK hP hD hS d_Parser_equalsSign_18 rfl rfl (fun H locs hP hD hS => ?_)
      refine lv_aload_n hx hb d_Parser_equalsSign_21 rfl (lv_at hl 0 rfl) ?_
      refine lv_iload_n hx hb d_Parser_equalsSign_22 rfl (lv_at hl 1 rfl) ?_
      refine lv_bipush (v := 18) hx hb d_Parser_equalsSign_23 (by decide) ?_
      refine lv_bipush (v := 17) hx hb d_Parser_equalsSign_25 (by decide) ?_
      obtain ⟨v_27, σ_27, e_27, h⟩ := bd2_some h
      refine R_calli (va_runV (As := [.int x1, .int 18, .int 17]) (rest := []) ⟨hx, hb, hml, hown, hts⟩ (c_Parser_assign l K A e_27) (cwV 3 hts (gd_V wd_380 wd_382 wp_4 wd_7 wd_383) rfl rfl rfl dv_Parser_assign ⟨Nat.le_of_ble_eq_true rfl, Nat.le_of_ble_eq_true rfl⟩) (R_pv_18 hK hP hD) rfl rfl hl.1 rfl (lv_room (Nat.le_of_ble_eq_true rfl)) d_Parser_equalsSign_27 ⟨Nat.le_of_ble_eq_true rfl, Nat.le_of_ble_eq_true rfl⟩) hS (fun H locs hP hD hS => ?_)
      exact hRet _ _ h _ _ hP hD hS _ _ d_Parser_equalsSign_30
    · replace h := itp c_11 h
      refine lv_iconst (v := 0) hx hb d_Parser_equalsSign_14 (by decide) ?_
      exact hRet _ _ h _ _ hP hD hS _ _ d_Parser_equalsSign_15
def p_Parser_tail (σ : Sto) (x1 : Int32) (x2 : Int32) : Option (Int32 × Sto) :=
  (if x2 = 41 then
      bd2 (p_Parser_close σ x1) fun v_96 σ_96 =>
      some (v_96, σ_96)
    else (if x2 = 43 then
      bd2 (p_Parser_assign σ x1 20 17) fun v_69 σ_69 =>
      some (v_69, σ_69)
    else (if x2 = 44 then
      bd2 (p_Parser_countArgument σ) fun v_74 σ_74 =>
      (if v_74 = 0 then
        some (0, σ_74)
      else
        bd2 (p_Parser_assign σ_74 x1 23 17) fun v_86 σ_86 =>
        some (v_86, σ_86))
    else (if x2 = 46 then
      some (19, σ)
    else (if x2 = 59 then
      (if (σ.1 6) = 0 then
        bd2 (p_Parser_assign σ x1 19 14) fun v_119 σ_119 =>
        some (v_119, σ_119)
      else
        some (0, σ))
    else (if x2 = 61 then
      bd2 (p_Parser_equalsSign σ x1) fun v_102 σ_102 =>
      some (v_102, σ_102)
    else some (0, σ)))))))
abbrev w_Parser_tail : List Cond := Cond.code y_Parser_tail b_Parser_tail 3 (some .int) :: Tg
abbrev r_Parser_tail : Room := { frames := 2, cells := 0, slots := 0, locals := 44 }
theorem dv_Parser_tail : y_Parser_tail.cls = "LanguageServer$Parser" ∧ y_Parser_tail.cls ≠ "java/lang/invoke/MethodHandle" ∧ y_Parser_tail.cls ≠ "java/lang/invoke/VarHandle" ∧ (parseMethodDescriptor y_Parser_tail.desc).map (fun d => d.parameters.length) = some 2 := by decide +kernel
set_option maxHeartbeats 4000000 in
set_option maxRecDepth 100000 in
theorem c_Parser_tail (l : Launch) (K : Kst) (A : Nat → Nat) {σ : Sto} {x1 : Int32} {x2 : Int32} {rr : Int32} {ss : Sto} (h : p_Parser_tail σ x1 x2 = some (rr, ss)) : Met l y_Parser_tail w_Parser_tail r_Parser_tail (va_Pc [.ref (A 18), .int x1, .int x2] (RB K A σ)) (RQi K A rr ss) 0 0 (RF A) := by
  refine Met.ofW (cc := b_Parser_tail) (maxL := 3) (ret := (some .int)) (by decide) rfl ?_
  intro p e s m args below meth c s₁ B hml hv
  obtain ⟨rfl, hP, hK, hD⟩ := hv
  have hx := B.exec
  have hb := B.bytes
  have hr := B.returns
  have hts := atoms_spec (ws := w_Parser_tail) B.pre
  have hg : ∀ w ∈ Tg, w.before _ s = true := fun w q => hts w (List.mem_cons_of_mem _ q)
  have hown : s.vm.findClass "LanguageServer$Parser" = some m.cls := findClass_of_methodNamed B.named
  have hlocks := B.notSynchronized
  have hS : va_S (RF A) s.heap s.heap [] := va_S.rf
  have hl := lv_entry ([.ref (A 18), .int x1, .int x2]) (n := 3) (Nat.le_of_ble_eq_true rfl)
  rw [lg_entry_eq]
  generalize (lg_sl ([.ref (A 18), .int x1, .int x2]) ++ List.replicate (3 - (lg_sl ([.ref (A 18), .int x1, .int x2])).length) Slot.unset).toArray = ls at hl ⊢
  have hl : lv_has ls 3 [(0, .ref (A 18)), (1, .int x1), (2, .int x2)] := hl
  generalize hargs : ([.ref (A 18), .int x1, .int x2] : List Value).toArray = args at hg hts ⊢
  obtain ⟨Q, hQ⟩ : ∃ Q, Q = MQ below (RQi K A rr ss) args s 0 0 (RF A) := ⟨_, rfl⟩
  rw [← hQ]
  have hRet : ∀ (v : Int32) (σ : Sto), some (v, σ) = some (rr, ss) → ∀ (H : Heap) (locs : List Loc), va_P K.1 vwCl (wR K A σ) H → va_D (RF A) (wR K A σ) → va_S (RF A) s.heap H locs → ∀ (pc : Nat) (ls : Array Slot), decode b_Parser_tail pc = .ok (.ireturn, 1) → W p l e (headSpec w_Parser_tail r_Parser_tail).room s m args below meth c H locs 0 0 Q (F0 m pc ls [.int v]) := by
    intro v σ h H locs hP hD hS pc ls hd
    cases h
    subst hQ
    exact W.iret hx hb hr (fun t ht hW => ⟨⟨_, (), rfl, rfl, by rw [ht]; exact hP, RK.warm hW hK, hD⟩, hS.F ht⟩) hS.2.2 hd
  clear hQ
  unfold p_Parser_tail at h
  refine lv_iload_n hx hb d_Parser_tail_0 rfl (lv_at hl 2 rfl) ?_
  by_cases c_1_0 : x2 = 41
  · replace h := itp c_1_0 h
    refine lv_lookup (off := 93) (tgt := 94) hx hb d_Parser_tail_1 (by decide) (by rw [c_1_0]; first | done | rfl | decide) (by decide) ?_
    refine lv_aload_n hx hb d_Parser_tail_94 rfl (lv_at hl 0 rfl) ?_
    refine lv_iload_n hx hb d_Parser_tail_95 rfl (lv_at hl 1 rfl) ?_
    obtain ⟨v_96, σ_96, e_96, h⟩ := bd2_some h
    refine R_calli (va_runV (As := [.int x1]) (rest := []) ⟨hx, hb, hml, hown, hts⟩ (c_Parser_close l K A e_96) (cwV 1 hts (gd_V wd_431 wd_433 wp_16 wd_7 wd_434) rfl rfl rfl dv_Parser_close ⟨Nat.le_of_ble_eq_true rfl, Nat.le_of_ble_eq_true rfl⟩) (R_pv_18 hK hP hD) rfl rfl hl.1 rfl (lv_room (Nat.le_of_ble_eq_true rfl)) d_Parser_tail_96 ⟨Nat.le_of_ble_eq_true rfl, Nat.le_of_ble_eq_true rfl⟩) hS (fun H locs hP hD hS => ?_)
    exact hRet _ _ h _ _ hP hD hS _ _ d_Parser_tail_99
  replace h := itf c_1_0 h
  by_cases c_1_1 : x2 = 43
  · replace h := itp c_1_1 h
    refine lv_lookup (off := 62) (tgt := 63) hx hb d_Parser_tail_1 (by decide) (by rw [c_1_1]; first | done | rfl | decide) (by decide) ?_
    refine lv_aload_n hx hb d_Parser_tail_63 rfl (lv_at hl 0 rfl) ?_
    refine lv_iload_n hx hb d_Parser_tail_64 rfl (lv_at hl 1 rfl) ?_
    refine lv_bipush (v := 20) hx hb d_Parser_tail_65 (by decide) ?_
    refine lv_bipush (v := 17) hx hb d_Parser_tail_67 (by decide) ?_
    obtain ⟨v_69, σ_69, e_69, h⟩ := bd2_some h
    refine R_calli (va_runV (As := [.int x1, .int 20, .int 17]) (rest := []) ⟨hx, hb, hml, hown, hts⟩ (c_Parser_assign l K A e_69) (cwV 3 hts (gd_V wd_380 wd_382 wp_4 wd_7 wd_383) rfl rfl rfl dv_Parser_assign ⟨Nat.le_of_ble_eq_true rfl, Nat.le_of_ble_eq_true rfl⟩) (R_pv_18 hK hP hD) rfl rfl hl.1 rfl (lv_room (Nat.le_of_ble_eq_true rfl)) d_Parser_tail_69 ⟨Nat.le_of_ble_eq_true rfl, Nat.le_of_ble_eq_true rfl⟩) hS (fun H locs hP hD hS => ?_)
    exact hRet _ _ h _ _ hP hD hS _ _ d_Parser_tail_72
  replace h := itf c_1_1 h
  by_cases c_1_2 : x2 = 44
  · replace h := itp c_1_2 h
    refine lv_lookup (off := 72) (tgt := 73) hx hb d_Parser_tail_1 (by decide) (by rw [c_1_2]; first | done | rfl | decide) (by decide) ?_
    refine lv_aload_n hx hb d_Parser_tail_73 rfl (lv_at hl 0 rfl) ?_
    obtain ⟨v_74, σ_74, e_74, h⟩ := bd2_some h
    refine R_calli (va_runV (As := []) (rest := []) ⟨hx, hb, hml, hown, hts⟩ (c_Parser_countArgument l K A e_74) (cwV 0 hts (gd_V wd_427 wd_429 wp_15 wd_7 wd_430) rfl rfl rfl dv_Parser_countArgument ⟨Nat.le_of_ble_eq_true rfl, Nat.le_of_ble_eq_true rfl⟩) (R_pv_18 hK hP hD) rfl rfl hl.1 rfl (lv_room (Nat.le_of_ble_eq_true rfl)) d_Parser_tail_74 ⟨Nat.le_of_ble_eq_true rfl, Nat.le_of_ble_eq_true rfl⟩) hS (fun H locs hP hD hS => ?_)
    refine lv_if_eq (tgt := 92) hx hb d_Parser_tail_77 (by decide) (fun c_77 => ?_) (fun c_77 => ?_)
    · replace h := itp c_77 h
      refine lv_iconst (v := 0) hx hb d_Parser_tail_92 (by decide) ?_
      exact hRet _ _ h _ _ hP hD hS _ _ d_Parser_tail_93
    · replace h := itf c_77 h
      refine lv_aload_n hx hb d_Parser_tail_80 rfl (lv_at hl 0 rfl) ?_
      refine lv_iload_n hx hb d_Parser_tail_81 rfl (lv_at hl 1 rfl) ?_
      refine lv_bipush (v := 23) hx hb d_Parser_tail_82 (by decide) ?_
      refine lv_bipush (v := 17) hx hb d_Parser_tail_84 (by decide) ?_
      obtain ⟨v_86, σ_86, e_86, h⟩ := bd2_some h
      refine R_calli (va_runV (As := [.int x1, .int 23, .int 17]) (rest := []) ⟨hx, hb, hml, hown, hts⟩ (c_Parser_assign l K A e_86) (cwV 3 hts (gd_V wd_380 wd_382 wp_4 wd_7 wd_383) rfl rfl rfl dv_Parser_assign ⟨Nat.le_of_ble_eq_true rfl, Nat.le_of_ble_eq_true rfl⟩) (R_pv_18 hK hP hD) rfl rfl hl.1 rfl (lv_room (Nat.le_of_ble_eq_true rfl)) d_Parser_tail_86 ⟨Nat.le_of_ble_eq_true rfl, Nat.le_of_ble_eq_true rfl⟩) hS (fun H locs hP hD hS => ?_)
      refine lv_goto (tgt := 93) hx hb d_Parser_tail_89 (by decide) ?_
      exact hRet _ _ h _ _ hP hD hS _ _ d_Parser_tail_93
  replace h := itf c_1_2 h
  by_cases c_1_3 : x2 = 46
  · replace h := itp c_1_3 h
    refine lv_lookup (off := 59) (tgt := 60) hx hb d_Parser_tail_1 (by decide) (by rw [c_1_3]; first | done | rfl | decide) (by decide) ?_
    refine lv_bipush (v := 19) hx hb d_Parser_tail_60 (by decide) ?_
    exact hRet _ _ h _ _ hP hD hS _ _ d_Parser_tail_62
  replace h := itf c_1_3 h
  by_cases c_1_4 : x2 = 59
  · replace h := itp c_1_4 h
    refine lv_lookup (off := 105) (tgt := 106) hx hb d_Parser_tail_1 (by decide) (by rw [c_1_4]; first | done | rfl | decide) (by decide) ?_
    refine lv_aload_n hx hb d_Parser_tail_106 rfl (lv_at hl 0 rfl) ?_
    refine gf_Parser_35 hx hb hg hown hK hP d_Parser_tail_107 ?_
    refine lv_if_ne (tgt := 125) hx hb d_Parser_tail_110 (by decide) (fun c_110 => ?_) (fun c_110 => ?_)
    · replace h := itf c_110 h
      refine lv_iconst (v := 0) hx hb d_Parser_tail_125 (by decide) ?_
      exact hRet _ _ h _ _ hP hD hS _ _ d_Parser_tail_126
    · replace h := itp c_110 h
      refine lv_aload_n hx hb d_Parser_tail_113 rfl (lv_at hl 0 rfl) ?_
      refine lv_iload_n hx hb d_Parser_tail_114 rfl (lv_at hl 1 rfl) ?_
      refine lv_bipush (v := 19) hx hb d_Parser_tail_115 (by decide) ?_
      refine lv_bipush (v := 14) hx hb d_Parser_tail_117 (by decide) ?_
      obtain ⟨v_119, σ_119, e_119, h⟩ := bd2_some h
      refine R_calli (va_runV (As := [.int x1, .int 19, .int 14]) (rest := []) ⟨hx, hb, hml, hown, hts⟩ (c_Parser_assign l K A e_119) (cwV 3 hts (gd_V wd_380 wd_382 wp_4 wd_7 wd_383) rfl rfl rfl dv_Parser_assign ⟨Nat.le_of_ble_eq_true rfl, Nat.le_of_ble_eq_true rfl⟩) (R_pv_18 hK hP hD) rfl rfl hl.1 rfl (lv_room (Nat.le_of_ble_eq_true rfl)) d_Parser_tail_119 ⟨Nat.le_of_ble_eq_true rfl, Nat.le_of_ble_eq_true rfl⟩) hS (fun H locs hP hD hS => ?_)
      refine lv_goto (tgt := 126) hx hb d_Parser_tail_122 (by decide) ?_
      exact hRet _ _ h _ _ hP hD hS _ _ d_Parser_tail_126
  replace h := itf c_1_4 h
  by_cases c_1_5 : x2 = 61
  · replace h := itp c_1_5 h
    refine lv_lookup (off := 99) (tgt := 100) hx hb d_Parser_tail_1 (by decide) (by rw [c_1_5]; first | done | rfl | decide) (by decide) ?_
    refine lv_aload_n hx hb d_Parser_tail_100 rfl (lv_at hl 0 rfl) ?_
    refine lv_iload_n hx hb d_Parser_tail_101 rfl (lv_at hl 1 rfl) ?_
    obtain ⟨v_102, σ_102, e_102, h⟩ := bd2_some h
    refine R_calli (va_runV (As := [.int x1]) (rest := []) ⟨hx, hb, hml, hown, hts⟩ (c_Parser_equalsSign l K A e_102) (cwV 1 hts (gd_V wd_435 wd_437 wp_17 wd_7 wd_438) rfl rfl rfl dv_Parser_equalsSign ⟨Nat.le_of_ble_eq_true rfl, Nat.le_of_ble_eq_true rfl⟩) (R_pv_18 hK hP hD) rfl rfl hl.1 rfl (lv_room (Nat.le_of_ble_eq_true rfl)) d_Parser_tail_102 ⟨Nat.le_of_ble_eq_true rfl, Nat.le_of_ble_eq_true rfl⟩) hS (fun H locs hP hD hS => ?_)
    exact hRet _ _ h _ _ hP hD hS _ _ d_Parser_tail_105
  replace h := itf c_1_5 h
  refine lv_lookup (off := 126) (tgt := 127) hx hb d_Parser_tail_1 (by decide) ((lv_osw c_1_0 rfl).trans ((lv_osw c_1_1 rfl).trans ((lv_osw c_1_2 rfl).trans ((lv_osw c_1_3 rfl).trans ((lv_osw c_1_4 rfl).trans ((lv_osw c_1_5 rfl).trans rfl)))))) (by decide) ?_
  refine lv_iconst (v := 0) hx hb d_Parser_tail_127 (by decide) ?_
  exact hRet _ _ h _ _ hP hD hS _ _ d_Parser_tail_128
def p_Parser_firstArgument (σ : Sto) (x1 : Int32) (x2 : Int32) : Option (Int32 × Sto) :=
  (if x2 = 41 then
      bd2 (p_Parser_close σ x1) fun v_8 σ_8 =>
      some (v_8, σ_8)
    else
      bd2 (p_Parser_countArgument σ) fun v_13 σ_13 =>
      bd2 (p_Parser_operand σ_13 x1 x2) fun v_20 σ_20 =>
      some (v_20, σ_20))
abbrev w_Parser_firstArgument : List Cond := Cond.code y_Parser_firstArgument b_Parser_firstArgument 3 (some .int) :: Tg
abbrev r_Parser_firstArgument : Room := { frames := 2, cells := 0, slots := 0, locals := 45 }
theorem dv_Parser_firstArgument : y_Parser_firstArgument.cls = "LanguageServer$Parser" ∧ y_Parser_firstArgument.cls ≠ "java/lang/invoke/MethodHandle" ∧ y_Parser_firstArgument.cls ≠ "java/lang/invoke/VarHandle" ∧ (parseMethodDescriptor y_Parser_firstArgument.desc).map (fun d => d.parameters.length) = some 2 := by decide +kernel
set_option maxHeartbeats 4000000 in
set_option maxRecDepth 100000 in
theorem c_Parser_firstArgument (l : Launch) (K : Kst) (A : Nat → Nat) {σ : Sto} {x1 : Int32} {x2 : Int32} {rr : Int32} {ss : Sto} (h : p_Parser_firstArgument σ x1 x2 = some (rr, ss)) : Met l y_Parser_firstArgument w_Parser_firstArgument r_Parser_firstArgument (va_Pc [.ref (A 18), .int x1, .int x2] (RB K A σ)) (RQi K A rr ss) 0 0 (RF A) := by
  refine Met.ofW (cc := b_Parser_firstArgument) (maxL := 3) (ret := (some .int)) (by decide) rfl ?_
  intro p e s m args below meth c s₁ B hml hv
  obtain ⟨rfl, hP, hK, hD⟩ := hv
  have hx := B.exec
  have hb := B.bytes
  have hr := B.returns
  have hts := atoms_spec (ws := w_Parser_firstArgument) B.pre
  have hg : ∀ w ∈ Tg, w.before _ s = true := fun w q => hts w (List.mem_cons_of_mem _ q)
  have hown : s.vm.findClass "LanguageServer$Parser" = some m.cls := findClass_of_methodNamed B.named
  have hlocks := B.notSynchronized
  have hS : va_S (RF A) s.heap s.heap [] := va_S.rf
  have hl := lv_entry ([.ref (A 18), .int x1, .int x2]) (n := 3) (Nat.le_of_ble_eq_true rfl)
  rw [lg_entry_eq]
  generalize (lg_sl ([.ref (A 18), .int x1, .int x2]) ++ List.replicate (3 - (lg_sl ([.ref (A 18), .int x1, .int x2])).length) Slot.unset).toArray = ls at hl ⊢
  have hl : lv_has ls 3 [(0, .ref (A 18)), (1, .int x1), (2, .int x2)] := hl
  generalize hargs : ([.ref (A 18), .int x1, .int x2] : List Value).toArray = args at hg hts ⊢
  obtain ⟨Q, hQ⟩ : ∃ Q, Q = MQ below (RQi K A rr ss) args s 0 0 (RF A) := ⟨_, rfl⟩
  rw [← hQ]
  have hRet : ∀ (v : Int32) (σ : Sto), some (v, σ) = some (rr, ss) → ∀ (H : Heap) (locs : List Loc), va_P K.1 vwCl (wR K A σ) H → va_D (RF A) (wR K A σ) → va_S (RF A) s.heap H locs → ∀ (pc : Nat) (ls : Array Slot), decode b_Parser_firstArgument pc = .ok (.ireturn, 1) → W p l e (headSpec w_Parser_firstArgument r_Parser_firstArgument).room s m args below meth c H locs 0 0 Q (F0 m pc ls [.int v]) := by
    intro v σ h H locs hP hD hS pc ls hd
    cases h
    subst hQ
    exact W.iret hx hb hr (fun t ht hW => ⟨⟨_, (), rfl, rfl, by rw [ht]; exact hP, RK.warm hW hK, hD⟩, hS.F ht⟩) hS.2.2 hd
  clear hQ
  unfold p_Parser_firstArgument at h
  refine lv_iload_n hx hb d_Parser_firstArgument_0 rfl (lv_at hl 2 rfl) ?_
  refine lv_bipush (v := 41) hx hb d_Parser_firstArgument_1 (by decide) ?_
  refine lv_icmp_ne (tgt := 12) hx hb d_Parser_firstArgument_3 (by decide) (fun c_3 => ?_) (fun c_3 => ?_)
  · replace h := itf c_3 h
    refine lv_aload_n hx hb d_Parser_firstArgument_12 rfl (lv_at hl 0 rfl) ?_
    obtain ⟨v_13, σ_13, e_13, h⟩ := bd2_some h
    refine R_calli (va_runV (As := []) (rest := []) ⟨hx, hb, hml, hown, hts⟩ (c_Parser_countArgument l K A e_13) (cwV 0 hts (gd_V wd_427 wd_429 wp_15 wd_7 wd_430) rfl rfl rfl dv_Parser_countArgument ⟨Nat.le_of_ble_eq_true rfl, Nat.le_of_ble_eq_true rfl⟩) (R_pv_18 hK hP hD) rfl rfl hl.1 rfl (lv_room (Nat.le_of_ble_eq_true rfl)) d_Parser_firstArgument_13 ⟨Nat.le_of_ble_eq_true rfl, Nat.le_of_ble_eq_true rfl⟩) hS (fun H locs hP hD hS => ?_)
    refine lv_pop hx hb d_Parser_firstArgument_16 rfl ?_
    refine lv_aload_n hx hb d_Parser_firstArgument_17 rfl (lv_at hl 0 rfl) ?_
    refine lv_iload_n hx hb d_Parser_firstArgument_18 rfl (lv_at hl 1 rfl) ?_
    refine lv_iload_n hx hb d_Parser_firstArgument_19 rfl (lv_at hl 2 rfl) ?_
    obtain ⟨v_20, σ_20, e_20, h⟩ := bd2_some h
    refine R_calli (va_runV (As := [.int x1, .int x2]) (rest := []) ⟨hx, hb, hml, hown, hts⟩ (c_Parser_operand l K A e_20) (cwV 2 hts (gd_V wd_407 wd_409 wp_10 wd_7 wd_410) rfl rfl rfl dv_Parser_operand ⟨Nat.le_of_ble_eq_true rfl, Nat.le_of_ble_eq_true rfl⟩) (R_pv_18 hK hP hD) rfl rfl hl.1 rfl (lv_room (Nat.le_of_ble_eq_true rfl)) d_Parser_firstArgument_20 ⟨Nat.le_of_ble_eq_true rfl, Nat.le_of_ble_eq_true rfl⟩) hS (fun H locs hP hD hS => ?_)
    exact hRet _ _ h _ _ hP hD hS _ _ d_Parser_firstArgument_23
  · replace h := itp c_3 h
    refine lv_aload_n hx hb d_Parser_firstArgument_6 rfl (lv_at hl 0 rfl) ?_
    refine lv_iload_n hx hb d_Parser_firstArgument_7 rfl (lv_at hl 1 rfl) ?_
    obtain ⟨v_8, σ_8, e_8, h⟩ := bd2_some h
    refine R_calli (va_runV (As := [.int x1]) (rest := []) ⟨hx, hb, hml, hown, hts⟩ (c_Parser_close l K A e_8) (cwV 1 hts (gd_V wd_431 wd_433 wp_16 wd_7 wd_434) rfl rfl rfl dv_Parser_close ⟨Nat.le_of_ble_eq_true rfl, Nat.le_of_ble_eq_true rfl⟩) (R_pv_18 hK hP hD) rfl rfl hl.1 rfl (lv_room (Nat.le_of_ble_eq_true rfl)) d_Parser_firstArgument_8 ⟨Nat.le_of_ble_eq_true rfl, Nat.le_of_ble_eq_true rfl⟩) hS (fun H locs hP hD hS => ?_)
    exact hRet _ _ h _ _ hP hD hS _ _ d_Parser_firstArgument_11
def p_Parser_nextInExpression (σ : Sto) (x1 : Int32) (x2 : Int32) : Option (Int32 × Sto) :=
  (if (σ.1 7) = 17 then
      bd2 (p_Parser_operand σ x1 x2) fun v_43 σ_43 =>
      some (v_43, σ_43)
    else (if (σ.1 7) = 18 then
      bd2 (p_Parser_name σ x1 x2 8 22) fun v_54 σ_54 =>
      some (v_54, σ_54)
    else (if (σ.1 7) = 19 then
      bd2 (p_Parser_name σ x1 x2 11 20) fun v_65 σ_65 =>
      some (v_65, σ_65)
    else (if (σ.1 7) = 20 then
      (if x2 = 40 then
        bd2 (p_Parser_openArguments σ x1) fun v_77 σ_77 =>
        some (v_77, σ_77)
      else
        bd2 (p_Parser_tail σ x1 x2) fun v_86 σ_86 =>
        some (v_86, σ_86))
    else (if (σ.1 7) = 21 then
      bd2 (p_Parser_firstArgument σ x1 x2) fun v_93 σ_93 =>
      some (v_93, σ_93)
    else bd2 (p_Parser_tail σ x1 x2) fun v_100 σ_100 =>
      some (v_100, σ_100))))))
abbrev w_Parser_nextInExpression : List Cond := Cond.code y_Parser_nextInExpression b_Parser_nextInExpression 3 (some .int) :: Tg
abbrev r_Parser_nextInExpression : Room := { frames := 3, cells := 0, slots := 0, locals := 67 }
theorem dv_Parser_nextInExpression : y_Parser_nextInExpression.cls = "LanguageServer$Parser" ∧ y_Parser_nextInExpression.cls ≠ "java/lang/invoke/MethodHandle" ∧ y_Parser_nextInExpression.cls ≠ "java/lang/invoke/VarHandle" ∧ (parseMethodDescriptor y_Parser_nextInExpression.desc).map (fun d => d.parameters.length) = some 2 := by decide +kernel
set_option maxHeartbeats 4000000 in
set_option maxRecDepth 100000 in
theorem c_Parser_nextInExpression (l : Launch) (K : Kst) (A : Nat → Nat) {σ : Sto} {x1 : Int32} {x2 : Int32} {rr : Int32} {ss : Sto} (h : p_Parser_nextInExpression σ x1 x2 = some (rr, ss)) : Met l y_Parser_nextInExpression w_Parser_nextInExpression r_Parser_nextInExpression (va_Pc [.ref (A 18), .int x1, .int x2] (RB K A σ)) (RQi K A rr ss) 0 0 (RF A) := by
  refine Met.ofW (cc := b_Parser_nextInExpression) (maxL := 3) (ret := (some .int)) (by decide) rfl ?_
  intro p e s m args below meth c s₁ B hml hv
  obtain ⟨rfl, hP, hK, hD⟩ := hv
  have hx := B.exec
  have hb := B.bytes
  have hr := B.returns
  have hts := atoms_spec (ws := w_Parser_nextInExpression) B.pre
  have hg : ∀ w ∈ Tg, w.before _ s = true := fun w q => hts w (List.mem_cons_of_mem _ q)
  have hown : s.vm.findClass "LanguageServer$Parser" = some m.cls := findClass_of_methodNamed B.named
  have hlocks := B.notSynchronized
  have hS : va_S (RF A) s.heap s.heap [] := va_S.rf
  have hl := lv_entry ([.ref (A 18), .int x1, .int x2]) (n := 3) (Nat.le_of_ble_eq_true rfl)
  rw [lg_entry_eq]
  generalize (lg_sl ([.ref (A 18), .int x1, .int x2]) ++ List.replicate (3 - (lg_sl ([.ref (A 18), .int x1, .int x2])).length) Slot.unset).toArray = ls at hl ⊢
  have hl : lv_has ls 3 [(0, .ref (A 18)), (1, .int x1), (2, .int x2)] := hl
  generalize hargs : ([.ref (A 18), .int x1, .int x2] : List Value).toArray = args at hg hts ⊢
  obtain ⟨Q, hQ⟩ : ∃ Q, Q = MQ below (RQi K A rr ss) args s 0 0 (RF A) := ⟨_, rfl⟩
  rw [← hQ]
  have hRet : ∀ (v : Int32) (σ : Sto), some (v, σ) = some (rr, ss) → ∀ (H : Heap) (locs : List Loc), va_P K.1 vwCl (wR K A σ) H → va_D (RF A) (wR K A σ) → va_S (RF A) s.heap H locs → ∀ (pc : Nat) (ls : Array Slot), decode b_Parser_nextInExpression pc = .ok (.ireturn, 1) → W p l e (headSpec w_Parser_nextInExpression r_Parser_nextInExpression).room s m args below meth c H locs 0 0 Q (F0 m pc ls [.int v]) := by
    intro v σ h H locs hP hD hS pc ls hd
    cases h
    subst hQ
    exact W.iret hx hb hr (fun t ht hW => ⟨⟨_, (), rfl, rfl, by rw [ht]; exact hP, RK.warm hW hK, hD⟩, hS.F ht⟩) hS.2.2 hd
  clear hQ
  unfold p_Parser_nextInExpression at h
  refine lv_aload_n hx hb d_Parser_nextInExpression_0 rfl (lv_at hl 0 rfl) ?_
  refine gf_Parser_39 hx hb hg hown hK hP d_Parser_nextInExpression_1 ?_
  by_cases c_4_0 : (σ.1 7) = 17
  · replace h := itp c_4_0 h
    refine lv_tableIn (off := 36) (tgt := 40) hx hb d_Parser_nextInExpression_4 (by rw [c_4_0]; decide) (by rw [c_4_0]; decide) (by rw [c_4_0]; first | done | rfl | decide) (by decide) ?_
    refine lv_aload_n hx hb d_Parser_nextInExpression_40 rfl (lv_at hl 0 rfl) ?_
    refine lv_iload_n hx hb d_Parser_nextInExpression_41 rfl (lv_at hl 1 rfl) ?_
    refine lv_iload_n hx hb d_Parser_nextInExpression_42 rfl (lv_at hl 2 rfl) ?_
    obtain ⟨v_43, σ_43, e_43, h⟩ := bd2_some h
    refine R_calli (va_runV (As := [.int x1, .int x2]) (rest := []) ⟨hx, hb, hml, hown, hts⟩ (c_Parser_operand l K A e_43) (cwV 2 hts (gd_V wd_407 wd_409 wp_10 wd_7 wd_410) rfl rfl rfl dv_Parser_operand ⟨Nat.le_of_ble_eq_true rfl, Nat.le_of_ble_eq_true rfl⟩) (R_pv_18 hK hP hD) rfl rfl hl.1 rfl (lv_room (Nat.le_of_ble_eq_true rfl)) d_Parser_nextInExpression_43 ⟨Nat.le_of_ble_eq_true rfl, Nat.le_of_ble_eq_true rfl⟩) hS (fun H locs hP hD hS => ?_)
    exact hRet _ _ h _ _ hP hD hS _ _ d_Parser_nextInExpression_46
  replace h := itf c_4_0 h
  by_cases c_4_1 : (σ.1 7) = 18
  · replace h := itp c_4_1 h
    refine lv_tableIn (off := 43) (tgt := 47) hx hb d_Parser_nextInExpression_4 (by rw [c_4_1]; decide) (by rw [c_4_1]; decide) (by rw [c_4_1]; first | done | rfl | decide) (by decide) ?_
    refine lv_aload_n hx hb d_Parser_nextInExpression_47 rfl (lv_at hl 0 rfl) ?_
    refine lv_iload_n hx hb d_Parser_nextInExpression_48 rfl (lv_at hl 1 rfl) ?_
    refine lv_iload_n hx hb d_Parser_nextInExpression_49 rfl (lv_at hl 2 rfl) ?_
    refine lv_bipush (v := 8) hx hb d_Parser_nextInExpression_50 (by decide) ?_
    refine lv_bipush (v := 22) hx hb d_Parser_nextInExpression_52 (by decide) ?_
    obtain ⟨v_54, σ_54, e_54, h⟩ := bd2_some h
    refine R_calli (va_runV (As := [.int x1, .int x2, .int 8, .int 22]) (rest := []) ⟨hx, hb, hml, hown, hts⟩ (c_Parser_name l K A e_54) (cwV 4 hts (gd_V wd_376 wd_378 wp_3 wd_7 wd_379) rfl rfl rfl dv_Parser_name ⟨Nat.le_of_ble_eq_true rfl, Nat.le_of_ble_eq_true rfl⟩) (R_pv_18 hK hP hD) rfl rfl hl.1 rfl (lv_room (Nat.le_of_ble_eq_true rfl)) d_Parser_nextInExpression_54 ⟨Nat.le_of_ble_eq_true rfl, Nat.le_of_ble_eq_true rfl⟩) hS (fun H locs hP hD hS => ?_)
    exact hRet _ _ h _ _ hP hD hS _ _ d_Parser_nextInExpression_57
  replace h := itf c_4_1 h
  by_cases c_4_2 : (σ.1 7) = 19
  · replace h := itp c_4_2 h
    refine lv_tableIn (off := 54) (tgt := 58) hx hb d_Parser_nextInExpression_4 (by rw [c_4_2]; decide) (by rw [c_4_2]; decide) (by rw [c_4_2]; first | done | rfl | decide) (by decide) ?_
    refine lv_aload_n hx hb d_Parser_nextInExpression_58 rfl (lv_at hl 0 rfl) ?_
    refine lv_iload_n hx hb d_Parser_nextInExpression_59 rfl (lv_at hl 1 rfl) ?_
    refine lv_iload_n hx hb d_Parser_nextInExpression_60 rfl (lv_at hl 2 rfl) ?_
    refine lv_bipush (v := 11) hx hb d_Parser_nextInExpression_61 (by decide) ?_
    refine lv_bipush (v := 20) hx hb d_Parser_nextInExpression_63 (by decide) ?_
    obtain ⟨v_65, σ_65, e_65, h⟩ := bd2_some h
    refine R_calli (va_runV (As := [.int x1, .int x2, .int 11, .int 20]) (rest := []) ⟨hx, hb, hml, hown, hts⟩ (c_Parser_name l K A e_65) (cwV 4 hts (gd_V wd_376 wd_378 wp_3 wd_7 wd_379) rfl rfl rfl dv_Parser_name ⟨Nat.le_of_ble_eq_true rfl, Nat.le_of_ble_eq_true rfl⟩) (R_pv_18 hK hP hD) rfl rfl hl.1 rfl (lv_room (Nat.le_of_ble_eq_true rfl)) d_Parser_nextInExpression_65 ⟨Nat.le_of_ble_eq_true rfl, Nat.le_of_ble_eq_true rfl⟩) hS (fun H locs hP hD hS => ?_)
    exact hRet _ _ h _ _ hP hD hS _ _ d_Parser_nextInExpression_68
  replace h := itf c_4_2 h
  by_cases c_4_3 : (σ.1 7) = 20
  · replace h := itp c_4_3 h
    refine lv_tableIn (off := 65) (tgt := 69) hx hb d_Parser_nextInExpression_4 (by rw [c_4_3]; decide) (by rw [c_4_3]; decide) (by rw [c_4_3]; first | done | rfl | decide) (by decide) ?_
    refine lv_iload_n hx hb d_Parser_nextInExpression_69 rfl (lv_at hl 2 rfl) ?_
    refine lv_bipush (v := 40) hx hb d_Parser_nextInExpression_70 (by decide) ?_
    refine lv_icmp_ne (tgt := 83) hx hb d_Parser_nextInExpression_72 (by decide) (fun c_72 => ?_) (fun c_72 => ?_)
    · replace h := itf c_72 h
      refine lv_aload_n hx hb d_Parser_nextInExpression_83 rfl (lv_at hl 0 rfl) ?_
      refine lv_iload_n hx hb d_Parser_nextInExpression_84 rfl (lv_at hl 1 rfl) ?_
      refine lv_iload_n hx hb d_Parser_nextInExpression_85 rfl (lv_at hl 2 rfl) ?_
      obtain ⟨v_86, σ_86, e_86, h⟩ := bd2_some h
      refine R_calli (va_runV (As := [.int x1, .int x2]) (rest := []) ⟨hx, hb, hml, hown, hts⟩ (c_Parser_tail l K A e_86) (cwV 2 hts (gd_V wd_423 wd_425 wp_14 wd_7 wd_426) rfl rfl rfl dv_Parser_tail ⟨Nat.le_of_ble_eq_true rfl, Nat.le_of_ble_eq_true rfl⟩) (R_pv_18 hK hP hD) rfl rfl hl.1 rfl (lv_room (Nat.le_of_ble_eq_true rfl)) d_Parser_nextInExpression_86 ⟨Nat.le_of_ble_eq_true rfl, Nat.le_of_ble_eq_true rfl⟩) hS (fun H locs hP hD hS => ?_)
      exact hRet _ _ h _ _ hP hD hS _ _ d_Parser_nextInExpression_89
    · replace h := itp c_72 h
      refine lv_aload_n hx hb d_Parser_nextInExpression_75 rfl (lv_at hl 0 rfl) ?_
      refine lv_iload_n hx hb d_Parser_nextInExpression_76 rfl (lv_at hl 1 rfl) ?_
      obtain ⟨v_77, σ_77, e_77, h⟩ := bd2_some h
      refine R_calli (va_runV (As := [.int x1]) (rest := []) ⟨hx, hb, hml, hown, hts⟩ (c_Parser_opnArguments l K A e_77) (cwV 1 hts (gd_V wd_419 wd_421 wp_13 wd_7 wd_422) rfl rfl rfl dv_Parser_opnArguments ⟨Nat.le_of_ble_eq_true rfl, Nat.le_of_ble_eq_true rfl⟩) (R_pv_18 hK hP hD) rfl rfl hl.1 rfl (lv_room (Nat.le_of_ble_eq_true rfl)) d_Parser_nextInExpression_77 ⟨Nat.le_of_ble_eq_true rfl, Nat.le_of_ble_eq_true rfl⟩) hS (fun H locs hP hD hS => ?_)
      refine lv_goto (tgt := 89) hx hb d_Parser_nextInExpression_80 (by decide) ?_
      exact hRet _ _ h _ _ hP hD hS _ _ d_Parser_nextInExpression_89
  replace h := itf c_4_3 h
  by_cases c_4_4 : (σ.1 7) = 21
  · replace h := itp c_4_4 h
    refine lv_tableIn (off := 86) (tgt := 90) hx hb d_Parser_nextInExpression_4 (by rw [c_4_4]; decide) (by rw [c_4_4]; decide) (by rw [c_4_4]; first | done | rfl | decide) (by decide) ?_
    refine lv_aload_n hx hb d_Parser_nextInExpression_90 rfl (lv_at hl 0 rfl) ?_
    refine lv_iload_n hx hb d_Parser_nextInExpression_91 rfl (lv_at hl 1 rfl) ?_
    refine lv_iload_n hx hb d_Parser_nextInExpression_92 rfl (lv_at hl 2 rfl) ?_
    obtain ⟨v_93, σ_93, e_93, h⟩ := bd2_some h
    refine R_calli (va_runV (As := [.int x1, .int x2]) (rest := []) ⟨hx, hb, hml, hown, hts⟩ (c_Parser_firstArgument l K A e_93) (cwV 2 hts (gd_V wd_439 wd_441 wp_18 wd_7 wd_442) rfl rfl rfl dv_Parser_firstArgument ⟨Nat.le_of_ble_eq_true rfl, Nat.le_of_ble_eq_true rfl⟩) (R_pv_18 hK hP hD) rfl rfl hl.1 rfl (lv_room (Nat.le_of_ble_eq_true rfl)) d_Parser_nextInExpression_93 ⟨Nat.le_of_ble_eq_true rfl, Nat.le_of_ble_eq_true rfl⟩) hS (fun H locs hP hD hS => ?_)
    exact hRet _ _ h _ _ hP hD hS _ _ d_Parser_nextInExpression_96
  replace h := itf c_4_4 h
  have n_0 := lv_neT c_4_0 (a := 17) rfl
  have n_1 := lv_neT c_4_1 (a := 18) rfl
  have n_2 := lv_neT c_4_2 (a := 19) rfl
  have n_3 := lv_neT c_4_3 (a := 20) rfl
  have n_4 := lv_neT c_4_4 (a := 21) rfl
  refine lv_tableOut (tgt := 97) hx hb d_Parser_nextInExpression_4 (by omega) (by decide) ?_
  refine lv_aload_n hx hb d_Parser_nextInExpression_97 rfl (lv_at hl 0 rfl) ?_
  refine lv_iload_n hx hb d_Parser_nextInExpression_98 rfl (lv_at hl 1 rfl) ?_
  refine lv_iload_n hx hb d_Parser_nextInExpression_99 rfl (lv_at hl 2 rfl) ?_
  obtain ⟨v_100, σ_100, e_100, h⟩ := bd2_some h
  refine R_calli (va_runV (As := [.int x1, .int x2]) (rest := []) ⟨hx, hb, hml, hown, hts⟩ (c_Parser_tail l K A e_100) (cwV 2 hts (gd_V wd_423 wd_425 wp_14 wd_7 wd_426) rfl rfl rfl dv_Parser_tail ⟨Nat.le_of_ble_eq_true rfl, Nat.le_of_ble_eq_true rfl⟩) (R_pv_18 hK hP hD) rfl rfl hl.1 rfl (lv_room (Nat.le_of_ble_eq_true rfl)) d_Parser_nextInExpression_100 ⟨Nat.le_of_ble_eq_true rfl, Nat.le_of_ble_eq_true rfl⟩) hS (fun H locs hP hD hS => ?_)
  exact hRet _ _ h _ _ hP hD hS _ _ d_Parser_nextInExpression_103
def p_Parser_parse_b123 (k26 : Sto → Int32 → Option Sto) (σ : Sto) (x1 : Int32) : Option Sto :=
  (if (σ.1 7) = 0 then
      bd1 (p_Outline_giveUp σ x1) fun σ_135 =>
      if inR x1 121 then bd1 (p_Complaints_setFault σ_135 (σ_135.2.1 4 x1.toNatClampNeg)) fun σ_151 =>
      some σ_151 else none
    else
      k26 σ (x1 + 1))
def p_Parser_parse_L26 : Nat → Sto → Int32 → Option Sto
  | 0, _, _ => none
  | n + 1, σ, x1 =>
    (if (σ.1 2) ≤ x1 then
        (if (σ.1 7) = 1 then
          bd1 (p_Outline_finish σ (σ.1 2)) fun σ_229 =>
          some σ_229
        else
          (if (σ.1 2) ≤ 0 then
            bd1 (p_Outline_finish σ (σ.1 2)) fun σ_229 =>
            some σ_229
          else
            bd1 (p_Outline_giveUp σ (σ.1 2)) fun σ_190 =>
            if inR ((σ_190.1 2) - 1) 121 then bd1 (p_Complaints_setFault σ_190 (σ_190.2.1 5 (((σ_190.1 2) - 1).toNatClampNeg))) fun σ_214 =>
            some σ_214 else none))
      else
        if inR x1 121 then (if (8 : Int32) < (σ.1 7) then
          (if (13 : Int32) < (σ.1 7) then
            (if (16 : Int32) < (σ.1 7) then
              bd2 (p_Parser_nextInExpression σ x1 (σ.2.1 6 x1.toNatClampNeg)) fun v_117 σ_117 =>
              p_Parser_parse_b123 (p_Parser_parse_L26 n) (sS σ_117 7 v_117) x1
            else
              bd2 (p_Parser_nextInBody σ x1 (σ.2.1 6 x1.toNatClampNeg)) fun v_104 σ_104 =>
              p_Parser_parse_b123 (p_Parser_parse_L26 n) (sS σ_104 7 v_104) x1)
          else
            bd2 (p_Parser_nextInHead σ x1 (σ.2.1 6 x1.toNatClampNeg)) fun v_82 σ_82 =>
            p_Parser_parse_b123 (p_Parser_parse_L26 n) (sS σ_82 7 v_82) x1)
        else
          bd2 (p_Parser_nextInClass σ x1 (σ.2.1 6 x1.toNatClampNeg)) fun v_60 σ_60 =>
          p_Parser_parse_b123 (p_Parser_parse_L26 n) (sS σ_60 7 v_60) x1) else none)
def p_Parser_parse (σ : Sto) : Option Sto :=
  bd1 (p_Outline_clear σ) fun σ_4 =>
    bd1 (p_Complaints_clear σ_4) fun σ_11 =>
    p_Parser_parse_L26 FU (sS (sS σ_11 6 0) 7 1) 0
abbrev w_Parser_parse : List Cond := Cond.code y_Parser_parse b_Parser_parse 3 none :: Tg
abbrev r_Parser_parse : Room := { frames := 4, cells := 0, slots := 0, locals := 91 }
theorem dv_Parser_parse : y_Parser_parse.cls = "LanguageServer$Parser" ∧ y_Parser_parse.cls ≠ "java/lang/invoke/MethodHandle" ∧ y_Parser_parse.cls ≠ "java/lang/invoke/VarHandle" ∧ (parseMethodDescriptor y_Parser_parse.desc).map (fun d => d.parameters.length) = some 0 := by decide +kernel
set_option maxHeartbeats 4000000 in
set_option maxRecDepth 100000 in
theorem c_Parser_parse (l : Launch) (K : Kst) (A : Nat → Nat) {σ : Sto} {ss : Sto} (h : p_Parser_parse σ = some ss) : Met l y_Parser_parse w_Parser_parse r_Parser_parse (va_Pc [.ref (A 18)] (RB K A σ)) (RQv K A ss) 0 0 (RF A) := by
  refine Met.ofW (cc := b_Parser_parse) (maxL := 3) (ret := none) (by decide) rfl ?_
  intro p e s m args below meth c s₁ B hml hv
  obtain ⟨rfl, hP, hK, hD⟩ := hv
  have hx := B.exec
  have hb := B.bytes
  have hr := B.returns
  have hts := atoms_spec (ws := w_Parser_parse) B.pre
  have hg : ∀ w ∈ Tg, w.before _ s = true := fun w q => hts w (List.mem_cons_of_mem _ q)
  have hown : s.vm.findClass "LanguageServer$Parser" = some m.cls := findClass_of_methodNamed B.named
  have hlocks := B.notSynchronized
  have hS : va_S (RF A) s.heap s.heap [] := va_S.rf
  have hl := lv_entry ([.ref (A 18)]) (n := 3) (Nat.le_of_ble_eq_true rfl)
  rw [lg_entry_eq]
  generalize (lg_sl ([.ref (A 18)]) ++ List.replicate (3 - (lg_sl ([.ref (A 18)])).length) Slot.unset).toArray = ls at hl ⊢
  have hl : lv_has ls 3 [(0, .ref (A 18))] := hl
  generalize hargs : ([.ref (A 18)] : List Value).toArray = args at hg hts ⊢
  obtain ⟨Q, hQ⟩ : ∃ Q, Q = MQ below (RQv K A ss) args s 0 0 (RF A) := ⟨_, rfl⟩
  rw [← hQ]
  have hRet : ∀ (σ : Sto), some σ = some ss → ∀ (H : Heap) (locs : List Loc), va_P K.1 vwCl (wR K A σ) H → va_D (RF A) (wR K A σ) → va_S (RF A) s.heap H locs → ∀ (pc : Nat) (ls : Array Slot), decode b_Parser_parse pc = .ok (.return_, 1) → W p l e (headSpec w_Parser_parse r_Parser_parse).room s m args below meth c H locs 0 0 Q (F0 m pc ls []) := by
    intro σ h H locs hP hD hS pc ls hd
    cases h
    subst hQ
    exact W.vret hx hb hr (fun t ht hW => ⟨⟨(), rfl, trivial, by rw [ht]; exact hP, RK.warm hW hK, hD⟩, hS.F ht⟩) hS.2.2 hd
  clear hQ
  unfold p_Parser_parse at h
  have J_123 : ∀ (k26 : Sto → Int32 → Option Sto) (hk26 : ∀ (σ : Sto) (x1 : Int32), k26 σ x1 = some ss → ∀ (H : Heap) (locs : List Loc), va_P K.1 vwCl (wR K A σ) H → va_D (RF A) (wR K A σ) → va_S (RF A) s.heap H locs → ∀ ls : Array Slot, lv_has ls 3 [(0, .ref (A 18)), (1, .int x1)] → W p l e (headSpec w_Parser_parse r_Parser_parse).room s m args below meth c H locs 0 0 Q (F0 m 26 ls [])) (σ : Sto) (x1 : Int32), p_Parser_parse_b123 k26 σ x1 = some ss → ∀ (H : Heap) (locs : List Loc), va_P K.1 vwCl (wR K A σ) H → va_D (RF A) (wR K A σ) → va_S (RF A) s.heap H locs → ∀ ls : Array Slot, lv_has ls 3 [(0, .ref (A 18)), (1, .int x1)] → W p l e (headSpec w_Parser_parse r_Parser_parse).room s m args below meth c H locs 0 0 Q (F0 m 123 ls []) := by
    intro k26 hk26 σ x1 h H locs hP hD hS ls hl
    rw [p_Parser_parse_b123] at h
    refine lv_aload_n hx hb d_Parser_parse_123 rfl (lv_at hl 0 rfl) ?_
    refine gf_Parser_39 hx hb hg hown hK hP d_Parser_parse_124 ?_
    refine lv_if_ne (tgt := 155) hx hb d_Parser_parse_127 (by decide) (fun c_127 => ?_) (fun c_127 => ?_)
    · replace h := itf c_127 h
      refine lv_iinc (v := x1 + 1) (lv' := [(1, .int (x1 + 1)), (0, .ref (A 18))]) hx hb d_Parser_parse_155 hl (k := 1) rfl (by first | rfl | decide) (by decide) rfl (fun ls hl => ?_)
      refine lv_goto (tgt := 26) hx hb d_Parser_parse_158 (by decide) ?_
      exact hk26 _ _ h _ _ hP hD hS ls (lv_sub hl [1, 0] rfl)
    · replace h := itp c_127 h
      refine lv_aload_n hx hb d_Parser_parse_130 rfl (lv_at hl 0 rfl) ?_
      refine gf_Parser_19 hx hb hg hown hK hP d_Parser_parse_131 ?_
      refine lv_iload_n hx hb d_Parser_parse_134 rfl (lv_at hl 1 rfl) ?_
      obtain ⟨σ_135, e_135, h⟩ := bd1_some h
      refine R_callv (va_runV (As := [.int x1]) (rest := []) ⟨hx, hb, hml, hown, hts⟩ (c_Outline_giveUp l K A e_135) (cwV 1 hts (gd_V wd_443 wd_444 wd_445 wd_5 wd_446) rfl rfl rfl dv_Outline_giveUp ⟨Nat.le_of_ble_eq_true rfl, Nat.le_of_ble_eq_true rfl⟩) (R_pv_8 hK hP hD) rfl rfl hl.1 rfl (lv_room (Nat.le_of_ble_eq_true rfl)) d_Parser_parse_135 ⟨Nat.le_of_ble_eq_true rfl, Nat.le_of_ble_eq_true rfl⟩) hS (fun H locs hP hD hS => ?_)
      refine lv_aload_n hx hb d_Parser_parse_138 rfl (lv_at hl 0 rfl) ?_
      refine gf_Parser_23 hx hb hg hown hK hP d_Parser_parse_139 ?_
      refine lv_aload_n hx hb d_Parser_parse_142 rfl (lv_at hl 0 rfl) ?_
      refine gf_Parser_15 hx hb hg hown hK hP d_Parser_parse_143 ?_
      refine gf_Parser_67 hx hb hg hown hK hP d_Parser_parse_146 ?_
      refine lv_iload_n hx hb d_Parser_parse_149 rfl (lv_at hl 1 rfl) ?_
      obtain ⟨i_150, h⟩ := itn h
      refine ra_4 hx hb hK hP i_150 d_Parser_parse_150 ?_
      obtain ⟨σ_151, e_151, h⟩ := bd1_some h
      refine R_callv (va_runV (As := [.int (σ_135.2.1 4 x1.toNatClampNeg)]) (rest := []) ⟨hx, hb, hml, hown, hts⟩ (c_Complaints_setFault l K A e_151) (cwV 1 hts (gd_V wd_447 wd_448 wd_449 wd_6 wd_450) rfl rfl rfl dv_Complaints_setFault ⟨Nat.le_of_ble_eq_true rfl, Nat.le_of_ble_eq_true rfl⟩) (R_pv_16 hK hP hD) rfl rfl hl.1 rfl (lv_room (Nat.le_of_ble_eq_true rfl)) d_Parser_parse_151 ⟨Nat.le_of_ble_eq_true rfl, Nat.le_of_ble_eq_true rfl⟩) hS (fun H locs hP hD hS => ?_)
      exact hRet _ h _ _ hP hD hS _ _ d_Parser_parse_154
  have L_26 : ∀ (n : Nat) (σ : Sto) (x1 : Int32), p_Parser_parse_L26 n σ x1 = some ss → ∀ (H : Heap) (locs : List Loc), va_P K.1 vwCl (wR K A σ) H → va_D (RF A) (wR K A σ) → va_S (RF A) s.heap H locs → ∀ ls : Array Slot, lv_has ls 3 [(0, .ref (A 18)), (1, .int x1)] → W p l e (headSpec w_Parser_parse r_Parser_parse).room s m args below meth c H locs 0 0 Q (F0 m 26 ls []) := by
    intro n
    induction n with
    | zero => intro _ _ h; cases h
    | succ n ih =>
      intro σ x1 h H locs hP hD hS ls hl
      rw [p_Parser_parse_L26] at h
      refine lv_iload_n hx hb d_Parser_parse_26 rfl (lv_at hl 1 rfl) ?_
      refine lv_aload_n hx hb d_Parser_parse_27 rfl (lv_at hl 0 rfl) ?_
      refine gf_Parser_15 hx hb hg hown hK hP d_Parser_parse_28 ?_
      refine gf_Parser_42 hx hb hg hown hK hP d_Parser_parse_31 ?_
      refine lv_icmp_ge (tgt := 161) hx hb d_Parser_parse_34 (by decide) (fun c_34 => ?_) (fun c_34 => ?_)
      · replace h := itp c_34 h
        refine lv_aload_n hx hb d_Parser_parse_161 rfl (lv_at hl 0 rfl) ?_
        refine gf_Parser_39 hx hb hg hown hK hP d_Parser_parse_162 ?_
        refine lv_iconst (v := 1) hx hb d_Parser_parse_165 (by decide) ?_
        refine lv_icmp_eq (tgt := 218) hx hb d_Parser_parse_166 (by decide) (fun c_166 => ?_) (fun c_166 => ?_)
        · replace h := itp c_166 h
          refine lv_aload_n hx hb d_Parser_parse_218 rfl (lv_at hl 0 rfl) ?_
          refine gf_Parser_19 hx hb hg hown hK hP d_Parser_parse_219 ?_
          refine lv_aload_n hx hb d_Parser_parse_222 rfl (lv_at hl 0 rfl) ?_
          refine gf_Parser_15 hx hb hg hown hK hP d_Parser_parse_223 ?_
          refine gf_Parser_42 hx hb hg hown hK hP d_Parser_parse_226 ?_
          obtain ⟨σ_229, e_229, h⟩ := bd1_some h
          refine R_callv (va_runV (As := [.int (σ.1 2)]) (rest := []) ⟨hx, hb, hml, hown, hts⟩ (c_Outline_finish l K A e_229) (cwV 1 hts (gd_V wd_451 wd_452 wd_453 wd_5 wd_454) rfl rfl rfl dv_Outline_finish ⟨Nat.le_of_ble_eq_true rfl, Nat.le_of_ble_eq_true rfl⟩) (R_pv_8 hK hP hD) rfl rfl hl.1 rfl (lv_room (Nat.le_of_ble_eq_true rfl)) d_Parser_parse_229 ⟨Nat.le_of_ble_eq_true rfl, Nat.le_of_ble_eq_true rfl⟩) hS (fun H locs hP hD hS => ?_)
          exact hRet _ h _ _ hP hD hS _ _ d_Parser_parse_232
        · replace h := itf c_166 h
          refine lv_aload_n hx hb d_Parser_parse_169 rfl (lv_at hl 0 rfl) ?_
          refine gf_Parser_15 hx hb hg hown hK hP d_Parser_parse_170 ?_
          refine gf_Parser_42 hx hb hg hown hK hP d_Parser_parse_173 ?_
          refine lv_if_le (tgt := 218) hx hb d_Parser_parse_176 (by decide) (fun c_176 => ?_) (fun c_176 => ?_)
          · replace h := itp c_176 h
            refine lv_aload_n hx hb d_Parser_parse_218 rfl (lv_at hl 0 rfl) ?_
            refine gf_Parser_19 hx hb hg hown hK hP d_Parser_parse_219 ?_
            refine lv_aload_n hx hb d_Parser_parse_222 rfl (lv_at hl 0 rfl) ?_
            refine gf_Parser_15 hx hb hg hown hK hP d_Parser_parse_223 ?_
            refine gf_Parser_42 hx hb hg hown hK hP d_Parser_parse_226 ?_
            obtain ⟨σ_229, e_229, h⟩ := bd1_some h
            refine R_callv (va_runV (As := [.int (σ.1 2)]) (rest := []) ⟨hx, hb, hml, hown, hts⟩ (c_Outline_finish l K A e_229) (cwV 1 hts (gd_V wd_451 wd_452 wd_453 wd_5 wd_454) rfl rfl rfl dv_Outline_finish ⟨Nat.le_of_ble_eq_true rfl, Nat.le_of_ble_eq_true rfl⟩) (R_pv_8 hK hP hD) rfl rfl hl.1 rfl (lv_room (Nat.le_of_ble_eq_true rfl)) d_Parser_parse_229 ⟨Nat.le_of_ble_eq_true rfl, Nat.le_of_ble_eq_true rfl⟩) hS (fun H locs hP hD hS => ?_)
            exact hRet _ h _ _ hP hD hS _ _ d_Parser_parse_232
          · replace h := itf c_176 h
            refine lv_aload_n hx hb d_Parser_parse_179 rfl (lv_at hl 0 rfl) ?_
            refine gf_Parser_19 hx hb hg hown hK hP d_Parser_parse_180 ?_
            refine lv_aload_n hx hb d_Parser_parse_183 rfl (lv_at hl 0 rfl) ?_
            refine gf_Parser_15 hx hb hg hown hK hP d_Parser_parse_184 ?_
            refine gf_Parser_42 hx hb hg hown hK hP d_Parser_parse_187 ?_
            obtain ⟨σ_190, e_190, h⟩ := bd1_some h
            refine R_callv (va_runV (As := [.int (σ.1 2)]) (rest := []) ⟨hx, hb, hml, hown, hts⟩ (c_Outline_giveUp l K A e_190) (cwV 1 hts (gd_V wd_443 wd_444 wd_445 wd_5 wd_446) rfl rfl rfl dv_Outline_giveUp ⟨Nat.le_of_ble_eq_true rfl, Nat.le_of_ble_eq_true rfl⟩) (R_pv_8 hK hP hD) rfl rfl hl.1 rfl (lv_room (Nat.le_of_ble_eq_true rfl)) d_Parser_parse_190 ⟨Nat.le_of_ble_eq_true rfl, Nat.le_of_ble_eq_true rfl⟩) hS (fun H locs hP hD hS => ?_)
            refine lv_aload_n hx hb d_Parser_parse_193 rfl (lv_at hl 0 rfl) ?_
            refine gf_Parser_23 hx hb hg hown hK hP d_Parser_parse_194 ?_
            refine lv_aload_n hx hb d_Parser_parse_197 rfl (lv_at hl 0 rfl) ?_
            refine gf_Parser_15 hx hb hg hown hK hP d_Parser_parse_198 ?_
            refine gf_Parser_73 hx hb hg hown hK hP d_Parser_parse_201 ?_
            refine lv_aload_n hx hb d_Parser_parse_204 rfl (lv_at hl 0 rfl) ?_
            refine gf_Parser_15 hx hb hg hown hK hP d_Parser_parse_205 ?_
            refine gf_Parser_42 hx hb hg hown hK hP d_Parser_parse_208 ?_
            refine lv_iconst (v := 1) hx hb d_Parser_parse_211 (by decide) ?_
            refine lv_isub hx hb d_Parser_parse_212 ?_
            obtain ⟨i_213, h⟩ := itn h
            refine ra_5 hx hb hK hP i_213 d_Parser_parse_213 ?_
            obtain ⟨σ_214, e_214, h⟩ := bd1_some h
            refine R_callv (va_runV (As := [.int (σ_190.2.1 5 (((σ_190.1 2) - 1).toNatClampNeg))]) (rest := []) ⟨hx, hb, hml, hown, hts⟩ (c_Complaints_setFault l K A e_214) (cwV 1 hts (gd_V wd_447 wd_448 wd_449 wd_6 wd_450) rfl rfl rfl dv_Complaints_setFault ⟨Nat.le_of_ble_eq_true rfl, Nat.le_of_ble_eq_true rfl⟩) (R_pv_16 hK hP hD) rfl rfl hl.1 rfl (lv_room (Nat.le_of_ble_eq_true rfl)) d_Parser_parse_214 ⟨Nat.le_of_ble_eq_true rfl, Nat.le_of_ble_eq_true rfl⟩) hS (fun H locs hP hD hS => ?_)
            exact hRet _ h _ _ hP hD hS _ _ d_Parser_parse_217
      · replace h := itf c_34 h
        refine lv_aload_n hx hb d_Parser_parse_37 rfl (lv_at hl 0 rfl) ?_
        refine gf_Parser_15 hx hb hg hown hK hP d_Parser_parse_38 ?_
        refine gf_Parser_47 hx hb hg hown hK hP d_Parser_parse_41 ?_
        refine lv_iload_n hx hb d_Parser_parse_44 rfl (lv_at hl 1 rfl) ?_
        obtain ⟨i_45, h⟩ := itn h
        refine ra_6 hx hb hK hP i_45 d_Parser_parse_45 ?_
        refine lv_istore_n (lv' := [(2, .int (σ.2.1 6 x1.toNatClampNeg)), (0, .ref (A 18)), (1, .int x1)]) hx hb d_Parser_parse_46 rfl hl (by decide) rfl (fun ls hl => ?_)
        refine lv_aload_n hx hb d_Parser_parse_47 rfl (lv_at hl 1 rfl) ?_
        refine gf_Parser_39 hx hb hg hown hK hP d_Parser_parse_48 ?_
        refine lv_bipush (v := 8) hx hb d_Parser_parse_51 (by decide) ?_
        refine lv_icmp_gt (tgt := 69) hx hb d_Parser_parse_53 (by decide) (fun c_53 => ?_) (fun c_53 => ?_)
        · replace h := itp c_53 h
          refine lv_aload_n hx hb d_Parser_parse_69 rfl (lv_at hl 1 rfl) ?_
          refine gf_Parser_39 hx hb hg hown hK hP d_Parser_parse_70 ?_
          refine lv_bipush (v := 13) hx hb d_Parser_parse_73 (by decide) ?_
          refine lv_icmp_gt (tgt := 91) hx hb d_Parser_parse_75 (by decide) (fun c_75 => ?_) (fun c_75 => ?_)
          · replace h := itp c_75 h
            refine lv_aload_n hx hb d_Parser_parse_91 rfl (lv_at hl 1 rfl) ?_
            refine gf_Parser_39 hx hb hg hown hK hP d_Parser_parse_92 ?_
            refine lv_bipush (v := 16) hx hb d_Parser_parse_95 (by decide) ?_
            refine lv_icmp_gt (tgt := 113) hx hb d_Parser_parse_97 (by decide) (fun c_97 => ?_) (fun c_97 => ?_)
            · replace h := itp c_97 h
              refine lv_aload_n hx hb d_Parser_parse_113 rfl (lv_at hl 1 rfl) ?_
              refine lv_aload_n hx hb d_Parser_parse_114 rfl (lv_at hl 1 rfl) ?_
              refine lv_iload_n hx hb d_Parser_parse_115 rfl (lv_at hl 2 rfl) ?_
              refine lv_iload_n hx hb d_Parser_parse_116 rfl (lv_at hl 0 rfl) ?_
              obtain ⟨v_117, σ_117, e_117, h⟩ := bd2_some h
              refine R_calli (va_runV (As := [.int x1, .int (σ.2.1 6 x1.toNatClampNeg)]) (rest := [.ref (A 18)]) ⟨hx, hb, hml, hown, hts⟩ (c_Parser_nextInExpression l K A e_117) (cwV 2 hts (gd_V wd_415 wd_417 wp_12 wd_7 wd_418) rfl rfl rfl dv_Parser_nextInExpression ⟨Nat.le_of_ble_eq_true rfl, Nat.le_of_ble_eq_true rfl⟩) (R_pv_18 hK hP hD) rfl rfl hl.1 rfl (lv_room (Nat.le_of_ble_eq_true rfl)) d_Parser_parse_117 ⟨Nat.le_of_ble_eq_true rfl, Nat.le_of_ble_eq_true rfl⟩) hS (fun H locs hP hD hS => ?_)
              refine pf_Parser_39 hx hb hg hown hK hP hD hS d_Parser_parse_120 (fun H locs hP hD hS => ?_)
              exact J_123 _ ih _ _ h _ _ hP hD hS ls (lv_sub hl [1, 2] rfl)
            · replace h := itf c_97 h
              refine lv_aload_n hx hb d_Parser_parse_100 rfl (lv_at hl 1 rfl) ?_
              refine lv_aload_n hx hb d_Parser_parse_101 rfl (lv_at hl 1 rfl) ?_
              refine lv_iload_n hx hb d_Parser_parse_102 rfl (lv_at hl 2 rfl) ?_
              refine lv_iload_n hx hb d_Parser_parse_103 rfl (lv_at hl 0 rfl) ?_
              obtain ⟨v_104, σ_104, e_104, h⟩ := bd2_some h
              refine R_calli (va_runV (As := [.int x1, .int (σ.2.1 6 x1.toNatClampNeg)]) (rest := [.ref (A 18)]) ⟨hx, hb, hml, hown, hts⟩ (c_Parser_nextInBody l K A e_104) (cwV 2 hts (gd_V wd_399 wd_401 wp_8 wd_7 wd_402) rfl rfl rfl dv_Parser_nextInBody ⟨Nat.le_of_ble_eq_true rfl, Nat.le_of_ble_eq_true rfl⟩) (R_pv_18 hK hP hD) rfl rfl hl.1 rfl (lv_room (Nat.le_of_ble_eq_true rfl)) d_Parser_parse_104 ⟨Nat.le_of_ble_eq_true rfl, Nat.le_of_ble_eq_true rfl⟩) hS (fun H locs hP hD hS => ?_)
              refine pf_Parser_39 hx hb hg hown hK hP hD hS d_Parser_parse_107 (fun H locs hP hD hS => ?_)
              refine lv_goto (tgt := 123) hx hb d_Parser_parse_110 (by decide) ?_
              exact J_123 _ ih _ _ h _ _ hP hD hS ls (lv_sub hl [1, 2] rfl)
          · replace h := itf c_75 h
            refine lv_aload_n hx hb d_Parser_parse_78 rfl (lv_at hl 1 rfl) ?_
            refine lv_aload_n hx hb d_Parser_parse_79 rfl (lv_at hl 1 rfl) ?_
            refine lv_iload_n hx hb d_Parser_parse_80 rfl (lv_at hl 2 rfl) ?_
            refine lv_iload_n hx hb d_Parser_parse_81 rfl (lv_at hl 0 rfl) ?_
            obtain ⟨v_82, σ_82, e_82, h⟩ := bd2_some h
            refine R_calli (va_runV (As := [.int x1, .int (σ.2.1 6 x1.toNatClampNeg)]) (rest := [.ref (A 18)]) ⟨hx, hb, hml, hown, hts⟩ (c_Parser_nextInHead l K A e_82) (cwV 2 hts (gd_V wd_395 wd_397 wp_7 wd_7 wd_398) rfl rfl rfl dv_Parser_nextInHead ⟨Nat.le_of_ble_eq_true rfl, Nat.le_of_ble_eq_true rfl⟩) (R_pv_18 hK hP hD) rfl rfl hl.1 rfl (lv_room (Nat.le_of_ble_eq_true rfl)) d_Parser_parse_82 ⟨Nat.le_of_ble_eq_true rfl, Nat.le_of_ble_eq_true rfl⟩) hS (fun H locs hP hD hS => ?_)
            refine pf_Parser_39 hx hb hg hown hK hP hD hS d_Parser_parse_85 (fun H locs hP hD hS => ?_)
            refine lv_goto (tgt := 123) hx hb d_Parser_parse_88 (by decide) ?_
            exact J_123 _ ih _ _ h _ _ hP hD hS ls (lv_sub hl [1, 2] rfl)
        · replace h := itf c_53 h
          refine lv_aload_n hx hb d_Parser_parse_56 rfl (lv_at hl 1 rfl) ?_
          refine lv_aload_n hx hb d_Parser_parse_57 rfl (lv_at hl 1 rfl) ?_
          refine lv_iload_n hx hb d_Parser_parse_58 rfl (lv_at hl 2 rfl) ?_
          refine lv_iload_n hx hb d_Parser_parse_59 rfl (lv_at hl 0 rfl) ?_
          obtain ⟨v_60, σ_60, e_60, h⟩ := bd2_some h
          refine R_calli (va_runV (As := [.int x1, .int (σ.2.1 6 x1.toNatClampNeg)]) (rest := [.ref (A 18)]) ⟨hx, hb, hml, hown, hts⟩ (c_Parser_nextInClass l K A e_60) (cwV 2 hts (gd_V wd_364 wd_366 wp_1 wd_7 wd_367) rfl rfl rfl dv_Parser_nextInClass ⟨Nat.le_of_ble_eq_true rfl, Nat.le_of_ble_eq_true rfl⟩) (R_pv_18 hK hP hD) rfl rfl hl.1 rfl (lv_room (Nat.le_of_ble_eq_true rfl)) d_Parser_parse_60 ⟨Nat.le_of_ble_eq_true rfl, Nat.le_of_ble_eq_true rfl⟩) hS (fun H locs hP hD hS => ?_)
          refine pf_Parser_39 hx hb hg hown hK hP hD hS d_Parser_parse_63 (fun H locs hP hD hS => ?_)
          refine lv_goto (tgt := 123) hx hb d_Parser_parse_66 (by decide) ?_
          exact J_123 _ ih _ _ h _ _ hP hD hS ls (lv_sub hl [1, 2] rfl)
  refine lv_aload_n hx hb d_Parser_parse_0 rfl (lv_at hl 0 rfl) ?_
  refine gf_Parser_19 hx hb hg hown hK hP d_Parser_parse_1 ?_
  obtain ⟨σ_4, e_4, h⟩ := bd1_some h
  refine R_callv (va_runV (As := []) (rest := []) ⟨hx, hb, hml, hown, hts⟩ (c_Outline_clear l K A e_4) (cwV 0 hts (gd_V wd_352 wd_353 wd_354 wd_5 wd_355) rfl rfl rfl dv_Outline_clear ⟨Nat.le_of_ble_eq_true rfl, Nat.le_of_ble_eq_true rfl⟩) (R_pv_8 hK hP hD) rfl rfl hl.1 rfl (lv_room (Nat.le_of_ble_eq_true rfl)) d_Parser_parse_4 ⟨Nat.le_of_ble_eq_true rfl, Nat.le_of_ble_eq_true rfl⟩) hS (fun H locs hP hD hS => ?_)
  refine lv_aload_n hx hb d_Parser_parse_7 rfl (lv_at hl 0 rfl) ?_
  refine gf_Parser_23 hx hb hg hown hK hP d_Parser_parse_8 ?_
  obtain ⟨σ_11, e_11, h⟩ := bd1_some h
  refine R_callv (va_runV (As := []) (rest := []) ⟨hx, hb, hml, hown, hts⟩ (c_Complaints_clear l K A e_11) (cwV 0 hts (gd_V wd_359 wd_360 wd_361 wd_6 wd_362) rfl rfl rfl dv_Complaints_clear ⟨Nat.le_of_ble_eq_true rfl, Nat.le_of_ble_eq_true rfl⟩) (R_pv_16 hK hP hD) rfl rfl hl.1 rfl (lv_room (Nat.le_of_ble_eq_true rfl)) d_Parser_parse_11 ⟨Nat.le_of_ble_eq_true rfl, Nat.le_of_ble_eq_true rfl⟩) hS (fun H locs hP hD hS => ?_)
  refine lv_aload_n hx hb d_Parser_parse_14 rfl (lv_at hl 0 rfl) ?_
  refine lv_iconst (v := 0) hx hb d_Parser_parse_15 (by decide) ?_
  refine pf_Parser_35 hx hb hg hown hK hP hD hS d_Parser_parse_16 (fun H locs hP hD hS => ?_)
  refine lv_aload_n hx hb d_Parser_parse_19 rfl (lv_at hl 0 rfl) ?_
  refine lv_iconst (v := 1) hx hb d_Parser_parse_20 (by decide) ?_
  refine pf_Parser_39 hx hb hg hown hK hP hD hS d_Parser_parse_21 (fun H locs hP hD hS => ?_)
  refine lv_iconst (v := 0) hx hb d_Parser_parse_24 (by decide) ?_
  refine lv_istore_n (lv' := [(1, .int 0), (0, .ref (A 18))]) hx hb d_Parser_parse_25 rfl hl (by decide) rfl (fun ls hl => ?_)
  exact L_26  FU _ _ h _ _ hP hD hS ls (lv_sub hl [1, 0] rfl)
