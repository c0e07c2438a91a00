def p_Declarer_tell (σ : Sto) (x1 : Int32) (x2 : Int32) (x3 : Int32) (x4 : Int32) : Option Sto :=
  if inR x1 121 then bd1 (p_Outline_find σ x2 x1 (σ.2.2 x1.toNatClampNeg) x3) fun v_16 =>
    (if v_16 = (-1) then
      if inR x1 121 then some (sA σ 11 x1.toNatClampNeg x1) else none
    else
      bd1 (p_Complaints_mark σ x1 x4) fun σ_43 =>
      some σ_43) else none
abbrev w_Declarer_tell : List Cond := Cond.code y_Declarer_tell b_Declarer_tell 5 none :: Tg
abbrev r_Declarer_tell : Room := { frames := 2, cells := 0, slots := 0, locals := 47 }
theorem dv_Declarer_tell : y_Declarer_tell.cls = "LanguageServer$Declarer" ∧ y_Declarer_tell.cls ≠ "java/lang/invoke/MethodHandle" ∧ y_Declarer_tell.cls ≠ "java/lang/invoke/VarHandle" ∧ (parseMethodDescriptor y_Declarer_tell.desc).map (fun d => d.parameters.length) = some 4 := by decide +kernel
set_option maxHeartbeats 4000000 in
set_option maxRecDepth 100000 in
theorem c_Declarer_tell (l : Launch) (K : Kst) (A : Nat → Nat) {σ : Sto} {x1 : Int32} {x2 : Int32} {x3 : Int32} {x4 : Int32} {ss : Sto} (h : p_Declarer_tell σ x1 x2 x3 x4 = some ss) : Met l y_Declarer_tell w_Declarer_tell r_Declarer_tell (va_Pc [.ref (A 20), .int x1, .int x2, .int x3, .int x4] (RB K A σ)) (RQv K A ss) 0 0 (RF A) := by
  refine Met.ofW (cc := b_Declarer_tell) (maxL := 5) (ret := none) (by decide) rfl ?_
  intro p e s m args below meth c s₁ B hml hv
  obtain ⟨rfl, hP, hK, hD⟩ := hv
  have hx := B.exec
  have hb := B.bytes
  have hr := B.returns
  have hts := atoms_spec (ws := w_Declarer_tell) B.pre
  have hg : ∀ w ∈ Tg, w.before _ s = true := fun w q => hts w (List.mem_cons_of_mem _ q)
  have hown : s.vm.findClass "LanguageServer$Declarer" = some m.cls := findClass_of_methodNamed B.named
  have hlocks := B.notSynchronized
  have hS : va_S (RF A) s.heap s.heap [] := va_S.rf
  have hl := lv_entry ([.ref (A 20), .int x1, .int x2, .int x3, .int x4]) (n := 5) (Nat.le_of_ble_eq_true rfl)
  rw [lg_entry_eq]
  generalize (lg_sl ([.ref (A 20), .int x1, .int x2, .int x3, .int x4]) ++ List.replicate (5 - (lg_sl ([.ref (A 20), .int x1, .int x2, .int x3, .int x4])).length) Slot.unset).toArray = ls at hl ⊢
  have hl : lv_has ls 5 [(0, .ref (A 20)), (1, .int x1), (2, .int x2), (3, .int x3), (4, .int x4)] := hl
  generalize hargs : ([.ref (A 20), .int x1, .int x2, .int x3, .int x4] : List Value).toArray = args at hg hts ⊢
  obtain ⟨Q, hQ⟩ : ∃ Q, Q = MQ below (RQv K A ss) args s 0 0 (RF A) := ⟨_, rfl⟩
  rw [← hQ]
  have hRet : ∀ (σ : Sto), some σ = some ss → ∀ (H : Heap) (locs : List Loc), va_P K.1 vwCl (wR K A σ) H → va_D (RF A) (wR K A σ) → va_S (RF A) s.heap H locs → ∀ (pc : Nat) (ls : Array Slot), decode b_Declarer_tell pc = .ok (.return_, 1) → W p l e (headSpec w_Declarer_tell r_Declarer_tell).room s m args below meth c H locs 0 0 Q (F0 m pc ls []) := by
    intro σ h H locs hP hD hS pc ls hd
    cases h
    subst hQ
    exact W.vret hx hb hr (fun t ht hW => ⟨⟨(), rfl, trivial, by rw [ht]; exact hP, RK.warm hW hK, hD⟩, hS.F ht⟩) hS.2.2 hd
  clear hQ
  unfold p_Declarer_tell at h
  refine lv_aload_n hx hb d_Declarer_tell_0 rfl (lv_at hl 0 rfl) ?_
  refine gf_Declarer_21 hx hb hg hown hK hP d_Declarer_tell_1 ?_
  refine lv_iload_n hx hb d_Declarer_tell_4 rfl (lv_at hl 2 rfl) ?_
  refine lv_iload_n hx hb d_Declarer_tell_5 rfl (lv_at hl 1 rfl) ?_
  refine lv_aload_n hx hb d_Declarer_tell_6 rfl (lv_at hl 0 rfl) ?_
  refine gf_Declarer_17 hx hb hg hown hK hP d_Declarer_tell_7 ?_
  refine gf_Declarer_64 hx hb hg hown hK hP d_Declarer_tell_10 ?_
  refine lv_iload_n hx hb d_Declarer_tell_13 rfl (lv_at hl 1 rfl) ?_
  obtain ⟨i_14, h⟩ := itn h
  refine ra_7 hx hb hK hP i_14 d_Declarer_tell_14 ?_
  refine lv_iload_n hx hb d_Declarer_tell_15 rfl (lv_at hl 3 rfl) ?_
  obtain ⟨v_16, e_16, h⟩ := bd1_some h
  refine R_calli (va_runV (As := [.int x2, .int x1, .long (σ.2.2 x1.toNatClampNeg), .int x3]) (rest := []) ⟨hx, hb, hml, hown, hts⟩ (c_Outline_find l K A e_16) (cwV 4 hts (gd_V wd_467 wd_468 wd_469 wd_5 wd_470) rfl rfl rfl dv_Outline_find ⟨Nat.le_of_ble_eq_true rfl, Nat.le_of_ble_eq_true rfl⟩) (R_pv_8 hK hP hD) rfl rfl hl.1 rfl (lv_room (Nat.le_of_ble_eq_true rfl)) d_Declarer_tell_16 ⟨Nat.le_of_ble_eq_true rfl, Nat.le_of_ble_eq_true rfl⟩) hS (fun H locs hP hD hS => ?_)
  refine lv_iconst (v := (-1)) hx hb d_Declarer_tell_19 (by decide) ?_
  refine lv_icmp_ne (tgt := 36) hx hb d_Declarer_tell_20 (by decide) (fun c_20 => ?_) (fun c_20 => ?_)
  · replace h := itf c_20 h
    refine lv_aload_n hx hb d_Declarer_tell_36 rfl (lv_at hl 0 rfl) ?_
    refine gf_Declarer_25 hx hb hg hown hK hP d_Declarer_tell_37 ?_
    refine lv_iload_n hx hb d_Declarer_tell_40 rfl (lv_at hl 1 rfl) ?_
    refine lv_iload hx hb d_Declarer_tell_41 (lv_at hl 4 rfl) ?_
    obtain ⟨σ_43, e_43, h⟩ := bd1_some h
    refine R_callv (va_runV (As := [.int x1, .int x4]) (rest := []) ⟨hx, hb, hml, hown, hts⟩ (c_Complaints_mark l K A e_43) (cwV 2 hts (gd_V wd_474 wd_475 wd_476 wd_6 wd_477) rfl rfl rfl dv_Complaints_mark ⟨Nat.le_of_ble_eq_true rfl, Nat.le_of_ble_eq_true rfl⟩) (R_pv_16 hK hP hD) rfl rfl hl.1 rfl (lv_room (Nat.le_of_ble_eq_true rfl)) d_Declarer_tell_43 ⟨Nat.le_of_ble_eq_true rfl, Nat.le_of_ble_eq_true rfl⟩) hS (fun H locs hP hD hS => ?_)
    exact hRet _ h _ _ hP hD hS _ _ d_Declarer_tell_46
  · replace h := itp c_20 h
    refine lv_aload_n hx hb d_Declarer_tell_23 rfl (lv_at hl 0 rfl) ?_
    refine gf_Declarer_21 hx hb hg hown hK hP d_Declarer_tell_24 ?_
    refine gf_Declarer_74 hx hb hg hown hK hP d_Declarer_tell_27 ?_
    refine lv_iload_n hx hb d_Declarer_tell_30 rfl (lv_at hl 1 rfl) ?_
    refine lv_iload_n hx hb d_Declarer_tell_31 rfl (lv_at hl 1 rfl) ?_
    obtain ⟨i_32, h⟩ := itn h
    refine wa_11 hx hb hK hP hD hS i_32 d_Declarer_tell_32 (fun H locs hP hD hS => ?_)
    refine lv_goto (tgt := 46) hx hb d_Declarer_tell_33 (by decide) ?_
    exact hRet _ h _ _ hP hD hS _ _ d_Declarer_tell_46
def p_Declarer_nameClass (σ : Sto) (x1 : Int32) : Option Sto :=
  if inR x1 121 then bd1 (p_Outline_find σ 0 (σ.1 3) (σ.2.2 x1.toNatClampNeg) 2) fun v_30 =>
    if inR x1 121 then if inR x1 121 then (if ((sA σ 11 x1.toNatClampNeg v_30).2.1 11 x1.toNatClampNeg) = (-1) then
      bd1 (p_Complaints_mark (sA σ 11 x1.toNatClampNeg v_30) x1 2) fun σ_53 =>
      some σ_53
    else
      some (sA σ 11 x1.toNatClampNeg v_30)) else none else none else none
abbrev w_Declarer_nameClass : List Cond := Cond.code y_Declarer_nameClass b_Declarer_nameClass 2 none :: Tg
abbrev r_Declarer_nameClass : Room := { frames := 2, cells := 0, slots := 0, locals := 47 }
theorem dv_Declarer_nameClass : y_Declarer_nameClass.cls = "LanguageServer$Declarer" ∧ y_Declarer_nameClass.cls ≠ "java/lang/invoke/MethodHandle" ∧ y_Declarer_nameClass.cls ≠ "java/lang/invoke/VarHandle" ∧ (parseMethodDescriptor y_Declarer_nameClass.desc).map (fun d => d.parameters.length) = some 1 := by decide +kernel
set_option maxHeartbeats 4000000 in
set_option maxRecDepth 100000 in
theorem c_Declarer_nameClass (l : Launch) (K : Kst) (A : Nat → Nat) {σ : Sto} {x1 : Int32} {ss : Sto} (h : p_Declarer_nameClass σ x1 = some ss) : Met l y_Declarer_nameClass w_Declarer_nameClass r_Declarer_nameClass (va_Pc [.ref (A 20), .int x1] (RB K A σ)) (RQv K A ss) 0 0 (RF A) := by
  refine Met.ofW (cc := b_Declarer_nameClass) (maxL := 2) (ret := none) (by decide) rfl ?_
  intro p e s m args below meth c s₁ B hml hv
  obtain ⟨rfl, hP, hK, hD⟩ := hv
  have hx := B.exec
  have hb := B.bytes
  have hr := B.returns
  have hts := atoms_spec (ws := w_Declarer_nameClass) B.pre
  have hg : ∀ w ∈ Tg, w.before _ s = true := fun w q => hts w (List.mem_cons_of_mem _ q)
  have hown : s.vm.findClass "LanguageServer$Declarer" = some m.cls := findClass_of_methodNamed B.named
  have hlocks := B.notSynchronized
  have hS : va_S (RF A) s.heap s.heap [] := va_S.rf
  have hl := lv_entry ([.ref (A 20), .int x1]) (n := 2) (Nat.le_of_ble_eq_true rfl)
  rw [lg_entry_eq]
  generalize (lg_sl ([.ref (A 20), .int x1]) ++ List.replicate (2 - (lg_sl ([.ref (A 20), .int x1])).length) Slot.unset).toArray = ls at hl ⊢
  have hl : lv_has ls 2 [(0, .ref (A 20)), (1, .int x1)] := hl
  generalize hargs : ([.ref (A 20), .int x1] : List Value).toArray = args at hg hts ⊢
  obtain ⟨Q, hQ⟩ : ∃ Q, Q = MQ below (RQv K A ss) args s 0 0 (RF A) := ⟨_, rfl⟩
  rw [← hQ]
  have hRet : ∀ (σ : Sto), some σ = some ss → ∀ (H : Heap) (locs : List Loc), va_P K.1 vwCl (wR K A σ) H → va_D (RF A) (wR K A σ) → va_S (RF A) s.heap H locs → ∀ (pc : Nat) (ls : Array Slot), decode b_Declarer_nameClass pc = .ok (.return_, 1) → W p l e (headSpec w_Declarer_nameClass r_Declarer_nameClass).room s m args below meth c H locs 0 0 Q (F0 m pc ls []) := by
    intro σ h H locs hP hD hS pc ls hd
    cases h
    subst hQ
    exact W.vret hx hb hr (fun t ht hW => ⟨⟨(), rfl, trivial, by rw [ht]; exact hP, RK.warm hW hK, hD⟩, hS.F ht⟩) hS.2.2 hd
  clear hQ
  unfold p_Declarer_nameClass at h
  refine lv_aload_n hx hb d_Declarer_nameClass_0 rfl (lv_at hl 0 rfl) ?_
  refine gf_Declarer_21 hx hb hg hown hK hP d_Declarer_nameClass_1 ?_
  refine gf_Declarer_74 hx hb hg hown hK hP d_Declarer_nameClass_4 ?_
  refine lv_iload_n hx hb d_Declarer_nameClass_7 rfl (lv_at hl 1 rfl) ?_
  refine lv_aload_n hx hb d_Declarer_nameClass_8 rfl (lv_at hl 0 rfl) ?_
  refine gf_Declarer_21 hx hb hg hown hK hP d_Declarer_nameClass_9 ?_
  refine lv_iconst (v := 0) hx hb d_Declarer_nameClass_12 (by decide) ?_
  refine lv_aload_n hx hb d_Declarer_nameClass_13 rfl (lv_at hl 0 rfl) ?_
  refine gf_Declarer_21 hx hb hg hown hK hP d_Declarer_nameClass_14 ?_
  refine gf_Declarer_29 hx hb hg hown hK hP d_Declarer_nameClass_17 ?_
  refine lv_aload_n hx hb d_Declarer_nameClass_20 rfl (lv_at hl 0 rfl) ?_
  refine gf_Declarer_17 hx hb hg hown hK hP d_Declarer_nameClass_21 ?_
  refine gf_Declarer_64 hx hb hg hown hK hP d_Declarer_nameClass_24 ?_
  refine lv_iload_n hx hb d_Declarer_nameClass_27 rfl (lv_at hl 1 rfl) ?_
  obtain ⟨i_28, h⟩ := itn h
  refine ra_7 hx hb hK hP i_28 d_Declarer_nameClass_28 ?_
  refine lv_iconst (v := 2) hx hb d_Declarer_nameClass_29 (by decide) ?_
  obtain ⟨v_30, e_30, h⟩ := bd1_some h
  refine R_calli (va_runV (As := [.int 0, .int (σ.1 3), .long (σ.2.2 x1.toNatClampNeg), .int 2]) (rest := [.int x1, .ref (A 11)]) ⟨hx, hb, hml, hown, hts⟩ (c_Outline_find l K A e_30) (cwV 4 hts (gd_V wd_467 wd_468 wd_469 wd_5 wd_470) rfl rfl rfl dv_Outline_find ⟨Nat.le_of_ble_eq_true rfl, Nat.le_of_ble_eq_true rfl⟩) (R_pv_8 hK hP hD) rfl rfl hl.1 rfl (lv_room (Nat.le_of_ble_eq_true rfl)) d_Declarer_nameClass_30 ⟨Nat.le_of_ble_eq_true rfl, Nat.le_of_ble_eq_true rfl⟩) hS (fun H locs hP hD hS => ?_)
  obtain ⟨i_33, h⟩ := itn h
  refine wa_11 hx hb hK hP hD hS i_33 d_Declarer_nameClass_33 (fun H locs hP hD hS => ?_)
  refine lv_aload_n hx hb d_Declarer_nameClass_34 rfl (lv_at hl 0 rfl) ?_
  refine gf_Declarer_21 hx hb hg hown hK hP d_Declarer_nameClass_35 ?_
  refine gf_Declarer_74 hx hb hg hown hK hP d_Declarer_nameClass_38 ?_
  refine lv_iload_n hx hb d_Declarer_nameClass_41 rfl (lv_at hl 1 rfl) ?_
  obtain ⟨i_42, h⟩ := itn h
  refine ra_11 hx hb hK hP i_42 d_Declarer_nameClass_42 ?_
  refine lv_iconst (v := (-1)) hx hb d_Declarer_nameClass_43 (by decide) ?_
  refine lv_icmp_ne (tgt := 56) hx hb d_Declarer_nameClass_44 (by decide) (fun c_44 => ?_) (fun c_44 => ?_)
  · replace h := itf c_44 h
    exact hRet _ h _ _ hP hD hS _ _ d_Declarer_nameClass_56
  · replace h := itp c_44 h
    refine lv_aload_n hx hb d_Declarer_nameClass_47 rfl (lv_at hl 0 rfl) ?_
    refine gf_Declarer_25 hx hb hg hown hK hP d_Declarer_nameClass_48 ?_
    refine lv_iload_n hx hb d_Declarer_nameClass_51 rfl (lv_at hl 1 rfl) ?_
    refine lv_iconst (v := 2) hx hb d_Declarer_nameClass_52 (by decide) ?_
    obtain ⟨σ_53, e_53, h⟩ := bd1_some h
    refine R_callv (va_runV (As := [.int x1, .int 2]) (rest := []) ⟨hx, hb, hml, hown, hts⟩ (c_Complaints_mark l K A e_53) (cwV 2 hts (gd_V wd_474 wd_475 wd_476 wd_6 wd_477) rfl rfl rfl dv_Complaints_mark ⟨Nat.le_of_ble_eq_true rfl, Nat.le_of_ble_eq_true rfl⟩) (R_pv_16 hK hP hD) rfl rfl hl.1 rfl (lv_room (Nat.le_of_ble_eq_true rfl)) d_Declarer_nameClass_53 ⟨Nat.le_of_ble_eq_true rfl, Nat.le_of_ble_eq_true rfl⟩) hS (fun H locs hP hD hS => ?_)
    exact hRet _ h _ _ hP hD hS _ _ d_Declarer_nameClass_56
def p_Declarer_typeBefore (σ : Sto) (x1 : Int32) : Option Int32 :=
  (if (1 : Int32) ≤ x1 then
      if inR (x1 - 1) 121 then (if (σ.2.1 6 ((x1 - 1).toNatClampNeg)) = 5 then
        some (-1)
      else
        bd1 (p_Outline_typeNamed σ (x1 - 1)) fun v_34 =>
        some v_34) else none
    else
      some (-2))
abbrev w_Declarer_typeBefore : List Cond := Cond.code y_Declarer_typeBefore b_Declarer_typeBefore 2 (some .int) :: Tg
abbrev r_Declarer_typeBefore : Room := { frames := 1, cells := 0, slots := 0, locals := 21 }
theorem dv_Declarer_typeBefore : y_Declarer_typeBefore.cls = "LanguageServer$Declarer" ∧ y_Declarer_typeBefore.cls ≠ "java/lang/invoke/MethodHandle" ∧ y_Declarer_typeBefore.cls ≠ "java/lang/invoke/VarHandle" ∧ (parseMethodDescriptor y_Declarer_typeBefore.desc).map (fun d => d.parameters.length) = some 1 := by decide +kernel
set_option maxHeartbeats 4000000 in
set_option maxRecDepth 100000 in
theorem c_Declarer_typeBefore (l : Launch) (K : Kst) (A : Nat → Nat) {σ : Sto} {x1 : Int32} {rr : Int32} (h : p_Declarer_typeBefore σ x1 = some rr) : Met l y_Declarer_typeBefore w_Declarer_typeBefore r_Declarer_typeBefore (va_Pc [.ref (A 20), .int x1] (RB K A σ)) (RQi K A rr σ) 0 0 (RF A) := by
  refine Met.ofW (cc := b_Declarer_typeBefore) (maxL := 2) (ret := (some .int)) (by decide) rfl ?_
  intro p e s m args below meth c s₁ B hml hv
  obtain ⟨rfl, hP, hK, hD⟩ := hv
  have hx := B.exec
  have hb := B.bytes
  have hr := B.returns
  have hts := atoms_spec (ws := w_Declarer_typeBefore) B.pre
  have hg : ∀ w ∈ Tg, w.before _ s = true := fun w q => hts w (List.mem_cons_of_mem _ q)
  have hown : s.vm.findClass "LanguageServer$Declarer" = some m.cls := findClass_of_methodNamed B.named
  have hlocks := B.notSynchronized
  have hS : va_S (RF A) s.heap s.heap [] := va_S.rf
  have hl := lv_entry ([.ref (A 20), .int x1]) (n := 2) (Nat.le_of_ble_eq_true rfl)
  rw [lg_entry_eq]
  generalize (lg_sl ([.ref (A 20), .int x1]) ++ List.replicate (2 - (lg_sl ([.ref (A 20), .int x1])).length) Slot.unset).toArray = ls at hl ⊢
  have hl : lv_has ls 2 [(0, .ref (A 20)), (1, .int x1)] := hl
  generalize hargs : ([.ref (A 20), .int x1] : List Value).toArray = args at hg hts ⊢
  obtain ⟨Q, hQ⟩ : ∃ Q, Q = MQ below (RQi K A rr σ) args s 0 0 (RF A) := ⟨_, rfl⟩
  rw [← hQ]
  have hRet : ∀ (v : Int32), some v = some rr → ∀ (H : Heap) (locs : List Loc), va_P K.1 vwCl (wR K A σ) H → va_D (RF A) (wR K A σ) → va_S (RF A) s.heap H locs → ∀ (pc : Nat) (ls : Array Slot), decode b_Declarer_typeBefore pc = .ok (.ireturn, 1) → W p l e (headSpec w_Declarer_typeBefore r_Declarer_typeBefore).room s m args below meth c H locs 0 0 Q (F0 m pc ls [.int v]) := by
    intro v h H locs hP hD hS pc ls hd
    cases h
    subst hQ
    exact W.iret hx hb hr (fun t ht hW => ⟨⟨_, (), rfl, rfl, by rw [ht]; exact hP, RK.warm hW hK, hD⟩, hS.F ht⟩) hS.2.2 hd
  clear hQ
  unfold p_Declarer_typeBefore at h
  refine lv_iload_n hx hb d_Declarer_typeBefore_0 rfl (lv_at hl 1 rfl) ?_
  refine lv_iconst (v := 1) hx hb d_Declarer_typeBefore_1 (by decide) ?_
  refine lv_icmp_ge (tgt := 8) hx hb d_Declarer_typeBefore_2 (by decide) (fun c_2 => ?_) (fun c_2 => ?_)
  · replace h := itp c_2 h
    refine lv_aload_n hx hb d_Declarer_typeBefore_8 rfl (lv_at hl 0 rfl) ?_
    refine gf_Declarer_17 hx hb hg hown hK hP d_Declarer_typeBefore_9 ?_
    refine gf_Declarer_81 hx hb hg hown hK hP d_Declarer_typeBefore_12 ?_
    refine lv_iload_n hx hb d_Declarer_typeBefore_15 rfl (lv_at hl 1 rfl) ?_
    refine lv_iconst (v := 1) hx hb d_Declarer_typeBefore_16 (by decide) ?_
    refine lv_isub hx hb d_Declarer_typeBefore_17 ?_
    obtain ⟨i_18, h⟩ := itn h
    refine ra_6 hx hb hK hP i_18 d_Declarer_typeBefore_18 ?_
    refine lv_iconst (v := 5) hx hb d_Declarer_typeBefore_19 (by decide) ?_
    refine lv_icmp_ne (tgt := 27) hx hb d_Declarer_typeBefore_20 (by decide) (fun c_20 => ?_) (fun c_20 => ?_)
    · replace h := itf c_20 h
      refine lv_aload_n hx hb d_Declarer_typeBefore_27 rfl (lv_at hl 0 rfl) ?_
      refine gf_Declarer_21 hx hb hg hown hK hP d_Declarer_typeBefore_28 ?_
      refine lv_iload_n hx hb d_Declarer_typeBefore_31 rfl (lv_at hl 1 rfl) ?_
      refine lv_iconst (v := 1) hx hb d_Declarer_typeBefore_32 (by decide) ?_
      refine lv_isub hx hb d_Declarer_typeBefore_33 ?_
      obtain ⟨v_34, e_34, h⟩ := bd1_some h
      refine R_calli (va_runV (As := [.int (x1 - 1)]) (rest := []) ⟨hx, hb, hml, hown, hts⟩ (c_Outline_typeNamed l K A e_34) (cwV 1 hts (gd_V wd_486 wd_487 wd_488 wd_5 wd_489) rfl rfl rfl dv_Outline_typeNamed ⟨Nat.le_of_ble_eq_true rfl, Nat.le_of_ble_eq_true rfl⟩) (R_pv_8 hK hP hD) rfl rfl hl.1 rfl (lv_room (Nat.le_of_ble_eq_true rfl)) d_Declarer_typeBefore_34 ⟨Nat.le_of_ble_eq_true rfl, Nat.le_of_ble_eq_true rfl⟩) hS (fun H locs hP hD hS => ?_)
      exact hRet _ h _ _ hP hD hS _ _ d_Declarer_typeBefore_37
    · replace h := itp c_20 h
      refine lv_iconst (v := (-1)) hx hb d_Declarer_typeBefore_23 (by decide) ?_
      refine lv_goto (tgt := 37) hx hb d_Declarer_typeBefore_24 (by decide) ?_
      exact hRet _ h _ _ hP hD hS _ _ d_Declarer_typeBefore_37
  · replace h := itf c_2 h
    refine lv_bipush (v := (-2)) hx hb d_Declarer_typeBefore_5 (by decide) ?_
    exact hRet _ h _ _ hP hD hS _ _ d_Declarer_typeBefore_7
def p_Declarer_superName (σ : Sto) (x1 : Int32) : Option Int32 :=
  if inR x1 31 then (if (σ.1 3) ≤ ((σ.2.1 13 x1.toNatClampNeg) + 2) then
      some (-1)
    else
      if inR ((σ.2.1 13 x1.toNatClampNeg) + 2) 121 then (if (σ.2.1 9 (((σ.2.1 13 x1.toNatClampNeg) + 2).toNatClampNeg)) = 6 then
        some ((σ.2.1 13 x1.toNatClampNeg) + 2)
      else
        some (-1)) else none) else none
abbrev w_Declarer_superName : List Cond := Cond.code y_Declarer_superName b_Declarer_superName 3 (some .int) :: Tg
abbrev r_Declarer_superName : Room := { frames := 0, cells := 0, slots := 0, locals := 0 }
theorem dv_Declarer_superName : y_Declarer_superName.cls = "LanguageServer$Declarer" ∧ y_Declarer_superName.cls ≠ "java/lang/invoke/MethodHandle" ∧ y_Declarer_superName.cls ≠ "java/lang/invoke/VarHandle" ∧ (parseMethodDescriptor y_Declarer_superName.desc).map (fun d => d.parameters.length) = some 1 := by decide +kernel
set_option maxHeartbeats 4000000 in
set_option maxRecDepth 100000 in
theorem c_Declarer_superName (l : Launch) (K : Kst) (A : Nat → Nat) {σ : Sto} {x1 : Int32} {rr : Int32} (h : p_Declarer_superName σ x1 = some rr) : Met l y_Declarer_superName w_Declarer_superName r_Declarer_superName (va_Pc [.ref (A 20), .int x1] (RB K A σ)) (RQi K A rr σ) 0 0 (RF A) := by
  refine Met.ofW (cc := b_Declarer_superName) (maxL := 3) (ret := (some .int)) (by decide) rfl ?_
  intro p e s m args below meth c s₁ B hml hv
  obtain ⟨rfl, hP, hK, hD⟩ := hv
  have hx := B.exec
  have hb := B.bytes
  have hr := B.returns
  have hts := atoms_spec (ws := w_Declarer_superName) B.pre
  have hg : ∀ w ∈ Tg, w.before _ s = true := fun w q => hts w (List.mem_cons_of_mem _ q)
  have hown : s.vm.findClass "LanguageServer$Declarer" = some m.cls := findClass_of_methodNamed B.named
  have hlocks := B.notSynchronized
  have hS : va_S (RF A) s.heap s.heap [] := va_S.rf
  have hl := lv_entry ([.ref (A 20), .int x1]) (n := 3) (Nat.le_of_ble_eq_true rfl)
  rw [lg_entry_eq]
  generalize (lg_sl ([.ref (A 20), .int x1]) ++ List.replicate (3 - (lg_sl ([.ref (A 20), .int x1])).length) Slot.unset).toArray = ls at hl ⊢
  have hl : lv_has ls 3 [(0, .ref (A 20)), (1, .int x1)] := hl
  generalize hargs : ([.ref (A 20), .int x1] : List Value).toArray = args at hg hts ⊢
  obtain ⟨Q, hQ⟩ : ∃ Q, Q = MQ below (RQi K A rr σ) args s 0 0 (RF A) := ⟨_, rfl⟩
  rw [← hQ]
  have hRet : ∀ (v : Int32), some v = some rr → ∀ (H : Heap) (locs : List Loc), va_P K.1 vwCl (wR K A σ) H → va_D (RF A) (wR K A σ) → va_S (RF A) s.heap H locs → ∀ (pc : Nat) (ls : Array Slot), decode b_Declarer_superName pc = .ok (.ireturn, 1) → W p l e (headSpec w_Declarer_superName r_Declarer_superName).room s m args below meth c H locs 0 0 Q (F0 m pc ls [.int v]) := by
    intro v h H locs hP hD hS pc ls hd
    cases h
    subst hQ
    exact W.iret hx hb hr (fun t ht hW => ⟨⟨_, (), rfl, rfl, by rw [ht]; exact hP, RK.warm hW hK, hD⟩, hS.F ht⟩) hS.2.2 hd
  clear hQ
  unfold p_Declarer_superName at h
  refine lv_aload_n hx hb d_Declarer_superName_0 rfl (lv_at hl 0 rfl) ?_
  refine gf_Declarer_21 hx hb hg hown hK hP d_Declarer_superName_1 ?_
  refine gf_Declarer_102 hx hb hg hown hK hP d_Declarer_superName_4 ?_
  refine lv_iload_n hx hb d_Declarer_superName_7 rfl (lv_at hl 1 rfl) ?_
  obtain ⟨i_8, h⟩ := itn h
  refine ra_13 hx hb hK hP i_8 d_Declarer_superName_8 ?_
  refine lv_iconst (v := 2) hx hb d_Declarer_superName_9 (by decide) ?_
  refine lv_iadd hx hb d_Declarer_superName_10 ?_
  refine lv_istore_n (lv' := [(2, .int ((σ.2.1 13 x1.toNatClampNeg) + 2)), (0, .ref (A 20)), (1, .int x1)]) hx hb d_Declarer_superName_11 rfl hl (by decide) rfl (fun ls hl => ?_)
  refine lv_iload_n hx hb d_Declarer_superName_12 rfl (lv_at hl 0 rfl) ?_
  refine lv_aload_n hx hb d_Declarer_superName_13 rfl (lv_at hl 1 rfl) ?_
  refine gf_Declarer_21 hx hb hg hown hK hP d_Declarer_superName_14 ?_
  refine gf_Declarer_29 hx hb hg hown hK hP d_Declarer_superName_17 ?_
  refine lv_icmp_ge (tgt := 41) hx hb d_Declarer_superName_20 (by decide) (fun c_20 => ?_) (fun c_20 => ?_)
  · replace h := itp c_20 h
    refine lv_iconst (v := (-1)) hx hb d_Declarer_superName_41 (by decide) ?_
    exact hRet _ h _ _ hP hD hS _ _ d_Declarer_superName_42
  · replace h := itf c_20 h
    refine lv_aload_n hx hb d_Declarer_superName_23 rfl (lv_at hl 1 rfl) ?_
    refine gf_Declarer_21 hx hb hg hown hK hP d_Declarer_superName_24 ?_
    refine gf_Declarer_33 hx hb hg hown hK hP d_Declarer_superName_27 ?_
    refine lv_iload_n hx hb d_Declarer_superName_30 rfl (lv_at hl 0 rfl) ?_
    obtain ⟨i_31, h⟩ := itn h
    refine ra_9 hx hb hK hP i_31 d_Declarer_superName_31 ?_
    refine lv_bipush (v := 6) hx hb d_Declarer_superName_32 (by decide) ?_
    refine lv_icmp_ne (tgt := 41) hx hb d_Declarer_superName_34 (by decide) (fun c_34 => ?_) (fun c_34 => ?_)
    · replace h := itf c_34 h
      refine lv_iconst (v := (-1)) hx hb d_Declarer_superName_41 (by decide) ?_
      exact hRet _ h _ _ hP hD hS _ _ d_Declarer_superName_42
    · replace h := itp c_34 h
      refine lv_iload_n hx hb d_Declarer_superName_37 rfl (lv_at hl 0 rfl) ?_
      refine lv_goto (tgt := 42) hx hb d_Declarer_superName_38 (by decide) ?_
      exact hRet _ h _ _ hP hD hS _ _ d_Declarer_superName_42
def p_Declarer_leadsBack_L9 (σ : Sto) (x1 : Int32) : Nat → Int32 → Int32 → Option Int32
  | 0, _, _ => none
  | n + 1, x2, x3 =>
    (if (σ.1 4) ≤ x3 then
        some 0
      else
        bd1 (p_Outline_isClass σ x2) fun v_25 =>
        (if v_25 = 0 then
          some 0
        else
          (if x2 = x1 then
            some 1
          else
            if inR x2 30 then p_Declarer_leadsBack_L9 σ x1 n (σ.2.1 21 x2.toNatClampNeg) (x3 + 1) else none)))
def p_Declarer_leadsBack (σ : Sto) (x1 : Int32) : Option Int32 :=
  if inR x1 30 then p_Declarer_leadsBack_L9 σ x1 FU (σ.2.1 21 x1.toNatClampNeg) 0 else none
abbrev w_Declarer_leadsBack : List Cond := Cond.code y_Declarer_leadsBack b_Declarer_leadsBack 4 (some .boolean) :: Tg
abbrev r_Declarer_leadsBack : Room := { frames := 1, cells := 0, slots := 0, locals := 21 }
theorem dv_Declarer_leadsBack : y_Declarer_leadsBack.cls = "LanguageServer$Declarer" ∧ y_Declarer_leadsBack.cls ≠ "java/lang/invoke/MethodHandle" ∧ y_Declarer_leadsBack.cls ≠ "java/lang/invoke/VarHandle" ∧ (parseMethodDescriptor y_Declarer_leadsBack.desc).map (fun d => d.parameters.length) = some 1 := by decide +kernel
set_option maxHeartbeats 4000000 in
set_option maxRecDepth 100000 in
theorem c_Declarer_leadsBack (l : Launch) (K : Kst) (A : Nat → Nat) {σ : Sto} {x1 : Int32} {rr : Int32} (h : p_Declarer_leadsBack σ x1 = some rr) : Met l y_Declarer_leadsBack w_Declarer_leadsBack r_Declarer_leadsBack (va_Pc [.ref (A 20), .int x1] (RB K A σ)) (RQi K A rr σ) 0 0 (RF A) := by
  refine Met.ofW (cc := b_Declarer_leadsBack) (maxL := 4) (ret := (some .boolean)) (by decide) rfl ?_
  intro p e s m args below meth c s₁ B hml hv
  obtain ⟨rfl, hP, hK, hD⟩ := hv
  have hx := B.exec
  have hb := B.bytes
  have hr := B.returns
  have hts := atoms_spec (ws := w_Declarer_leadsBack) B.pre
  have hg : ∀ w ∈ Tg, w.before _ s = true := fun w q => hts w (List.mem_cons_of_mem _ q)
  have hown : s.vm.findClass "LanguageServer$Declarer" = some m.cls := findClass_of_methodNamed B.named
  have hlocks := B.notSynchronized
  have hS : va_S (RF A) s.heap s.heap [] := va_S.rf
  have hl := lv_entry ([.ref (A 20), .int x1]) (n := 4) (Nat.le_of_ble_eq_true rfl)
  rw [lg_entry_eq]
  generalize (lg_sl ([.ref (A 20), .int x1]) ++ List.replicate (4 - (lg_sl ([.ref (A 20), .int x1])).length) Slot.unset).toArray = ls at hl ⊢
  have hl : lv_has ls 4 [(0, .ref (A 20)), (1, .int x1)] := hl
  generalize hargs : ([.ref (A 20), .int x1] : List Value).toArray = args at hg hts ⊢
  obtain ⟨Q, hQ⟩ : ∃ Q, Q = MQ below (RQi K A rr σ) args s 0 0 (RF A) := ⟨_, rfl⟩
  rw [← hQ]
  have hRet : ∀ (v : Int32), (narrow .boolean (.int v) = .int v) → some v = some rr → ∀ (H : Heap) (locs : List Loc), va_P K.1 vwCl (wR K A σ) H → va_D (RF A) (wR K A σ) → va_S (RF A) s.heap H locs → ∀ (pc : Nat) (ls : Array Slot), decode b_Declarer_leadsBack pc = .ok (.ireturn, 1) → W p l e (headSpec w_Declarer_leadsBack r_Declarer_leadsBack).room s m args below meth c H locs 0 0 Q (F0 m pc ls [.int v]) := by
    intro v hn h H locs hP hD hS pc ls hd
    cases h
    subst hQ
    exact W.zret hx hb hr hn (fun t ht hW => ⟨⟨_, (), rfl, rfl, by rw [ht]; exact hP, RK.warm hW hK, hD⟩, hS.F ht⟩) hS.2.2 hd
  clear hQ
  unfold p_Declarer_leadsBack at h
  have L_9 : ∀ (n : Nat) (x2 : Int32) (x3 : Int32), p_Declarer_leadsBack_L9 σ x1 n x2 x3 = some rr → ∀ (H : Heap) (locs : List Loc), va_P K.1 vwCl (wR K A σ) H → va_D (RF A) (wR K A σ) → va_S (RF A) s.heap H locs → ∀ ls : Array Slot, lv_has ls 4 [(0, .ref (A 20)), (1, .int x1), (2, .int x2), (3, .int x3)] → W p l e (headSpec w_Declarer_leadsBack r_Declarer_leadsBack).room s m args below meth c H locs 0 0 Q (F0 m 9 ls []) := by
    intro n
    induction n with
    | zero => intro _ _ h; cases h
    | succ n ih =>
      intro x2 x3 h H locs hP hD hS ls hl
      rw [p_Declarer_leadsBack_L9] at h
      refine lv_iload_n hx hb d_Declarer_leadsBack_9 rfl (lv_at hl 3 rfl) ?_
      refine lv_aload_n hx hb d_Declarer_leadsBack_10 rfl (lv_at hl 0 rfl) ?_
      refine gf_Declarer_21 hx hb hg hown hK hP d_Declarer_leadsBack_11 ?_
      refine gf_Declarer_89 hx hb hg hown hK hP d_Declarer_leadsBack_14 ?_
      refine lv_icmp_ge (tgt := 51) hx hb d_Declarer_leadsBack_17 (by decide) (fun c_17 => ?_) (fun c_17 => ?_)
      · replace h := itp c_17 h
        refine lv_iconst (v := 0) hx hb d_Declarer_leadsBack_51 (by decide) ?_
        exact hRet _ rfl h _ _ hP hD hS _ _ d_Declarer_leadsBack_52
      · replace h := itf c_17 h
        refine lv_aload_n hx hb d_Declarer_leadsBack_20 rfl (lv_at hl 0 rfl) ?_
        refine gf_Declarer_21 hx hb hg hown hK hP d_Declarer_leadsBack_21 ?_
        refine lv_iload_n hx hb d_Declarer_leadsBack_24 rfl (lv_at hl 2 rfl) ?_
        obtain ⟨v_25, e_25, h⟩ := bd1_some h
        refine R_calli (va_runV (As := [.int x2]) (rest := []) ⟨hx, hb, hml, hown, hts⟩ (c_Outline_isClass l K A e_25) (cwV 1 hts (gd_V wd_502 wd_503 wd_504 wd_5 wd_505) rfl rfl rfl dv_Outline_isClass ⟨Nat.le_of_ble_eq_true rfl, Nat.le_of_ble_eq_true rfl⟩) (R_pv_8 hK hP hD) rfl rfl hl.1 rfl (lv_room (Nat.le_of_ble_eq_true rfl)) d_Declarer_leadsBack_25 ⟨Nat.le_of_ble_eq_true rfl, Nat.le_of_ble_eq_true rfl⟩) hS (fun H locs hP hD hS => ?_)
        refine lv_if_eq (tgt := 51) hx hb d_Declarer_leadsBack_28 (by decide) (fun c_28 => ?_) (fun c_28 => ?_)
        · replace h := itp c_28 h
          refine lv_iconst (v := 0) hx hb d_Declarer_leadsBack_51 (by decide) ?_
          exact hRet _ rfl h _ _ hP hD hS _ _ d_Declarer_leadsBack_52
        · replace h := itf c_28 h
          refine lv_iload_n hx hb d_Declarer_leadsBack_31 rfl (lv_at hl 2 rfl) ?_
          refine lv_iload_n hx hb d_Declarer_leadsBack_32 rfl (lv_at hl 1 rfl) ?_
          refine lv_icmp_ne (tgt := 38) hx hb d_Declarer_leadsBack_33 (by decide) (fun c_33 => ?_) (fun c_33 => ?_)
          · replace h := itf c_33 h
            refine lv_aload_n hx hb d_Declarer_leadsBack_38 rfl (lv_at hl 0 rfl) ?_
            refine gf_Declarer_11 hx hb hg hown hK hP d_Declarer_leadsBack_39 ?_
            refine lv_iload_n hx hb d_Declarer_leadsBack_42 rfl (lv_at hl 2 rfl) ?_
            obtain ⟨i_43, h⟩ := itn h
            refine ra_21 hx hb hK hP i_43 d_Declarer_leadsBack_43 ?_
            refine lv_istore_n (lv' := [(2, .int (σ.2.1 21 x2.toNatClampNeg)), (0, .ref (A 20)), (1, .int x1), (3, .int x3)]) hx hb d_Declarer_leadsBack_44 rfl hl (by decide) rfl (fun ls hl => ?_)
            refine lv_iinc (v := x3 + 1) (lv' := [(3, .int (x3 + 1)), (2, .int (σ.2.1 21 x2.toNatClampNeg)), (0, .ref (A 20)), (1, .int x1)]) hx hb d_Declarer_leadsBack_45 hl (k := 3) rfl (by first | rfl | decide) (by decide) rfl (fun ls hl => ?_)
            refine lv_goto (tgt := 9) hx hb d_Declarer_leadsBack_48 (by decide) ?_
            exact ih _ _ h _ _ hP hD hS ls (lv_sub hl [2, 3, 1, 0] rfl)
          · replace h := itp c_33 h
            refine lv_iconst (v := 1) hx hb d_Declarer_leadsBack_36 (by decide) ?_
            exact hRet _ rfl h _ _ hP hD hS _ _ d_Declarer_leadsBack_37
  refine lv_aload_n hx hb d_Declarer_leadsBack_0 rfl (lv_at hl 0 rfl) ?_
  refine gf_Declarer_11 hx hb hg hown hK hP d_Declarer_leadsBack_1 ?_
  refine lv_iload_n hx hb d_Declarer_leadsBack_4 rfl (lv_at hl 1 rfl) ?_
  obtain ⟨i_5, h⟩ := itn h
  refine ra_21 hx hb hK hP i_5 d_Declarer_leadsBack_5 ?_
  refine lv_istore_n (lv' := [(2, .int (σ.2.1 21 x1.toNatClampNeg)), (0, .ref (A 20)), (1, .int x1)]) hx hb d_Declarer_leadsBack_6 rfl hl (by decide) rfl (fun ls hl => ?_)
  refine lv_iconst (v := 0) hx hb d_Declarer_leadsBack_7 (by decide) ?_
  refine lv_istore_n (lv' := [(3, .int 0), (2, .int (σ.2.1 21 x1.toNatClampNeg)), (0, .ref (A 20)), (1, .int x1)]) hx hb d_Declarer_leadsBack_8 rfl hl (by decide) rfl (fun ls hl => ?_)
  exact L_9  FU _ _ h _ _ hP hD hS ls (lv_sub hl [2, 3, 1, 0] rfl)
def p_Declarer_tieSuperclasses_L63 : Nat → Sto → Int32 → Option Sto
  | 0, _, _ => none
  | n + 1, σ, x1 =>
    (if (σ.1 4) ≤ x1 then
        some σ
      else
        bd1 (p_Declarer_superName σ x1) fun v_76 =>
        (if v_76 = (-1) then
          if inR x1 30 then if inR x1 30 then p_Declarer_tieSuperclasses_L63 n (sA σ 14 x1.toNatClampNeg (σ.2.1 21 x1.toNatClampNeg)) (x1 + 1) else none else none
        else
          bd1 (p_Declarer_leadsBack σ x1) fun v_87 =>
          (if v_87 = 0 then
            if inR x1 30 then if inR x1 30 then p_Declarer_tieSuperclasses_L63 n (sA σ 14 x1.toNatClampNeg (σ.2.1 21 x1.toNatClampNeg)) (x1 + 1) else none else none
          else
            if inR v_76 121 then bd1 (p_Complaints_mark (sA σ 11 v_76.toNatClampNeg (-1)) v_76 3) fun σ_109 =>
            p_Declarer_tieSuperclasses_L63 n σ_109 (x1 + 1) else none)))
def p_Declarer_tieSuperclasses_L2 : Nat → Sto → Int32 → Option Sto
  | 0, _, _ => none
  | n + 1, σ, x1 =>
    (if (σ.1 4) ≤ x1 then
        p_Declarer_tieSuperclasses_L63 FU σ 0
      else
        bd1 (p_Declarer_superName σ x1) fun v_15 =>
        (if v_15 = (-1) then
          if inR x1 30 then p_Declarer_tieSuperclasses_L2 n (sA σ 21 x1.toNatClampNeg (-1)) (x1 + 1) else none
        else
          if inR v_15 121 then (if (σ.2.1 11 v_15.toNatClampNeg) = (-1) then
            if inR x1 30 then p_Declarer_tieSuperclasses_L2 n (sA σ 21 x1.toNatClampNeg (-1)) (x1 + 1) else none
          else
            bd1 (p_Outline_typeNamed σ v_15) fun v_51 =>
            if inR x1 30 then p_Declarer_tieSuperclasses_L2 n (sA σ 21 x1.toNatClampNeg v_51) (x1 + 1) else none) else none))
def p_Declarer_tieSuperclasses (σ : Sto) : Option Sto :=
  p_Declarer_tieSuperclasses_L2 FU σ 0
abbrev w_Declarer_tieSuperclasses : List Cond := Cond.code y_Declarer_tieSuperclasses b_Declarer_tieSuperclasses 3 none :: Tg
abbrev r_Declarer_tieSuperclasses : Room := { frames := 2, cells := 0, slots := 0, locals := 44 }
theorem dv_Declarer_tieSuperclasses : y_Declarer_tieSuperclasses.cls = "LanguageServer$Declarer" ∧ y_Declarer_tieSuperclasses.cls ≠ "java/lang/invoke/MethodHandle" ∧ y_Declarer_tieSuperclasses.cls ≠ "java/lang/invoke/VarHandle" ∧ (parseMethodDescriptor y_Declarer_tieSuperclasses.desc).map (fun d => d.parameters.length) = some 0 := by decide +kernel
set_option maxHeartbeats 4000000 in
set_option maxRecDepth 100000 in
theorem c_Declarer_tieSuperclasses (l : Launch) (K : Kst) (A : Nat → Nat) {σ : Sto} {ss : Sto} (h : p_Declarer_tieSuperclasses σ = some ss) : Met l y_Declarer_tieSuperclasses w_Declarer_tieSuperclasses r_Declarer_tieSuperclasses (va_Pc [.ref (A 20)] (RB K A σ)) (RQv K A ss) 0 0 (RF A) := by
  refine Met.ofW (cc := b_Declarer_tieSuperclasses) (maxL := 3) (ret := none) (by decide) rfl ?_
  intro p e s m args below meth c s₁ B hml hv
  obtain ⟨rfl, hP, hK, hD⟩ := hv
  have hx := B.exec
  have hb := B.bytes
  have hr := B.returns
  have hts := atoms_spec (ws := w_Declarer_tieSuperclasses) B.pre
  have hg : ∀ w ∈ Tg, w.before _ s = true := fun w q => hts w (List.mem_cons_of_mem _ q)
  have hown : s.vm.findClass "LanguageServer$Declarer" = some m.cls := findClass_of_methodNamed B.named
  have hlocks := B.notSynchronized
  have hS : va_S (RF A) s.heap s.heap [] := va_S.rf
  have hl := lv_entry ([.ref (A 20)]) (n := 3) (Nat.le_of_ble_eq_true rfl)
  rw [lg_entry_eq]
  generalize (lg_sl ([.ref (A 20)]) ++ List.replicate (3 - (lg_sl ([.ref (A 20)])).length) Slot.unset).toArray = ls at hl ⊢
  have hl : lv_has ls 3 [(0, .ref (A 20))] := hl
  generalize hargs : ([.ref (A 20)] : List Value).toArray = args at hg hts ⊢
  obtain ⟨Q, hQ⟩ : ∃ Q, Q = MQ below (RQv K A ss) args s 0 0 (RF A) := ⟨_, rfl⟩
  rw [← hQ]
  have hRet : ∀ (σ : Sto), some σ = some ss → ∀ (H : Heap) (locs : List Loc), va_P K.1 vwCl (wR K A σ) H → va_D (RF A) (wR K A σ) → va_S (RF A) s.heap H locs → ∀ (pc : Nat) (ls : Array Slot), decode b_Declarer_tieSuperclasses pc = .ok (.return_, 1) → W p l e (headSpec w_Declarer_tieSuperclasses r_Declarer_tieSuperclasses).room s m args below meth c H locs 0 0 Q (F0 m pc ls []) := by
    intro σ h H locs hP hD hS pc ls hd
    cases h
    subst hQ
    exact W.vret hx hb hr (fun t ht hW => ⟨⟨(), rfl, trivial, by rw [ht]; exact hP, RK.warm hW hK, hD⟩, hS.F ht⟩) hS.2.2 hd
  clear hQ
  unfold p_Declarer_tieSuperclasses at h
  have L_63 : ∀ (n : Nat) (σ : Sto) (x1 : Int32), p_Declarer_tieSuperclasses_L63 n σ x1 = some ss → ∀ (H : Heap) (locs : List Loc), va_P K.1 vwCl (wR K A σ) H → va_D (RF A) (wR K A σ) → va_S (RF A) s.heap H locs → ∀ ls : Array Slot, lv_has ls 3 [(0, .ref (A 20)), (1, .int x1)] → W p l e (headSpec w_Declarer_tieSuperclasses r_Declarer_tieSuperclasses).room s m args below meth c H locs 0 0 Q (F0 m 63 ls []) := by
    intro n
    induction n with
    | zero => intro _ _ h; cases h
    | succ n ih =>
      intro σ x1 h H locs hP hD hS ls hl
      rw [p_Declarer_tieSuperclasses_L63] at h
      refine lv_iload_n hx hb d_Declarer_tieSuperclasses_63 rfl (lv_at hl 1 rfl) ?_
      refine lv_aload_n hx hb d_Declarer_tieSuperclasses_64 rfl (lv_at hl 0 rfl) ?_
      refine gf_Declarer_21 hx hb hg hown hK hP d_Declarer_tieSuperclasses_65 ?_
      refine gf_Declarer_89 hx hb hg hown hK hP d_Declarer_tieSuperclasses_68 ?_
      refine lv_icmp_ge (tgt := 136) hx hb d_Declarer_tieSuperclasses_71 (by decide) (fun c_71 => ?_) (fun c_71 => ?_)
      · replace h := itp c_71 h
        exact hRet _ h _ _ hP hD hS _ _ d_Declarer_tieSuperclasses_136
      · replace h := itf c_71 h
        refine lv_aload_n hx hb d_Declarer_tieSuperclasses_74 rfl (lv_at hl 0 rfl) ?_
        refine lv_iload_n hx hb d_Declarer_tieSuperclasses_75 rfl (lv_at hl 1 rfl) ?_
        obtain ⟨v_76, e_76, h⟩ := bd1_some h
        refine R_calli (va_runV (As := [.int x1]) (rest := []) ⟨hx, hb, hml, hown, hts⟩ (c_Declarer_superName l K A e_76) (cwV 1 hts (gd_V wd_494 wd_496 wp_23 wd_8 wd_497) rfl rfl rfl dv_Declarer_superName ⟨Nat.le_of_ble_eq_true rfl, Nat.le_of_ble_eq_true rfl⟩) (R_pv_20 hK hP hD) rfl rfl hl.1 rfl (lv_room (Nat.le_of_ble_eq_true rfl)) d_Declarer_tieSuperclasses_76 ⟨Nat.le_of_ble_eq_true rfl, Nat.le_of_ble_eq_true rfl⟩) hS (fun H locs hP hD hS => ?_)
        refine lv_istore_n (lv' := [(2, .int v_76), (0, .ref (A 20)), (1, .int x1)]) hx hb d_Declarer_tieSuperclasses_79 rfl hl (by decide) rfl (fun ls hl => ?_)
        refine lv_iload_n hx hb d_Declarer_tieSuperclasses_80 rfl (lv_at hl 0 rfl) ?_
        refine lv_iconst (v := (-1)) hx hb d_Declarer_tieSuperclasses_81 (by decide) ?_
        refine lv_icmp_eq (tgt := 115) hx hb d_Declarer_tieSuperclasses_82 (by decide) (fun c_82 => ?_) (fun c_82 => ?_)
        · replace h := itp c_82 h
          refine lv_aload_n hx hb d_Declarer_tieSuperclasses_115 rfl (lv_at hl 1 rfl) ?_
          refine gf_Declarer_21 hx hb hg hown hK hP d_Declarer_tieSuperclasses_116 ?_
          refine gf_Declarer_99 hx hb hg hown hK hP d_Declarer_tieSuperclasses_119 ?_
          refine lv_iload_n hx hb d_Declarer_tieSuperclasses_122 rfl (lv_at hl 2 rfl) ?_
          refine lv_aload_n hx hb d_Declarer_tieSuperclasses_123 rfl (lv_at hl 1 rfl) ?_
          refine gf_Declarer_11 hx hb hg hown hK hP d_Declarer_tieSuperclasses_124 ?_
          refine lv_iload_n hx hb d_Declarer_tieSuperclasses_127 rfl (lv_at hl 2 rfl) ?_
          obtain ⟨i_128, h⟩ := itn h
          refine ra_21 hx hb hK hP i_128 d_Declarer_tieSuperclasses_128 ?_
          obtain ⟨i_129, h⟩ := itn h
          refine wa_14 hx hb hK hP hD hS i_129 d_Declarer_tieSuperclasses_129 (fun H locs hP hD hS => ?_)
          refine lv_iinc (v := x1 + 1) (lv' := [(1, .int (x1 + 1)), (2, .int v_76), (0, .ref (A 20))]) hx hb d_Declarer_tieSuperclasses_130 hl (k := 2) rfl (by first | rfl | decide) (by decide) rfl (fun ls hl => ?_)
          refine lv_goto (tgt := 63) hx hb d_Declarer_tieSuperclasses_133 (by decide) ?_
          exact ih _ _ h _ _ hP hD hS ls (lv_sub hl [2, 0] rfl)
        · replace h := itf c_82 h
          refine lv_aload_n hx hb d_Declarer_tieSuperclasses_85 rfl (lv_at hl 1 rfl) ?_
          refine lv_iload_n hx hb d_Declarer_tieSuperclasses_86 rfl (lv_at hl 2 rfl) ?_
          obtain ⟨v_87, e_87, h⟩ := bd1_some h
          refine R_calli (va_runV (As := [.int x1]) (rest := []) ⟨hx, hb, hml, hown, hts⟩ (c_Declarer_leadsBack l K A e_87) (cwV 1 hts (gd_V wd_498 wd_500 wp_24 wd_8 wd_501) rfl rfl rfl dv_Declarer_leadsBack ⟨Nat.le_of_ble_eq_true rfl, Nat.le_of_ble_eq_true rfl⟩) (R_pv_20 hK hP hD) rfl rfl hl.1 rfl (lv_room (Nat.le_of_ble_eq_true rfl)) d_Declarer_tieSuperclasses_87 ⟨Nat.le_of_ble_eq_true rfl, Nat.le_of_ble_eq_true rfl⟩) hS (fun H locs hP hD hS => ?_)
          refine lv_if_eq (tgt := 115) hx hb d_Declarer_tieSuperclasses_90 (by decide) (fun c_90 => ?_) (fun c_90 => ?_)
          · replace h := itp c_90 h
            refine lv_aload_n hx hb d_Declarer_tieSuperclasses_115 rfl (lv_at hl 1 rfl) ?_
            refine gf_Declarer_21 hx hb hg hown hK hP d_Declarer_tieSuperclasses_116 ?_
            refine gf_Declarer_99 hx hb hg hown hK hP d_Declarer_tieSuperclasses_119 ?_
            refine lv_iload_n hx hb d_Declarer_tieSuperclasses_122 rfl (lv_at hl 2 rfl) ?_
            refine lv_aload_n hx hb d_Declarer_tieSuperclasses_123 rfl (lv_at hl 1 rfl) ?_
            refine gf_Declarer_11 hx hb hg hown hK hP d_Declarer_tieSuperclasses_124 ?_
            refine lv_iload_n hx hb d_Declarer_tieSuperclasses_127 rfl (lv_at hl 2 rfl) ?_
            obtain ⟨i_128, h⟩ := itn h
            refine ra_21 hx hb hK hP i_128 d_Declarer_tieSuperclasses_128 ?_
            obtain ⟨i_129, h⟩ := itn h
            refine wa_14 hx hb hK hP hD hS i_129 d_Declarer_tieSuperclasses_129 (fun H locs hP hD hS => ?_)
            refine lv_iinc (v := x1 + 1) (lv' := [(1, .int (x1 + 1)), (2, .int v_76), (0, .ref (A 20))]) hx hb d_Declarer_tieSuperclasses_130 hl (k := 2) rfl (by first | rfl | decide) (by decide) rfl (fun ls hl => ?_)
            refine lv_goto (tgt := 63) hx hb d_Declarer_tieSuperclasses_133 (by decide) ?_
            exact ih _ _ h _ _ hP hD hS ls (lv_sub hl [2, 0] rfl)
          · replace h := itf c_90 h
            refine lv_aload_n hx hb d_Declarer_tieSuperclasses_93 rfl (lv_at hl 1 rfl) ?_
            refine gf_Declarer_21 hx hb hg hown hK hP d_Declarer_tieSuperclasses_94 ?_
            refine gf_Declarer_74 hx hb hg hown hK hP d_Declarer_tieSuperclasses_97 ?_
            refine lv_iload_n hx hb d_Declarer_tieSuperclasses_100 rfl (lv_at hl 0 rfl) ?_
            refine lv_iconst (v := (-1)) hx hb d_Declarer_tieSuperclasses_101 (by decide) ?_
            obtain ⟨i_102, h⟩ := itn h
            refine wa_11 hx hb hK hP hD hS i_102 d_Declarer_tieSuperclasses_102 (fun H locs hP hD hS => ?_)
            refine lv_aload_n hx hb d_Declarer_tieSuperclasses_103 rfl (lv_at hl 1 rfl) ?_
            refine gf_Declarer_25 hx hb hg hown hK hP d_Declarer_tieSuperclasses_104 ?_
            refine lv_iload_n hx hb d_Declarer_tieSuperclasses_107 rfl (lv_at hl 0 rfl) ?_
            refine lv_iconst (v := 3) hx hb d_Declarer_tieSuperclasses_108 (by decide) ?_
            obtain ⟨σ_109, e_109, h⟩ := bd1_some h
            refine R_callv (va_runV (As := [.int v_76, .int 3]) (rest := []) ⟨hx, hb, hml, hown, hts⟩ (c_Complaints_mark l K A e_109) (cwV 2 hts (gd_V wd_474 wd_475 wd_476 wd_6 wd_477) rfl rfl rfl dv_Complaints_mark ⟨Nat.le_of_ble_eq_true rfl, Nat.le_of_ble_eq_true rfl⟩) (R_pv_16 hK hP hD) rfl rfl hl.1 rfl (lv_room (Nat.le_of_ble_eq_true rfl)) d_Declarer_tieSuperclasses_109 ⟨Nat.le_of_ble_eq_true rfl, Nat.le_of_ble_eq_true rfl⟩) hS (fun H locs hP hD hS => ?_)
            refine lv_goto (tgt := 130) hx hb d_Declarer_tieSuperclasses_112 (by decide) ?_
            refine lv_iinc (v := x1 + 1) (lv' := [(1, .int (x1 + 1)), (2, .int v_76), (0, .ref (A 20))]) hx hb d_Declarer_tieSuperclasses_130 hl (k := 2) rfl (by first | rfl | decide) (by decide) rfl (fun ls hl => ?_)
            refine lv_goto (tgt := 63) hx hb d_Declarer_tieSuperclasses_133 (by decide) ?_
            exact ih _ _ h _ _ hP hD hS ls (lv_sub hl [2, 0] rfl)
  have L_2 : ∀ (n : Nat) (σ : Sto) (x1 : Int32), p_Declarer_tieSuperclasses_L2 n σ x1 = some ss → ∀ (H : Heap) (locs : List Loc), va_P K.1 vwCl (wR K A σ) H → va_D (RF A) (wR K A σ) → va_S (RF A) s.heap H locs → ∀ ls : Array Slot, lv_has ls 3 [(0, .ref (A 20)), (1, .int x1)] → W p l e (headSpec w_Declarer_tieSuperclasses r_Declarer_tieSuperclasses).room s m args below meth c H locs 0 0 Q (F0 m 2 ls []) := by
    intro n
    induction n with
    | zero => intro _ _ h; cases h
    | succ n ih =>
      intro σ x1 h H locs hP hD hS ls hl
      rw [p_Declarer_tieSuperclasses_L2] at h
      refine lv_iload_n hx hb d_Declarer_tieSuperclasses_2 rfl (lv_at hl 1 rfl) ?_
      refine lv_aload_n hx hb d_Declarer_tieSuperclasses_3 rfl (lv_at hl 0 rfl) ?_
      refine gf_Declarer_21 hx hb hg hown hK hP d_Declarer_tieSuperclasses_4 ?_
      refine gf_Declarer_89 hx hb hg hown hK hP d_Declarer_tieSuperclasses_7 ?_
      refine lv_icmp_ge (tgt := 61) hx hb d_Declarer_tieSuperclasses_10 (by decide) (fun c_10 => ?_) (fun c_10 => ?_)
      · replace h := itp c_10 h
        refine lv_iconst (v := 0) hx hb d_Declarer_tieSuperclasses_61 (by decide) ?_
        refine lv_istore_n (lv' := [(1, .int 0), (0, .ref (A 20))]) hx hb d_Declarer_tieSuperclasses_62 rfl hl (by decide) rfl (fun ls hl => ?_)
        exact L_63  FU _ _ h _ _ hP hD hS ls (lv_sub hl [1, 0] rfl)
      · replace h := itf c_10 h
        refine lv_aload_n hx hb d_Declarer_tieSuperclasses_13 rfl (lv_at hl 0 rfl) ?_
        refine lv_iload_n hx hb d_Declarer_tieSuperclasses_14 rfl (lv_at hl 1 rfl) ?_
        obtain ⟨v_15, e_15, h⟩ := bd1_some h
        refine R_calli (va_runV (As := [.int x1]) (rest := []) ⟨hx, hb, hml, hown, hts⟩ (c_Declarer_superName l K A e_15) (cwV 1 hts (gd_V wd_494 wd_496 wp_23 wd_8 wd_497) rfl rfl rfl dv_Declarer_superName ⟨Nat.le_of_ble_eq_true rfl, Nat.le_of_ble_eq_true rfl⟩) (R_pv_20 hK hP hD) rfl rfl hl.1 rfl (lv_room (Nat.le_of_ble_eq_true rfl)) d_Declarer_tieSuperclasses_15 ⟨Nat.le_of_ble_eq_true rfl, Nat.le_of_ble_eq_true rfl⟩) hS (fun H locs hP hD hS => ?_)
        refine lv_istore_n (lv' := [(2, .int v_15), (0, .ref (A 20)), (1, .int x1)]) hx hb d_Declarer_tieSuperclasses_18 rfl hl (by decide) rfl (fun ls hl => ?_)
        refine lv_aload_n hx hb d_Declarer_tieSuperclasses_19 rfl (lv_at hl 1 rfl) ?_
        refine gf_Declarer_11 hx hb hg hown hK hP d_Declarer_tieSuperclasses_20 ?_
        refine lv_iload_n hx hb d_Declarer_tieSuperclasses_23 rfl (lv_at hl 2 rfl) ?_
        refine lv_iload_n hx hb d_Declarer_tieSuperclasses_24 rfl (lv_at hl 0 rfl) ?_
        refine lv_iconst (v := (-1)) hx hb d_Declarer_tieSuperclasses_25 (by decide) ?_
        refine lv_icmp_eq (tgt := 42) hx hb d_Declarer_tieSuperclasses_26 (by decide) (fun c_26 => ?_) (fun c_26 => ?_)
        · replace h := itp c_26 h
          refine lv_iconst (v := (-1)) hx hb d_Declarer_tieSuperclasses_42 (by decide) ?_
          refine lv_goto (tgt := 54) hx hb d_Declarer_tieSuperclasses_43 (by decide) ?_
          obtain ⟨i_54, h⟩ := itn h
          refine wa_21 hx hb hK hP hD hS i_54 d_Declarer_tieSuperclasses_54 (fun H locs hP hD hS => ?_)
          refine lv_iinc (v := x1 + 1) (lv' := [(1, .int (x1 + 1)), (2, .int v_15), (0, .ref (A 20))]) hx hb d_Declarer_tieSuperclasses_55 hl (k := 2) rfl (by first | rfl | decide) (by decide) rfl (fun ls hl => ?_)
          refine lv_goto (tgt := 2) hx hb d_Declarer_tieSuperclasses_58 (by decide) ?_
          exact ih _ _ h _ _ hP hD hS ls (lv_sub hl [2, 0] rfl)
        · replace h := itf c_26 h
          refine lv_aload_n hx hb d_Declarer_tieSuperclasses_29 rfl (lv_at hl 1 rfl) ?_
          refine gf_Declarer_21 hx hb hg hown hK hP d_Declarer_tieSuperclasses_30 ?_
          refine gf_Declarer_74 hx hb hg hown hK hP d_Declarer_tieSuperclasses_33 ?_
          refine lv_iload_n hx hb d_Declarer_tieSuperclasses_36 rfl (lv_at hl 0 rfl) ?_
          obtain ⟨i_37, h⟩ := itn h
          refine ra_11 hx hb hK hP i_37 d_Declarer_tieSuperclasses_37 ?_
          refine lv_iconst (v := (-1)) hx hb d_Declarer_tieSuperclasses_38 (by decide) ?_
          refine lv_icmp_ne (tgt := 46) hx hb d_Declarer_tieSuperclasses_39 (by decide) (fun c_39 => ?_) (fun c_39 => ?_)
          · replace h := itf c_39 h
            refine lv_aload_n hx hb d_Declarer_tieSuperclasses_46 rfl (lv_at hl 1 rfl) ?_
            refine gf_Declarer_21 hx hb hg hown hK hP d_Declarer_tieSuperclasses_47 ?_
            refine lv_iload_n hx hb d_Declarer_tieSuperclasses_50 rfl (lv_at hl 0 rfl) ?_
            obtain ⟨v_51, e_51, h⟩ := bd1_some h
            refine R_calli (va_runV (As := [.int v_15]) (rest := [.int x1, .ref (A 21)]) ⟨hx, hb, hml, hown, hts⟩ (c_Outline_typeNamed l K A e_51) (cwV 1 hts (gd_V wd_486 wd_487 wd_488 wd_5 wd_489) rfl rfl rfl dv_Outline_typeNamed ⟨Nat.le_of_ble_eq_true rfl, Nat.le_of_ble_eq_true rfl⟩) (R_pv_8 hK hP hD) rfl rfl hl.1 rfl (lv_room (Nat.le_of_ble_eq_true rfl)) d_Declarer_tieSuperclasses_51 ⟨Nat.le_of_ble_eq_true rfl, Nat.le_of_ble_eq_true rfl⟩) hS (fun H locs hP hD hS => ?_)
            obtain ⟨i_54, h⟩ := itn h
            refine wa_21 hx hb hK hP hD hS i_54 d_Declarer_tieSuperclasses_54 (fun H locs hP hD hS => ?_)
            refine lv_iinc (v := x1 + 1) (lv' := [(1, .int (x1 + 1)), (2, .int v_15), (0, .ref (A 20))]) hx hb d_Declarer_tieSuperclasses_55 hl (k := 2) rfl (by first | rfl | decide) (by decide) rfl (fun ls hl => ?_)
            refine lv_goto (tgt := 2) hx hb d_Declarer_tieSuperclasses_58 (by decide) ?_
            exact ih _ _ h _ _ hP hD hS ls (lv_sub hl [2, 0] rfl)
          · replace h := itp c_39 h
            refine lv_iconst (v := (-1)) hx hb d_Declarer_tieSuperclasses_42 (by decide) ?_
            refine lv_goto (tgt := 54) hx hb d_Declarer_tieSuperclasses_43 (by decide) ?_
            obtain ⟨i_54, h⟩ := itn h
            refine wa_21 hx hb hK hP hD hS i_54 d_Declarer_tieSuperclasses_54 (fun H locs hP hD hS => ?_)
            refine lv_iinc (v := x1 + 1) (lv' := [(1, .int (x1 + 1)), (2, .int v_15), (0, .ref (A 20))]) hx hb d_Declarer_tieSuperclasses_55 hl (k := 2) rfl (by first | rfl | decide) (by decide) rfl (fun ls hl => ?_)
            refine lv_goto (tgt := 2) hx hb d_Declarer_tieSuperclasses_58 (by decide) ?_
            exact ih _ _ h _ _ hP hD hS ls (lv_sub hl [2, 0] rfl)
  refine lv_iconst (v := 0) hx hb d_Declarer_tieSuperclasses_0 (by decide) ?_
  refine lv_istore_n (lv' := [(1, .int 0), (0, .ref (A 20))]) hx hb d_Declarer_tieSuperclasses_1 rfl hl (by decide) rfl (fun ls hl => ?_)
  exact L_2  FU _ _ h _ _ hP hD hS ls (lv_sub hl [1, 0] rfl)
def p_Declarer_declare_b92 (k2 : Sto → Int32 → Option Sto) (σ : Sto) (x1 : Int32) : Option Sto :=
  bd1 (p_Declarer_typeBefore (sS σ 11 x1) x1) fun v_107 =>
    if inR x1 121 then bd1 (p_Declarer_tell (sA (sS σ 11 x1) 12 x1.toNatClampNeg v_107) x1 ((sA (sS σ 11 x1) 12 x1.toNatClampNeg v_107).1 10) 12 4) fun σ_120 =>
    k2 σ_120 (x1 + 1) else none
def p_Declarer_declare_b126 (k2 : Sto → Int32 → Option Sto) (σ : Sto) (x1 : Int32) : Option Sto :=
  bd1 (p_Declarer_typeBefore σ x1) fun v_136 =>
    if inR x1 121 then bd1 (p_Declarer_tell (sA σ 12 x1.toNatClampNeg v_136) x1 ((sA σ 12 x1.toNatClampNeg v_136).1 11) 48 5) fun σ_149 =>
    k2 σ_149 (x1 + 1) else none
def p_Declarer_declare_L2 : Nat → Sto → Int32 → Option Sto
  | 0, _, _ => none
  | n + 1, σ, x1 =>
    (if (σ.1 3) ≤ x1 then
        bd1 (p_Declarer_tieSuperclasses σ) fun σ_162 =>
        some σ_162
      else
        if inR x1 121 then (if (σ.2.1 9 x1.toNatClampNeg) = 1 then
          bd1 (p_Declarer_tell (sS σ 10 x1) x1 0 2 1) fun σ_78 =>
          p_Declarer_declare_L2 n σ_78 (x1 + 1)
        else (if (σ.2.1 9 x1.toNatClampNeg) = 2 then
          p_Declarer_declare_b92 (p_Declarer_declare_L2 n) σ x1
        else (if (σ.2.1 9 x1.toNatClampNeg) = 3 then
          p_Declarer_declare_b92 (p_Declarer_declare_L2 n) σ x1
        else (if (σ.2.1 9 x1.toNatClampNeg) = 4 then
          p_Declarer_declare_b126 (p_Declarer_declare_L2 n) σ x1
        else (if (σ.2.1 9 x1.toNatClampNeg) = 5 then
          p_Declarer_declare_b126 (p_Declarer_declare_L2 n) σ x1
        else (if (σ.2.1 9 x1.toNatClampNeg) = 6 then
          bd1 (p_Declarer_nameClass σ x1) fun σ_86 =>
          p_Declarer_declare_L2 n σ_86 (x1 + 1)
        else (if (σ.2.1 9 x1.toNatClampNeg) = 7 then
          bd1 (p_Declarer_nameClass σ x1) fun σ_86 =>
          p_Declarer_declare_L2 n σ_86 (x1 + 1)
        else (if (σ.2.1 9 x1.toNatClampNeg) = 8 then
          bd1 (p_Declarer_nameClass σ x1) fun σ_86 =>
          p_Declarer_declare_L2 n σ_86 (x1 + 1)
        else p_Declarer_declare_L2 n σ (x1 + 1))))))))) else none)
def p_Declarer_declare (σ : Sto) : Option Sto :=
  p_Declarer_declare_L2 FU σ 0
abbrev w_Declarer_declare : List Cond := Cond.code y_Declarer_declare b_Declarer_declare 2 none :: Tg
abbrev r_Declarer_declare : Room := { frames := 3, cells := 0, slots := 0, locals := 71 }
theorem dv_Declarer_declare : y_Declarer_declare.cls = "LanguageServer$Declarer" ∧ y_Declarer_declare.cls ≠ "java/lang/invoke/MethodHandle" ∧ y_Declarer_declare.cls ≠ "java/lang/invoke/VarHandle" ∧ (parseMethodDescriptor y_Declarer_declare.desc).map (fun d => d.parameters.length) = some 0 := by decide +kernel
set_option maxHeartbeats 4000000 in
set_option maxRecDepth 100000 in
theorem c_Declarer_declare (l : Launch) (K : Kst) (A : Nat → Nat) {σ : Sto} {ss : Sto} (h : p_Declarer_declare σ = some ss) : Met l y_Declarer_declare w_Declarer_declare r_Declarer_declare (va_Pc [.ref (A 20)] (RB K A σ)) (RQv K A ss) 0 0 (RF A) := by
  refine Met.ofW (cc := b_Declarer_declare) (maxL := 2) (ret := none) (by decide) rfl ?_
  intro p e s m args below meth c s₁ B hml hv
  obtain ⟨rfl, hP, hK, hD⟩ := hv
  have hx := B.exec
  have hb := B.bytes
  have hr := B.returns
  have hts := atoms_spec (ws := w_Declarer_declare) B.pre
  have hg : ∀ w ∈ Tg, w.before _ s = true := fun w q => hts w (List.mem_cons_of_mem _ q)
  have hown : s.vm.findClass "LanguageServer$Declarer" = some m.cls := findClass_of_methodNamed B.named
  have hlocks := B.notSynchronized
  have hS : va_S (RF A) s.heap s.heap [] := va_S.rf
  have hl := lv_entry ([.ref (A 20)]) (n := 2) (Nat.le_of_ble_eq_true rfl)
  rw [lg_entry_eq]
  generalize (lg_sl ([.ref (A 20)]) ++ List.replicate (2 - (lg_sl ([.ref (A 20)])).length) Slot.unset).toArray = ls at hl ⊢
  have hl : lv_has ls 2 [(0, .ref (A 20))] := hl
  generalize hargs : ([.ref (A 20)] : List Value).toArray = args at hg hts ⊢
  obtain ⟨Q, hQ⟩ : ∃ Q, Q = MQ below (RQv K A ss) args s 0 0 (RF A) := ⟨_, rfl⟩
  rw [← hQ]
  have hRet : ∀ (σ : Sto), some σ = some ss → ∀ (H : Heap) (locs : List Loc), va_P K.1 vwCl (wR K A σ) H → va_D (RF A) (wR K A σ) → va_S (RF A) s.heap H locs → ∀ (pc : Nat) (ls : Array Slot), decode b_Declarer_declare pc = .ok (.return_, 1) → W p l e (headSpec w_Declarer_declare r_Declarer_declare).room s m args below meth c H locs 0 0 Q (F0 m pc ls []) := by
    intro σ h H locs hP hD hS pc ls hd
    cases h
    subst hQ
    exact W.vret hx hb hr (fun t ht hW => ⟨⟨(), rfl, trivial, by rw [ht]; exact hP, RK.warm hW hK, hD⟩, hS.F ht⟩) hS.2.2 hd
  clear hQ
  unfold p_Declarer_declare at h
  have J_92 : ∀ (k2 : Sto → Int32 → Option Sto) (hk2 : ∀ (σ : Sto) (x1 : Int32), k2 σ x1 = some ss → ∀ (H : Heap) (locs : List Loc), va_P K.1 vwCl (wR K A σ) H → va_D (RF A) (wR K A σ) → va_S (RF A) s.heap H locs → ∀ ls : Array Slot, lv_has ls 2 [(0, .ref (A 20)), (1, .int x1)] → W p l e (headSpec w_Declarer_declare r_Declarer_declare).room s m args below meth c H locs 0 0 Q (F0 m 2 ls [])) (σ : Sto) (x1 : Int32), p_Declarer_declare_b92 k2 σ x1 = some ss → ∀ (H : Heap) (locs : List Loc), va_P K.1 vwCl (wR K A σ) H → va_D (RF A) (wR K A σ) → va_S (RF A) s.heap H locs → ∀ ls : Array Slot, lv_has ls 2 [(0, .ref (A 20)), (1, .int x1)] → W p l e (headSpec w_Declarer_declare r_Declarer_declare).room s m args below meth c H locs 0 0 Q (F0 m 92 ls []) := by
    intro k2 hk2 σ x1 h H locs hP hD hS ls hl
    rw [p_Declarer_declare_b92] at h
    refine lv_aload_n hx hb d_Declarer_declare_92 rfl (lv_at hl 0 rfl) ?_
    refine lv_iload_n hx hb d_Declarer_declare_93 rfl (lv_at hl 1 rfl) ?_
    refine pf_Declarer_51 hx hb hg hown hK hP hD hS d_Declarer_declare_94 (fun H locs hP hD hS => ?_)
    refine lv_aload_n hx hb d_Declarer_declare_97 rfl (lv_at hl 0 rfl) ?_
    refine gf_Declarer_21 hx hb hg hown hK hP d_Declarer_declare_98 ?_
    refine gf_Declarer_54 hx hb hg hown hK hP d_Declarer_declare_101 ?_
    refine lv_iload_n hx hb d_Declarer_declare_104 rfl (lv_at hl 1 rfl) ?_
    refine lv_aload_n hx hb d_Declarer_declare_105 rfl (lv_at hl 0 rfl) ?_
    refine lv_iload_n hx hb d_Declarer_declare_106 rfl (lv_at hl 1 rfl) ?_
    obtain ⟨v_107, e_107, h⟩ := bd1_some h
    refine R_calli (va_runV (As := [.int x1]) (rest := [.int x1, .ref (A 12)]) ⟨hx, hb, hml, hown, hts⟩ (c_Declarer_typeBefore l K A e_107) (cwV 1 hts (gd_V wd_482 wd_484 wp_21 wd_8 wd_485) rfl rfl rfl dv_Declarer_typeBefore ⟨Nat.le_of_ble_eq_true rfl, Nat.le_of_ble_eq_true rfl⟩) (R_pv_20 hK hP hD) rfl rfl hl.1 rfl (lv_room (Nat.le_of_ble_eq_true rfl)) d_Declarer_declare_107 ⟨Nat.le_of_ble_eq_true rfl, Nat.le_of_ble_eq_true rfl⟩) hS (fun H locs hP hD hS => ?_)
    obtain ⟨i_110, h⟩ := itn h
    refine wa_12 hx hb hK hP hD hS i_110 d_Declarer_declare_110 (fun H locs hP hD hS => ?_)
    refine lv_aload_n hx hb d_Declarer_declare_111 rfl (lv_at hl 0 rfl) ?_
    refine lv_iload_n hx hb d_Declarer_declare_112 rfl (lv_at hl 1 rfl) ?_
    refine lv_aload_n hx hb d_Declarer_declare_113 rfl (lv_at hl 0 rfl) ?_
    refine gf_Declarer_36 hx hb hg hown hK hP d_Declarer_declare_114 ?_
    refine lv_bipush (v := 12) hx hb d_Declarer_declare_117 (by decide) ?_
    refine lv_iconst (v := 4) hx hb d_Declarer_declare_119 (by decide) ?_
    obtain ⟨σ_120, e_120, h⟩ := bd1_some h
    refine R_callv (va_runV (As := [.int x1, .int ((sA (sS σ 11 x1) 12 x1.toNatClampNeg v_107).1 10), .int 12, .int 4]) (rest := []) ⟨hx, hb, hml, hown, hts⟩ (c_Declarer_tell l K A e_120) (cwV 4 hts (gd_V wd_463 wd_465 wp_19 wd_8 wd_466) rfl rfl rfl dv_Declarer_tell ⟨Nat.le_of_ble_eq_true rfl, Nat.le_of_ble_eq_true rfl⟩) (R_pv_20 hK hP hD) rfl rfl hl.1 rfl (lv_room (Nat.le_of_ble_eq_true rfl)) d_Declarer_declare_120 ⟨Nat.le_of_ble_eq_true rfl, Nat.le_of_ble_eq_true rfl⟩) hS (fun H locs hP hD hS => ?_)
    refine lv_goto (tgt := 155) hx hb d_Declarer_declare_123 (by decide) ?_
    refine lv_iinc (v := x1 + 1) (lv' := [(1, .int (x1 + 1)), (0, .ref (A 20))]) hx hb d_Declarer_declare_155 hl (k := 1) rfl (by first | rfl | decide) (by decide) rfl (fun ls hl => ?_)
    refine lv_goto (tgt := 2) hx hb d_Declarer_declare_158 (by decide) ?_
    exact hk2 _ _ h _ _ hP hD hS ls (lv_sub hl [1, 0] rfl)
  have J_126 : ∀ (k2 : Sto → Int32 → Option Sto) (hk2 : ∀ (σ : Sto) (x1 : Int32), k2 σ x1 = some ss → ∀ (H : Heap) (locs : List Loc), va_P K.1 vwCl (wR K A σ) H → va_D (RF A) (wR K A σ) → va_S (RF A) s.heap H locs → ∀ ls : Array Slot, lv_has ls 2 [(0, .ref (A 20)), (1, .int x1)] → W p l e (headSpec w_Declarer_declare r_Declarer_declare).room s m args below meth c H locs 0 0 Q (F0 m 2 ls [])) (σ : Sto) (x1 : Int32), p_Declarer_declare_b126 k2 σ x1 = some ss → ∀ (H : Heap) (locs : List Loc), va_P K.1 vwCl (wR K A σ) H → va_D (RF A) (wR K A σ) → va_S (RF A) s.heap H locs → ∀ ls : Array Slot, lv_has ls 2 [(0, .ref (A 20)), (1, .int x1)] → W p l e (headSpec w_Declarer_declare r_Declarer_declare).room s m args below meth c H locs 0 0 Q (F0 m 126 ls []) := by
    intro k2 hk2 σ x1 h H locs hP hD hS ls hl
    rw [p_Declarer_declare_b126] at h
    refine lv_aload_n hx hb d_Declarer_declare_126 rfl (lv_at hl 0 rfl) ?_
    refine gf_Declarer_21 hx hb hg hown hK hP d_Declarer_declare_127 ?_
    refine gf_Declarer_54 hx hb hg hown hK hP d_Declarer_declare_130 ?_
    refine lv_iload_n hx hb d_Declarer_declare_133 rfl (lv_at hl 1 rfl) ?_
    refine lv_aload_n hx hb d_Declarer_declare_134 rfl (lv_at hl 0 rfl) ?_
    refine lv_iload_n hx hb d_Declarer_declare_135 rfl (lv_at hl 1 rfl) ?_
    obtain ⟨v_136, e_136, h⟩ := bd1_some h
    refine R_calli (va_runV (As := [.int x1]) (rest := [.int x1, .ref (A 12)]) ⟨hx, hb, hml, hown, hts⟩ (c_Declarer_typeBefore l K A e_136) (cwV 1 hts (gd_V wd_482 wd_484 wp_21 wd_8 wd_485) rfl rfl rfl dv_Declarer_typeBefore ⟨Nat.le_of_ble_eq_true rfl, Nat.le_of_ble_eq_true rfl⟩) (R_pv_20 hK hP hD) rfl rfl hl.1 rfl (lv_room (Nat.le_of_ble_eq_true rfl)) d_Declarer_declare_136 ⟨Nat.le_of_ble_eq_true rfl, Nat.le_of_ble_eq_true rfl⟩) hS (fun H locs hP hD hS => ?_)
    obtain ⟨i_139, h⟩ := itn h
    refine wa_12 hx hb hK hP hD hS i_139 d_Declarer_declare_139 (fun H locs hP hD hS => ?_)
    refine lv_aload_n hx hb d_Declarer_declare_140 rfl (lv_at hl 0 rfl) ?_
    refine lv_iload_n hx hb d_Declarer_declare_141 rfl (lv_at hl 1 rfl) ?_
    refine lv_aload_n hx hb d_Declarer_declare_142 rfl (lv_at hl 0 rfl) ?_
    refine gf_Declarer_51 hx hb hg hown hK hP d_Declarer_declare_143 ?_
    refine lv_bipush (v := 48) hx hb d_Declarer_declare_146 (by decide) ?_
    refine lv_iconst (v := 5) hx hb d_Declarer_declare_148 (by decide) ?_
    obtain ⟨σ_149, e_149, h⟩ := bd1_some h
    refine R_callv (va_runV (As := [.int x1, .int ((sA σ 12 x1.toNatClampNeg v_136).1 11), .int 48, .int 5]) (rest := []) ⟨hx, hb, hml, hown, hts⟩ (c_Declarer_tell l K A e_149) (cwV 4 hts (gd_V wd_463 wd_465 wp_19 wd_8 wd_466) rfl rfl rfl dv_Declarer_tell ⟨Nat.le_of_ble_eq_true rfl, Nat.le_of_ble_eq_true rfl⟩) (R_pv_20 hK hP hD) rfl rfl hl.1 rfl (lv_room (Nat.le_of_ble_eq_true rfl)) d_Declarer_declare_149 ⟨Nat.le_of_ble_eq_true rfl, Nat.le_of_ble_eq_true rfl⟩) hS (fun H locs hP hD hS => ?_)
    refine lv_goto (tgt := 155) hx hb d_Declarer_declare_152 (by decide) ?_
    refine lv_iinc (v := x1 + 1) (lv' := [(1, .int (x1 + 1)), (0, .ref (A 20))]) hx hb d_Declarer_declare_155 hl (k := 1) rfl (by first | rfl | decide) (by decide) rfl (fun ls hl => ?_)
    refine lv_goto (tgt := 2) hx hb d_Declarer_declare_158 (by decide) ?_
    exact hk2 _ _ h _ _ hP hD hS ls (lv_sub hl [1, 0] rfl)
  have L_2 : ∀ (n : Nat) (σ : Sto) (x1 : Int32), p_Declarer_declare_L2 n σ x1 = some ss → ∀ (H : Heap) (locs : List Loc), va_P K.1 vwCl (wR K A σ) H → va_D (RF A) (wR K A σ) → va_S (RF A) s.heap H locs → ∀ ls : Array Slot, lv_has ls 2 [(0, .ref (A 20)), (1, .int x1)] → W p l e (headSpec w_Declarer_declare r_Declarer_declare).room s m args below meth c H locs 0 0 Q (F0 m 2 ls []) := by
    intro n
    induction n with
    | zero => intro _ _ h; cases h
    | succ n ih =>
      intro σ x1 h H locs hP hD hS ls hl
      rw [p_Declarer_declare_L2] at h
      refine lv_iload_n hx hb d_Declarer_declare_2 rfl (lv_at hl 1 rfl) ?_
      refine lv_aload_n hx hb d_Declarer_declare_3 rfl (lv_at hl 0 rfl) ?_
      refine gf_Declarer_21 hx hb hg hown hK hP d_Declarer_declare_4 ?_
      refine gf_Declarer_29 hx hb hg hown hK hP d_Declarer_declare_7 ?_
      refine lv_icmp_ge (tgt := 161) hx hb d_Declarer_declare_10 (by decide) (fun c_10 => ?_) (fun c_10 => ?_)
      · replace h := itp c_10 h
        refine lv_aload_n hx hb d_Declarer_declare_161 rfl (lv_at hl 0 rfl) ?_
        obtain ⟨σ_162, e_162, h⟩ := bd1_some h
        refine R_callv (va_runV (As := []) (rest := []) ⟨hx, hb, hml, hown, hts⟩ (c_Declarer_tieSuperclasses l K A e_162) (cwV 0 hts (gd_V wd_490 wd_492 wp_22 wd_8 wd_493) rfl rfl rfl dv_Declarer_tieSuperclasses ⟨Nat.le_of_ble_eq_true rfl, Nat.le_of_ble_eq_true rfl⟩) (R_pv_20 hK hP hD) rfl rfl hl.1 rfl (lv_room (Nat.le_of_ble_eq_true rfl)) d_Declarer_declare_162 ⟨Nat.le_of_ble_eq_true rfl, Nat.le_of_ble_eq_true rfl⟩) hS (fun H locs hP hD hS => ?_)
        exact hRet _ h _ _ hP hD hS _ _ d_Declarer_declare_165
      · replace h := itf c_10 h
        refine lv_aload_n hx hb d_Declarer_declare_13 rfl (lv_at hl 0 rfl) ?_
        refine gf_Declarer_21 hx hb hg hown hK hP d_Declarer_declare_14 ?_
        refine gf_Declarer_33 hx hb hg hown hK hP d_Declarer_declare_17 ?_
        refine lv_iload_n hx hb d_Declarer_declare_20 rfl (lv_at hl 1 rfl) ?_
        obtain ⟨i_21, h⟩ := itn h
        refine ra_9 hx hb hK hP i_21 d_Declarer_declare_21 ?_
        by_cases c_22_0 : (σ.2.1 9 x1.toNatClampNeg) = 1
        · replace h := itp c_22_0 h
          refine lv_tableIn (off := 46) (tgt := 68) hx hb d_Declarer_declare_22 (by rw [c_22_0]; decide) (by rw [c_22_0]; decide) (by rw [c_22_0]; first | done | rfl | decide) (by decide) ?_
          refine lv_aload_n hx hb d_Declarer_declare_68 rfl (lv_at hl 0 rfl) ?_
          refine lv_iload_n hx hb d_Declarer_declare_69 rfl (lv_at hl 1 rfl) ?_
          refine pf_Declarer_36 hx hb hg hown hK hP hD hS d_Declarer_declare_70 (fun H locs hP hD hS => ?_)
          refine lv_aload_n hx hb d_Declarer_declare_73 rfl (lv_at hl 0 rfl) ?_
          refine lv_iload_n hx hb d_Declarer_declare_74 rfl (lv_at hl 1 rfl) ?_
          refine lv_iconst (v := 0) hx hb d_Declarer_declare_75 (by decide) ?_
          refine lv_iconst (v := 2) hx hb d_Declarer_declare_76 (by decide) ?_
          refine lv_iconst (v := 1) hx hb d_Declarer_declare_77 (by decide) ?_
          obtain ⟨σ_78, e_78, h⟩ := bd1_some h
          refine R_callv (va_runV (As := [.int x1, .int 0, .int 2, .int 1]) (rest := []) ⟨hx, hb, hml, hown, hts⟩ (c_Declarer_tell l K A e_78) (cwV 4 hts (gd_V wd_463 wd_465 wp_19 wd_8 wd_466) rfl rfl rfl dv_Declarer_tell ⟨Nat.le_of_ble_eq_true rfl, Nat.le_of_ble_eq_true rfl⟩) (R_pv_20 hK hP hD) rfl rfl hl.1 rfl (lv_room (Nat.le_of_ble_eq_true rfl)) d_Declarer_declare_78 ⟨Nat.le_of_ble_eq_true rfl, Nat.le_of_ble_eq_true rfl⟩) hS (fun H locs hP hD hS => ?_)
          refine lv_goto (tgt := 155) hx hb d_Declarer_declare_81 (by decide) ?_
          refine lv_iinc (v := x1 + 1) (lv' := [(1, .int (x1 + 1)), (0, .ref (A 20))]) hx hb d_Declarer_declare_155 hl (k := 1) rfl (by first | rfl | decide) (by decide) rfl (fun ls hl => ?_)
          refine lv_goto (tgt := 2) hx hb d_Declarer_declare_158 (by decide) ?_
          exact ih _ _ h _ _ hP hD hS ls (lv_sub hl [1, 0] rfl)
        replace h := itf c_22_0 h
        by_cases c_22_1 : (σ.2.1 9 x1.toNatClampNeg) = 2
        · replace h := itp c_22_1 h
          refine lv_tableIn (off := 70) (tgt := 92) hx hb d_Declarer_declare_22 (by rw [c_22_1]; decide) (by rw [c_22_1]; decide) (by rw [c_22_1]; first | done | rfl | decide) (by decide) ?_
          exact J_92 _ ih _ _ h _ _ hP hD hS ls (lv_sub hl [0, 1] rfl)
        replace h := itf c_22_1 h
        by_cases c_22_2 : (σ.2.1 9 x1.toNatClampNeg) = 3
        · replace h := itp c_22_2 h
          refine lv_tableIn (off := 70) (tgt := 92) hx hb d_Declarer_declare_22 (by rw [c_22_2]; decide) (by rw [c_22_2]; decide) (by rw [c_22_2]; first | done | rfl | decide) (by decide) ?_
          exact J_92 _ ih _ _ h _ _ hP hD hS ls (lv_sub hl [0, 1] rfl)
        replace h := itf c_22_2 h
        by_cases c_22_3 : (σ.2.1 9 x1.toNatClampNeg) = 4
        · replace h := itp c_22_3 h
          refine lv_tableIn (off := 104) (tgt := 126) hx hb d_Declarer_declare_22 (by rw [c_22_3]; decide) (by rw [c_22_3]; decide) (by rw [c_22_3]; first | done | rfl | decide) (by decide) ?_
          exact J_126 _ ih _ _ h _ _ hP hD hS ls (lv_sub hl [0, 1] rfl)
        replace h := itf c_22_3 h
        by_cases c_22_4 : (σ.2.1 9 x1.toNatClampNeg) = 5
        · replace h := itp c_22_4 h
          refine lv_tableIn (off := 104) (tgt := 126) hx hb d_Declarer_declare_22 (by rw [c_22_4]; decide) (by rw [c_22_4]; decide) (by rw [c_22_4]; first | done | rfl | decide) (by decide) ?_
          exact J_126 _ ih _ _ h _ _ hP hD hS ls (lv_sub hl [0, 1] rfl)
        replace h := itf c_22_4 h
        by_cases c_22_5 : (σ.2.1 9 x1.toNatClampNeg) = 6
        · replace h := itp c_22_5 h
          refine lv_tableIn (off := 62) (tgt := 84) hx hb d_Declarer_declare_22 (by rw [c_22_5]; decide) (by rw [c_22_5]; decide) (by rw [c_22_5]; first | done | rfl | decide) (by decide) ?_
          refine lv_aload_n hx hb d_Declarer_declare_84 rfl (lv_at hl 0 rfl) ?_
          refine lv_iload_n hx hb d_Declarer_declare_85 rfl (lv_at hl 1 rfl) ?_
          obtain ⟨σ_86, e_86, h⟩ := bd1_some h
          refine R_callv (va_runV (As := [.int x1]) (rest := []) ⟨hx, hb, hml, hown, hts⟩ (c_Declarer_nameClass l K A e_86) (cwV 1 hts (gd_V wd_478 wd_480 wp_20 wd_8 wd_481) rfl rfl rfl dv_Declarer_nameClass ⟨Nat.le_of_ble_eq_true rfl, Nat.le_of_ble_eq_true rfl⟩) (R_pv_20 hK hP hD) rfl rfl hl.1 rfl (lv_room (Nat.le_of_ble_eq_true rfl)) d_Declarer_declare_86 ⟨Nat.le_of_ble_eq_true rfl, Nat.le_of_ble_eq_true rfl⟩) hS (fun H locs hP hD hS => ?_)
          refine lv_goto (tgt := 155) hx hb d_Declarer_declare_89 (by decide) ?_
          refine lv_iinc (v := x1 + 1) (lv' := [(1, .int (x1 + 1)), (0, .ref (A 20))]) hx hb d_Declarer_declare_155 hl (k := 1) rfl (by first | rfl | decide) (by decide) rfl (fun ls hl => ?_)
          refine lv_goto (tgt := 2) hx hb d_Declarer_declare_158 (by decide) ?_
          exact ih _ _ h _ _ hP hD hS ls (lv_sub hl [1, 0] rfl)
        replace h := itf c_22_5 h
        by_cases c_22_6 : (σ.2.1 9 x1.toNatClampNeg) = 7
        · replace h := itp c_22_6 h
          refine lv_tableIn (off := 62) (tgt := 84) hx hb d_Declarer_declare_22 (by rw [c_22_6]; decide) (by rw [c_22_6]; decide) (by rw [c_22_6]; first | done | rfl | decide) (by decide) ?_
          refine lv_aload_n hx hb d_Declarer_declare_84 rfl (lv_at hl 0 rfl) ?_
          refine lv_iload_n hx hb d_Declarer_declare_85 rfl (lv_at hl 1 rfl) ?_
          obtain ⟨σ_86, e_86, h⟩ := bd1_some h
          refine R_callv (va_runV (As := [.int x1]) (rest := []) ⟨hx, hb, hml, hown, hts⟩ (c_Declarer_nameClass l K A e_86) (cwV 1 hts (gd_V wd_478 wd_480 wp_20 wd_8 wd_481) rfl rfl rfl dv_Declarer_nameClass ⟨Nat.le_of_ble_eq_true rfl, Nat.le_of_ble_eq_true rfl⟩) (R_pv_20 hK hP hD) rfl rfl hl.1 rfl (lv_room (Nat.le_of_ble_eq_true rfl)) d_Declarer_declare_86 ⟨Nat.le_of_ble_eq_true rfl, Nat.le_of_ble_eq_true rfl⟩) hS (fun H locs hP hD hS => ?_)
          refine lv_goto (tgt := 155) hx hb d_Declarer_declare_89 (by decide) ?_
          refine lv_iinc (v := x1 + 1) (lv' := [(1, .int (x1 + 1)), (0, .ref (A 20))]) hx hb d_Declarer_declare_155 hl (k := 1) rfl (by first | rfl | decide) (by decide) rfl (fun ls hl => ?_)
          refine lv_goto (tgt := 2) hx hb d_Declarer_declare_158 (by decide) ?_
          exact ih _ _ h _ _ hP hD hS ls (lv_sub hl [1, 0] rfl)
        replace h := itf c_22_6 h
        by_cases c_22_7 : (σ.2.1 9 x1.toNatClampNeg) = 8
        · replace h := itp c_22_7 h
          refine lv_tableIn (off := 62) (tgt := 84) hx hb d_Declarer_declare_22 (by rw [c_22_7]; decide) (by rw [c_22_7]; decide) (by rw [c_22_7]; first | done | rfl | decide) (by decide) ?_
          refine lv_aload_n hx hb d_Declarer_declare_84 rfl (lv_at hl 0 rfl) ?_
          refine lv_iload_n hx hb d_Declarer_declare_85 rfl (lv_at hl 1 rfl) ?_
          obtain ⟨σ_86, e_86, h⟩ := bd1_some h
          refine R_callv (va_runV (As := [.int x1]) (rest := []) ⟨hx, hb, hml, hown, hts⟩ (c_Declarer_nameClass l K A e_86) (cwV 1 hts (gd_V wd_478 wd_480 wp_20 wd_8 wd_481) rfl rfl rfl dv_Declarer_nameClass ⟨Nat.le_of_ble_eq_true rfl, Nat.le_of_ble_eq_true rfl⟩) (R_pv_20 hK hP hD) rfl rfl hl.1 rfl (lv_room (Nat.le_of_ble_eq_true rfl)) d_Declarer_declare_86 ⟨Nat.le_of_ble_eq_true rfl, Nat.le_of_ble_eq_true rfl⟩) hS (fun H locs hP hD hS => ?_)
          refine lv_goto (tgt := 155) hx hb d_Declarer_declare_89 (by decide) ?_
          refine lv_iinc (v := x1 + 1) (lv' := [(1, .int (x1 + 1)), (0, .ref (A 20))]) hx hb d_Declarer_declare_155 hl (k := 1) rfl (by first | rfl | decide) (by decide) rfl (fun ls hl => ?_)
          refine lv_goto (tgt := 2) hx hb d_Declarer_declare_158 (by decide) ?_
          exact ih _ _ h _ _ hP hD hS ls (lv_sub hl [1, 0] rfl)
        replace h := itf c_22_7 h
        have n_0 := lv_neT c_22_0 (a := 1) rfl
        have n_1 := lv_neT c_22_1 (a := 2) rfl
        have n_2 := lv_neT c_22_2 (a := 3) rfl
        have n_3 := lv_neT c_22_3 (a := 4) rfl
        have n_4 := lv_neT c_22_4 (a := 5) rfl
        have n_5 := lv_neT c_22_5 (a := 6) rfl
        have n_6 := lv_neT c_22_6 (a := 7) rfl
        have n_7 := lv_neT c_22_7 (a := 8) rfl
        refine lv_tableOut (tgt := 155) hx hb d_Declarer_declare_22 (by omega) (by decide) ?_
        refine lv_iinc (v := x1 + 1) (lv' := [(1, .int (x1 + 1)), (0, .ref (A 20))]) hx hb d_Declarer_declare_155 hl (k := 1) rfl (by first | rfl | decide) (by decide) rfl (fun ls hl => ?_)
        refine lv_goto (tgt := 2) hx hb d_Declarer_declare_158 (by decide) ?_
        exact ih _ _ h _ _ hP hD hS ls (lv_sub hl [1, 0] rfl)
  refine lv_iconst (v := 0) hx hb d_Declarer_declare_0 (by decide) ?_
  refine lv_istore_n (lv' := [(1, .int 0), (0, .ref (A 20))]) hx hb d_Declarer_declare_1 rfl hl (by decide) rfl (fun ls hl => ?_)
  exact L_2  FU _ _ h _ _ hP hD hS ls (lv_sub hl [1, 0] rfl)
