def p_Outline_clear (σ : Sto) : Option Sto :=
  some (sS (sS (sF (sF (sF (sF (sF σ 9 0) 10 0) 11 (-1)) 12 (-2)) 14 (-1)) 3 0) 4 0)
abbrev w_Outline_clear : List Cond := Cond.code y_Outline_clear b_Outline_clear 1 none :: Tg
abbrev r_Outline_clear : Room := { frames := 1, cells := 0, slots := 0, locals := 23 }
theorem dv_Outline_clear : y_Outline_clear.cls = "LanguageServer$Outline" ∧ y_Outline_clear.cls ≠ "java/lang/invoke/MethodHandle" ∧ y_Outline_clear.cls ≠ "java/lang/invoke/VarHandle" ∧ (parseMethodDescriptor y_Outline_clear.desc).map (fun d => d.parameters.length) = some 0 := by decide +kernel
set_option maxHeartbeats 4000000 in
set_option maxRecDepth 100000 in
theorem c_Outline_clear (l : Launch) (K : Kst) (A : Nat → Nat) {σ : Sto} {ss : Sto} (h : p_Outline_clear σ = some ss) : Met l y_Outline_clear w_Outline_clear r_Outline_clear (va_Pc [.ref (A 8)] (RB K A σ)) (RQv K A ss) 0 0 (RF A) := by
  refine Met.ofW (cc := b_Outline_clear) (maxL := 1) (ret := none) (by decide) rfl ?_
  intro p e s m args below meth c s₁ B hml hv
  obtain ⟨rfl, hP, hK, hD⟩ := hv
  have hx := B.exec
  have hb := B.bytes
  have hr := B.returns
  have hts := atoms_spec (ws := w_Outline_clear) B.pre
  have hg : ∀ w ∈ Tg, w.before _ s = true := fun w q => hts w (List.mem_cons_of_mem _ q)
  have hown : s.vm.findClass "LanguageServer$Outline" = some m.cls := findClass_of_methodNamed B.named
  have hlocks := B.notSynchronized
  have hS : va_S (RF A) s.heap s.heap [] := va_S.rf
  have hl := lv_entry ([.ref (A 8)]) (n := 1) (Nat.le_of_ble_eq_true rfl)
  rw [lg_entry_eq]
  generalize (lg_sl ([.ref (A 8)]) ++ List.replicate (1 - (lg_sl ([.ref (A 8)])).length) Slot.unset).toArray = ls at hl ⊢
  have hl : lv_has ls 1 [(0, .ref (A 8))] := hl
  generalize hargs : ([.ref (A 8)] : List Value).toArray = args at hg hts ⊢
  obtain ⟨Q, hQ⟩ : ∃ Q, Q = MQ below (RQv K A ss) args s 0 0 (RF A) := ⟨_, rfl⟩
  rw [← hQ]
  have hRet : ∀ (σ : Sto), some σ = some ss → ∀ (H : Heap) (locs : List Loc), va_P K.1 vwCl (wR K A σ) H → va_D (RF A) (wR K A σ) → va_S (RF A) s.heap H locs → ∀ (pc : Nat) (ls : Array Slot), decode b_Outline_clear pc = .ok (.return_, 1) → W p l e (headSpec w_Outline_clear r_Outline_clear).room s m args below meth c H locs 0 0 Q (F0 m pc ls []) := by
    intro σ h H locs hP hD hS pc ls hd
    cases h
    subst hQ
    exact W.vret hx hb hr (fun t ht hW => ⟨⟨(), rfl, trivial, by rw [ht]; exact hP, RK.warm hW hK, hD⟩, hS.F ht⟩) hS.2.2 hd
  clear hQ
  unfold p_Outline_clear at h
  refine lv_aload_n hx hb d_Outline_clear_0 rfl (lv_at hl 0 rfl) ?_
  refine gf_Outline_11 hx hb hg hown hK hP d_Outline_clear_1 ?_
  refine lv_iconst (v := 0) hx hb d_Outline_clear_4 (by decide) ?_
  refine R_fill 9 (rest := []) rfl rfl (by decide) ⟨9, by decide, rfl⟩ (va_cwS 2 hts (gd_S wd_356 wd_357 wd_18 wd_358) rfl rfl rfl ds_Arrays_fill ⟨Nat.le_of_ble_eq_true rfl, Nat.le_of_ble_eq_true rfl⟩) ⟨hx, hb, hml, hown, hts⟩ hK hP hD hS hl.1 (lv_room (Nat.le_of_ble_eq_true rfl)) d_Outline_clear_5 ⟨Nat.le_of_ble_eq_true rfl, Nat.le_of_ble_eq_true rfl⟩ (fun H locs hP hD hS => ?_)
  refine lv_aload_n hx hb d_Outline_clear_8 rfl (lv_at hl 0 rfl) ?_
  refine gf_Outline_17 hx hb hg hown hK hP d_Outline_clear_9 ?_
  refine lv_iconst (v := 0) hx hb d_Outline_clear_12 (by decide) ?_
  refine R_fill 10 (rest := []) rfl rfl (by decide) ⟨10, by decide, rfl⟩ (va_cwS 2 hts (gd_S wd_356 wd_357 wd_18 wd_358) rfl rfl rfl ds_Arrays_fill ⟨Nat.le_of_ble_eq_true rfl, Nat.le_of_ble_eq_true rfl⟩) ⟨hx, hb, hml, hown, hts⟩ hK hP hD hS hl.1 (lv_room (Nat.le_of_ble_eq_true rfl)) d_Outline_clear_13 ⟨Nat.le_of_ble_eq_true rfl, Nat.le_of_ble_eq_true rfl⟩ (fun H locs hP hD hS => ?_)
  refine lv_aload_n hx hb d_Outline_clear_16 rfl (lv_at hl 0 rfl) ?_
  refine gf_Outline_20 hx hb hg hown hK hP d_Outline_clear_17 ?_
  refine lv_iconst (v := (-1)) hx hb d_Outline_clear_20 (by decide) ?_
  refine R_fill 11 (rest := []) rfl rfl (by decide) ⟨11, by decide, rfl⟩ (va_cwS 2 hts (gd_S wd_356 wd_357 wd_18 wd_358) rfl rfl rfl ds_Arrays_fill ⟨Nat.le_of_ble_eq_true rfl, Nat.le_of_ble_eq_true rfl⟩) ⟨hx, hb, hml, hown, hts⟩ hK hP hD hS hl.1 (lv_room (Nat.le_of_ble_eq_true rfl)) d_Outline_clear_21 ⟨Nat.le_of_ble_eq_true rfl, Nat.le_of_ble_eq_true rfl⟩ (fun H locs hP hD hS => ?_)
  refine lv_aload_n hx hb d_Outline_clear_24 rfl (lv_at hl 0 rfl) ?_
  refine gf_Outline_23 hx hb hg hown hK hP d_Outline_clear_25 ?_
  refine lv_bipush (v := (-2)) hx hb d_Outline_clear_28 (by decide) ?_
  refine R_fill 12 (rest := []) rfl rfl (by decide) ⟨12, by decide, rfl⟩ (va_cwS 2 hts (gd_S wd_356 wd_357 wd_18 wd_358) rfl rfl rfl ds_Arrays_fill ⟨Nat.le_of_ble_eq_true rfl, Nat.le_of_ble_eq_true rfl⟩) ⟨hx, hb, hml, hown, hts⟩ hK hP hD hS hl.1 (lv_room (Nat.le_of_ble_eq_true rfl)) d_Outline_clear_30 ⟨Nat.le_of_ble_eq_true rfl, Nat.le_of_ble_eq_true rfl⟩ (fun H locs hP hD hS => ?_)
  refine lv_aload_n hx hb d_Outline_clear_33 rfl (lv_at hl 0 rfl) ?_
  refine gf_Outline_29 hx hb hg hown hK hP d_Outline_clear_34 ?_
  refine lv_iconst (v := (-1)) hx hb d_Outline_clear_37 (by decide) ?_
  refine R_fill 14 (rest := []) rfl rfl (by decide) ⟨14, by decide, rfl⟩ (va_cwS 2 hts (gd_S wd_356 wd_357 wd_18 wd_358) rfl rfl rfl ds_Arrays_fill ⟨Nat.le_of_ble_eq_true rfl, Nat.le_of_ble_eq_true rfl⟩) ⟨hx, hb, hml, hown, hts⟩ hK hP hD hS hl.1 (lv_room (Nat.le_of_ble_eq_true rfl)) d_Outline_clear_38 ⟨Nat.le_of_ble_eq_true rfl, Nat.le_of_ble_eq_true rfl⟩ (fun H locs hP hD hS => ?_)
  refine lv_aload_n hx hb d_Outline_clear_41 rfl (lv_at hl 0 rfl) ?_
  refine lv_iconst (v := 0) hx hb d_Outline_clear_42 (by decide) ?_
  refine pf_Outline_47 hx hb hg hown hK hP hD hS d_Outline_clear_43 (fun H locs hP hD hS => ?_)
  refine lv_aload_n hx hb d_Outline_clear_46 rfl (lv_at hl 0 rfl) ?_
  refine lv_iconst (v := 0) hx hb d_Outline_clear_47 (by decide) ?_
  refine pf_Outline_51 hx hb hg hown hK hP hD hS d_Outline_clear_48 (fun H locs hP hD hS => ?_)
  exact hRet _ h _ _ hP hD hS _ _ d_Outline_clear_51
def p_Outline_addClass (σ : Sto) (x1 : Int32) : Option Sto :=
  (if (30 : Int32) ≤ (σ.1 4) then
      some σ
    else
      if inR x1 121 then if inR ((sA σ 12 x1.toNatClampNeg (σ.1 4)).1 4) 31 then some (sS (sA (sA σ 12 x1.toNatClampNeg (σ.1 4)) 13 (((sA σ 12 x1.toNatClampNeg (σ.1 4)).1 4).toNatClampNeg) x1) 4 (((sA (sA σ 12 x1.toNatClampNeg (σ.1 4)) 13 (((sA σ 12 x1.toNatClampNeg (σ.1 4)).1 4).toNatClampNeg) x1).1 4) + 1)) else none else none)
abbrev w_Outline_addClass : List Cond := Cond.code y_Outline_addClass b_Outline_addClass 2 none :: Tg
abbrev r_Outline_addClass : Room := { frames := 0, cells := 0, slots := 0, locals := 0 }
theorem dv_Outline_addClass : y_Outline_addClass.cls = "LanguageServer$Outline" ∧ y_Outline_addClass.cls ≠ "java/lang/invoke/MethodHandle" ∧ y_Outline_addClass.cls ≠ "java/lang/invoke/VarHandle" ∧ (parseMethodDescriptor y_Outline_addClass.desc).map (fun d => d.parameters.length) = some 1 := by decide +kernel
set_option maxHeartbeats 4000000 in
set_option maxRecDepth 100000 in
theorem c_Outline_addClass (l : Launch) (K : Kst) (A : Nat → Nat) {σ : Sto} {x1 : Int32} {ss : Sto} (h : p_Outline_addClass σ x1 = some ss) : Met l y_Outline_addClass w_Outline_addClass r_Outline_addClass (va_Pc [.ref (A 8), .int x1] (RB K A σ)) (RQv K A ss) 0 0 (RF A) := by
  refine Met.ofW (cc := b_Outline_addClass) (maxL := 2) (ret := none) (by decide) rfl ?_
  intro p e s m args below meth c s₁ B hml hv
  obtain ⟨rfl, hP, hK, hD⟩ := hv
  have hx := B.exec
  have hb := B.bytes
  have hr := B.returns
  have hts := atoms_spec (ws := w_Outline_addClass) B.pre
  have hg : ∀ w ∈ Tg, w.before _ s = true := fun w q => hts w (List.mem_cons_of_mem _ q)
  have hown : s.vm.findClass "LanguageServer$Outline" = some m.cls := findClass_of_methodNamed B.named
  have hlocks := B.notSynchronized
  have hS : va_S (RF A) s.heap s.heap [] := va_S.rf
  have hl := lv_entry ([.ref (A 8), .int x1]) (n := 2) (Nat.le_of_ble_eq_true rfl)
  rw [lg_entry_eq]
  generalize (lg_sl ([.ref (A 8), .int x1]) ++ List.replicate (2 - (lg_sl ([.ref (A 8), .int x1])).length) Slot.unset).toArray = ls at hl ⊢
  have hl : lv_has ls 2 [(0, .ref (A 8)), (1, .int x1)] := hl
  generalize hargs : ([.ref (A 8), .int x1] : List Value).toArray = args at hg hts ⊢
  obtain ⟨Q, hQ⟩ : ∃ Q, Q = MQ below (RQv K A ss) args s 0 0 (RF A) := ⟨_, rfl⟩
  rw [← hQ]
  have hRet : ∀ (σ : Sto), some σ = some ss → ∀ (H : Heap) (locs : List Loc), va_P K.1 vwCl (wR K A σ) H → va_D (RF A) (wR K A σ) → va_S (RF A) s.heap H locs → ∀ (pc : Nat) (ls : Array Slot), decode b_Outline_addClass pc = .ok (.return_, 1) → W p l e (headSpec w_Outline_addClass r_Outline_addClass).room s m args below meth c H locs 0 0 Q (F0 m pc ls []) := by
    intro σ h H locs hP hD hS pc ls hd
    cases h
    subst hQ
    exact W.vret hx hb hr (fun t ht hW => ⟨⟨(), rfl, trivial, by rw [ht]; exact hP, RK.warm hW hK, hD⟩, hS.F ht⟩) hS.2.2 hd
  clear hQ
  unfold p_Outline_addClass at h
  refine lv_aload_n hx hb d_Outline_addClass_0 rfl (lv_at hl 0 rfl) ?_
  refine gf_Outline_51 hx hb hg hown hK hP d_Outline_addClass_1 ?_
  refine lv_bipush (v := 30) hx hb d_Outline_addClass_4 (by decide) ?_
  refine lv_icmp_ge (tgt := 39) hx hb d_Outline_addClass_6 (by decide) (fun c_6 => ?_) (fun c_6 => ?_)
  · replace h := itp c_6 h
    exact hRet _ h _ _ hP hD hS _ _ d_Outline_addClass_39
  · replace h := itf c_6 h
    refine lv_aload_n hx hb d_Outline_addClass_9 rfl (lv_at hl 0 rfl) ?_
    refine gf_Outline_23 hx hb hg hown hK hP d_Outline_addClass_10 ?_
    refine lv_iload_n hx hb d_Outline_addClass_13 rfl (lv_at hl 1 rfl) ?_
    refine lv_aload_n hx hb d_Outline_addClass_14 rfl (lv_at hl 0 rfl) ?_
    refine gf_Outline_51 hx hb hg hown hK hP d_Outline_addClass_15 ?_
    obtain ⟨i_18, h⟩ := itn h
    refine wa_12 hx hb hK hP hD hS i_18 d_Outline_addClass_18 (fun H locs hP hD hS => ?_)
    refine lv_aload_n hx hb d_Outline_addClass_19 rfl (lv_at hl 0 rfl) ?_
    refine gf_Outline_26 hx hb hg hown hK hP d_Outline_addClass_20 ?_
    refine lv_aload_n hx hb d_Outline_addClass_23 rfl (lv_at hl 0 rfl) ?_
    refine gf_Outline_51 hx hb hg hown hK hP d_Outline_addClass_24 ?_
    refine lv_iload_n hx hb d_Outline_addClass_27 rfl (lv_at hl 1 rfl) ?_
    obtain ⟨i_28, h⟩ := itn h
    refine wa_13 hx hb hK hP hD hS i_28 d_Outline_addClass_28 (fun H locs hP hD hS => ?_)
    refine lv_aload_n hx hb d_Outline_addClass_29 rfl (lv_at hl 0 rfl) ?_
    refine lv_dup hx hb d_Outline_addClass_30 rfl ?_
    refine gf_Outline_51 hx hb hg hown hK hP d_Outline_addClass_31 ?_
    refine lv_iconst (v := 1) hx hb d_Outline_addClass_34 (by decide) ?_
    refine lv_iadd hx hb d_Outline_addClass_35 ?_
    refine pf_Outline_51 hx hb hg hown hK hP hD hS d_Outline_addClass_36 (fun H locs hP hD hS => ?_)
    exact hRet _ h _ _ hP hD hS _ _ d_Outline_addClass_39
def p_Outline_finish (σ : Sto) (x1 : Int32) : Option Sto :=
  if inR ((sS σ 3 x1).1 4) 31 then some (sA (sS σ 3 x1) 13 (((sS σ 3 x1).1 4).toNatClampNeg) x1) else none
abbrev w_Outline_finish : List Cond := Cond.code y_Outline_finish b_Outline_finish 2 none :: Tg
abbrev r_Outline_finish : Room := { frames := 0, cells := 0, slots := 0, locals := 0 }
theorem dv_Outline_finish : y_Outline_finish.cls = "LanguageServer$Outline" ∧ y_Outline_finish.cls ≠ "java/lang/invoke/MethodHandle" ∧ y_Outline_finish.cls ≠ "java/lang/invoke/VarHandle" ∧ (parseMethodDescriptor y_Outline_finish.desc).map (fun d => d.parameters.length) = some 1 := by decide +kernel
set_option maxHeartbeats 4000000 in
set_option maxRecDepth 100000 in
theorem c_Outline_finish (l : Launch) (K : Kst) (A : Nat → Nat) {σ : Sto} {x1 : Int32} {ss : Sto} (h : p_Outline_finish σ x1 = some ss) : Met l y_Outline_finish w_Outline_finish r_Outline_finish (va_Pc [.ref (A 8), .int x1] (RB K A σ)) (RQv K A ss) 0 0 (RF A) := by
  refine Met.ofW (cc := b_Outline_finish) (maxL := 2) (ret := none) (by decide) rfl ?_
  intro p e s m args below meth c s₁ B hml hv
  obtain ⟨rfl, hP, hK, hD⟩ := hv
  have hx := B.exec
  have hb := B.bytes
  have hr := B.returns
  have hts := atoms_spec (ws := w_Outline_finish) B.pre
  have hg : ∀ w ∈ Tg, w.before _ s = true := fun w q => hts w (List.mem_cons_of_mem _ q)
  have hown : s.vm.findClass "LanguageServer$Outline" = some m.cls := findClass_of_methodNamed B.named
  have hlocks := B.notSynchronized
  have hS : va_S (RF A) s.heap s.heap [] := va_S.rf
  have hl := lv_entry ([.ref (A 8), .int x1]) (n := 2) (Nat.le_of_ble_eq_true rfl)
  rw [lg_entry_eq]
  generalize (lg_sl ([.ref (A 8), .int x1]) ++ List.replicate (2 - (lg_sl ([.ref (A 8), .int x1])).length) Slot.unset).toArray = ls at hl ⊢
  have hl : lv_has ls 2 [(0, .ref (A 8)), (1, .int x1)] := hl
  generalize hargs : ([.ref (A 8), .int x1] : List Value).toArray = args at hg hts ⊢
  obtain ⟨Q, hQ⟩ : ∃ Q, Q = MQ below (RQv K A ss) args s 0 0 (RF A) := ⟨_, rfl⟩
  rw [← hQ]
  have hRet : ∀ (σ : Sto), some σ = some ss → ∀ (H : Heap) (locs : List Loc), va_P K.1 vwCl (wR K A σ) H → va_D (RF A) (wR K A σ) → va_S (RF A) s.heap H locs → ∀ (pc : Nat) (ls : Array Slot), decode b_Outline_finish pc = .ok (.return_, 1) → W p l e (headSpec w_Outline_finish r_Outline_finish).room s m args below meth c H locs 0 0 Q (F0 m pc ls []) := by
    intro σ h H locs hP hD hS pc ls hd
    cases h
    subst hQ
    exact W.vret hx hb hr (fun t ht hW => ⟨⟨(), rfl, trivial, by rw [ht]; exact hP, RK.warm hW hK, hD⟩, hS.F ht⟩) hS.2.2 hd
  clear hQ
  unfold p_Outline_finish at h
  refine lv_aload_n hx hb d_Outline_finish_0 rfl (lv_at hl 0 rfl) ?_
  refine lv_iload_n hx hb d_Outline_finish_1 rfl (lv_at hl 1 rfl) ?_
  refine pf_Outline_47 hx hb hg hown hK hP hD hS d_Outline_finish_2 (fun H locs hP hD hS => ?_)
  refine lv_aload_n hx hb d_Outline_finish_5 rfl (lv_at hl 0 rfl) ?_
  refine gf_Outline_26 hx hb hg hown hK hP d_Outline_finish_6 ?_
  refine lv_aload_n hx hb d_Outline_finish_9 rfl (lv_at hl 0 rfl) ?_
  refine gf_Outline_51 hx hb hg hown hK hP d_Outline_finish_10 ?_
  refine lv_iload_n hx hb d_Outline_finish_13 rfl (lv_at hl 1 rfl) ?_
  obtain ⟨i_14, h⟩ := itn h
  refine wa_13 hx hb hK hP hD hS i_14 d_Outline_finish_14 (fun H locs hP hD hS => ?_)
  exact hRet _ h _ _ hP hD hS _ _ d_Outline_finish_15
def p_Outline_giveUp (σ : Sto) (x1 : Int32) : Option Sto :=
  some (sS (sS σ 3 x1) 4 0)
abbrev w_Outline_giveUp : List Cond := Cond.code y_Outline_giveUp b_Outline_giveUp 2 none :: Tg
abbrev r_Outline_giveUp : Room := { frames := 0, cells := 0, slots := 0, locals := 0 }
theorem dv_Outline_giveUp : y_Outline_giveUp.cls = "LanguageServer$Outline" ∧ y_Outline_giveUp.cls ≠ "java/lang/invoke/MethodHandle" ∧ y_Outline_giveUp.cls ≠ "java/lang/invoke/VarHandle" ∧ (parseMethodDescriptor y_Outline_giveUp.desc).map (fun d => d.parameters.length) = some 1 := by decide +kernel
set_option maxHeartbeats 4000000 in
set_option maxRecDepth 100000 in
theorem c_Outline_giveUp (l : Launch) (K : Kst) (A : Nat → Nat) {σ : Sto} {x1 : Int32} {ss : Sto} (h : p_Outline_giveUp σ x1 = some ss) : Met l y_Outline_giveUp w_Outline_giveUp r_Outline_giveUp (va_Pc [.ref (A 8), .int x1] (RB K A σ)) (RQv K A ss) 0 0 (RF A) := by
  refine Met.ofW (cc := b_Outline_giveUp) (maxL := 2) (ret := none) (by decide) rfl ?_
  intro p e s m args below meth c s₁ B hml hv
  obtain ⟨rfl, hP, hK, hD⟩ := hv
  have hx := B.exec
  have hb := B.bytes
  have hr := B.returns
  have hts := atoms_spec (ws := w_Outline_giveUp) B.pre
  have hg : ∀ w ∈ Tg, w.before _ s = true := fun w q => hts w (List.mem_cons_of_mem _ q)
  have hown : s.vm.findClass "LanguageServer$Outline" = some m.cls := findClass_of_methodNamed B.named
  have hlocks := B.notSynchronized
  have hS : va_S (RF A) s.heap s.heap [] := va_S.rf
  have hl := lv_entry ([.ref (A 8), .int x1]) (n := 2) (Nat.le_of_ble_eq_true rfl)
  rw [lg_entry_eq]
  generalize (lg_sl ([.ref (A 8), .int x1]) ++ List.replicate (2 - (lg_sl ([.ref (A 8), .int x1])).length) Slot.unset).toArray = ls at hl ⊢
  have hl : lv_has ls 2 [(0, .ref (A 8)), (1, .int x1)] := hl
  generalize hargs : ([.ref (A 8), .int x1] : List Value).toArray = args at hg hts ⊢
  obtain ⟨Q, hQ⟩ : ∃ Q, Q = MQ below (RQv K A ss) args s 0 0 (RF A) := ⟨_, rfl⟩
  rw [← hQ]
  have hRet : ∀ (σ : Sto), some σ = some ss → ∀ (H : Heap) (locs : List Loc), va_P K.1 vwCl (wR K A σ) H → va_D (RF A) (wR K A σ) → va_S (RF A) s.heap H locs → ∀ (pc : Nat) (ls : Array Slot), decode b_Outline_giveUp pc = .ok (.return_, 1) → W p l e (headSpec w_Outline_giveUp r_Outline_giveUp).room s m args below meth c H locs 0 0 Q (F0 m pc ls []) := by
    intro σ h H locs hP hD hS pc ls hd
    cases h
    subst hQ
    exact W.vret hx hb hr (fun t ht hW => ⟨⟨(), rfl, trivial, by rw [ht]; exact hP, RK.warm hW hK, hD⟩, hS.F ht⟩) hS.2.2 hd
  clear hQ
  unfold p_Outline_giveUp at h
  refine lv_aload_n hx hb d_Outline_giveUp_0 rfl (lv_at hl 0 rfl) ?_
  refine lv_iload_n hx hb d_Outline_giveUp_1 rfl (lv_at hl 1 rfl) ?_
  refine pf_Outline_47 hx hb hg hown hK hP hD hS d_Outline_giveUp_2 (fun H locs hP hD hS => ?_)
  refine lv_aload_n hx hb d_Outline_giveUp_5 rfl (lv_at hl 0 rfl) ?_
  refine lv_iconst (v := 0) hx hb d_Outline_giveUp_6 (by decide) ?_
  refine pf_Outline_51 hx hb hg hown hK hP hD hS d_Outline_giveUp_7 (fun H locs hP hD hS => ?_)
  exact hRet _ h _ _ hP hD hS _ _ d_Outline_giveUp_10
def p_Outline_isClass (σ : Sto) (x1 : Int32) : Option Int32 :=
  (if x1 < 0 then
      some 0
    else
      (if (σ.1 4) ≤ x1 then
        some 0
      else
        some 1))
abbrev w_Outline_isClass : List Cond := Cond.code y_Outline_isClass b_Outline_isClass 2 (some .boolean) :: Tg
abbrev r_Outline_isClass : Room := { frames := 0, cells := 0, slots := 0, locals := 0 }
theorem dv_Outline_isClass : y_Outline_isClass.cls = "LanguageServer$Outline" ∧ y_Outline_isClass.cls ≠ "java/lang/invoke/MethodHandle" ∧ y_Outline_isClass.cls ≠ "java/lang/invoke/VarHandle" ∧ (parseMethodDescriptor y_Outline_isClass.desc).map (fun d => d.parameters.length) = some 1 := by decide +kernel
set_option maxHeartbeats 4000000 in
set_option maxRecDepth 100000 in
theorem c_Outline_isClass (l : Launch) (K : Kst) (A : Nat → Nat) {σ : Sto} {x1 : Int32} {rr : Int32} (h : p_Outline_isClass σ x1 = some rr) : Met l y_Outline_isClass w_Outline_isClass r_Outline_isClass (va_Pc [.ref (A 8), .int x1] (RB K A σ)) (RQi K A rr σ) 0 0 (RF A) := by
  refine Met.ofW (cc := b_Outline_isClass) (maxL := 2) (ret := (some .boolean)) (by decide) rfl ?_
  intro p e s m args below meth c s₁ B hml hv
  obtain ⟨rfl, hP, hK, hD⟩ := hv
  have hx := B.exec
  have hb := B.bytes
  have hr := B.returns
  have hts := atoms_spec (ws := w_Outline_isClass) B.pre
  have hg : ∀ w ∈ Tg, w.before _ s = true := fun w q => hts w (List.mem_cons_of_mem _ q)
  have hown : s.vm.findClass "LanguageServer$Outline" = some m.cls := findClass_of_methodNamed B.named
  have hlocks := B.notSynchronized
  have hS : va_S (RF A) s.heap s.heap [] := va_S.rf
  have hl := lv_entry ([.ref (A 8), .int x1]) (n := 2) (Nat.le_of_ble_eq_true rfl)
  rw [lg_entry_eq]
  generalize (lg_sl ([.ref (A 8), .int x1]) ++ List.replicate (2 - (lg_sl ([.ref (A 8), .int x1])).length) Slot.unset).toArray = ls at hl ⊢
  have hl : lv_has ls 2 [(0, .ref (A 8)), (1, .int x1)] := hl
  generalize hargs : ([.ref (A 8), .int x1] : List Value).toArray = args at hg hts ⊢
  obtain ⟨Q, hQ⟩ : ∃ Q, Q = MQ below (RQi K A rr σ) args s 0 0 (RF A) := ⟨_, rfl⟩
  rw [← hQ]
  have hRet : ∀ (v : Int32), (narrow .boolean (.int v) = .int v) → some v = some rr → ∀ (H : Heap) (locs : List Loc), va_P K.1 vwCl (wR K A σ) H → va_D (RF A) (wR K A σ) → va_S (RF A) s.heap H locs → ∀ (pc : Nat) (ls : Array Slot), decode b_Outline_isClass pc = .ok (.ireturn, 1) → W p l e (headSpec w_Outline_isClass r_Outline_isClass).room s m args below meth c H locs 0 0 Q (F0 m pc ls [.int v]) := by
    intro v hn h H locs hP hD hS pc ls hd
    cases h
    subst hQ
    exact W.zret hx hb hr hn (fun t ht hW => ⟨⟨_, (), rfl, rfl, by rw [ht]; exact hP, RK.warm hW hK, hD⟩, hS.F ht⟩) hS.2.2 hd
  clear hQ
  unfold p_Outline_isClass at h
  refine lv_iload_n hx hb d_Outline_isClass_0 rfl (lv_at hl 1 rfl) ?_
  refine lv_if_lt (tgt := 16) hx hb d_Outline_isClass_1 (by decide) (fun c_1 => ?_) (fun c_1 => ?_)
  · replace h := itp c_1 h
    refine lv_iconst (v := 0) hx hb d_Outline_isClass_16 (by decide) ?_
    exact hRet _ rfl h _ _ hP hD hS _ _ d_Outline_isClass_17
  · replace h := itf c_1 h
    refine lv_iload_n hx hb d_Outline_isClass_4 rfl (lv_at hl 1 rfl) ?_
    refine lv_aload_n hx hb d_Outline_isClass_5 rfl (lv_at hl 0 rfl) ?_
    refine gf_Outline_51 hx hb hg hown hK hP d_Outline_isClass_6 ?_
    refine lv_icmp_ge (tgt := 16) hx hb d_Outline_isClass_9 (by decide) (fun c_9 => ?_) (fun c_9 => ?_)
    · replace h := itp c_9 h
      refine lv_iconst (v := 0) hx hb d_Outline_isClass_16 (by decide) ?_
      exact hRet _ rfl h _ _ hP hD hS _ _ d_Outline_isClass_17
    · replace h := itf c_9 h
      refine lv_iconst (v := 1) hx hb d_Outline_isClass_12 (by decide) ?_
      refine lv_goto (tgt := 17) hx hb d_Outline_isClass_13 (by decide) ?_
      exact hRet _ rfl h _ _ hP hD hS _ _ d_Outline_isClass_17
def p_Outline_find_L7 (σ : Sto) (x1 : Int32) (x2 : Int32) (x3 : Int64) (x5 : Int32) : Nat → Int32 → Option Int32
  | 0, _ => none
  | n + 1, x6 =>
    (if x2 ≤ x6 then
        some (-1)
      else
        (if (σ.1 3) ≤ x6 then
          some (-1)
        else
          if inR x6 121 then (if ((x5 >>> ((σ.2.1 9 x6.toNatClampNeg) &&& 31)) &&& 1) = 1 then
            if inR x6 121 then (if (lg_cmp (σ.2.2 x6.toNatClampNeg) x3) = 0 then
              some x6
            else
              p_Outline_find_L7 σ x1 x2 x3 x5 n (x6 + 1)) else none
          else
            p_Outline_find_L7 σ x1 x2 x3 x5 n (x6 + 1)) else none))
def p_Outline_find (σ : Sto) (x1 : Int32) (x2 : Int32) (x3 : Int64) (x5 : Int32) : Option Int32 :=
  p_Outline_find_L7 σ x1 x2 x3 x5 FU (if x1 < 0 then 0 else x1)
abbrev w_Outline_find : List Cond := Cond.code y_Outline_find b_Outline_find 7 (some .int) :: Tg
abbrev r_Outline_find : Room := { frames := 1, cells := 0, slots := 0, locals := 21 }
theorem dv_Outline_find : y_Outline_find.cls = "LanguageServer$Outline" ∧ y_Outline_find.cls ≠ "java/lang/invoke/MethodHandle" ∧ y_Outline_find.cls ≠ "java/lang/invoke/VarHandle" ∧ (parseMethodDescriptor y_Outline_find.desc).map (fun d => d.parameters.length) = some 4 := by decide +kernel
set_option maxHeartbeats 4000000 in
set_option maxRecDepth 100000 in
theorem c_Outline_find (l : Launch) (K : Kst) (A : Nat → Nat) {σ : Sto} {x1 : Int32} {x2 : Int32} {x3 : Int64} {x5 : Int32} {rr : Int32} (h : p_Outline_find σ x1 x2 x3 x5 = some rr) : Met l y_Outline_find w_Outline_find r_Outline_find (va_Pc [.ref (A 8), .int x1, .int x2, .long x3, .int x5] (RB K A σ)) (RQi K A rr σ) 0 0 (RF A) := by
  refine Met.ofW (cc := b_Outline_find) (maxL := 7) (ret := (some .int)) (by decide) rfl ?_
  intro p e s m args below meth c s₁ B hml hv
  obtain ⟨rfl, hP, hK, hD⟩ := hv
  have hx := B.exec
  have hb := B.bytes
  have hr := B.returns
  have hts := atoms_spec (ws := w_Outline_find) B.pre
  have hg : ∀ w ∈ Tg, w.before _ s = true := fun w q => hts w (List.mem_cons_of_mem _ q)
  have hown : s.vm.findClass "LanguageServer$Outline" = some m.cls := findClass_of_methodNamed B.named
  have hlocks := B.notSynchronized
  have hS : va_S (RF A) s.heap s.heap [] := va_S.rf
  have hl := lv_entry ([.ref (A 8), .int x1, .int x2, .long x3, .int x5]) (n := 7) (Nat.le_of_ble_eq_true rfl)
  rw [lg_entry_eq]
  generalize (lg_sl ([.ref (A 8), .int x1, .int x2, .long x3, .int x5]) ++ List.replicate (7 - (lg_sl ([.ref (A 8), .int x1, .int x2, .long x3, .int x5])).length) Slot.unset).toArray = ls at hl ⊢
  have hl : lv_has ls 7 [(0, .ref (A 8)), (1, .int x1), (2, .int x2), (3, .long x3), (5, .int x5)] := hl
  generalize hargs : ([.ref (A 8), .int x1, .int x2, .long x3, .int x5] : List Value).toArray = args at hg hts ⊢
  obtain ⟨Q, hQ⟩ : ∃ Q, Q = MQ below (RQi K A rr σ) args s 0 0 (RF A) := ⟨_, rfl⟩
  rw [← hQ]
  have hRet : ∀ (v : Int32), some v = some rr → ∀ (H : Heap) (locs : List Loc), va_P K.1 vwCl (wR K A σ) H → va_D (RF A) (wR K A σ) → va_S (RF A) s.heap H locs → ∀ (pc : Nat) (ls : Array Slot), decode b_Outline_find pc = .ok (.ireturn, 1) → W p l e (headSpec w_Outline_find r_Outline_find).room s m args below meth c H locs 0 0 Q (F0 m pc ls [.int v]) := by
    intro v h H locs hP hD hS pc ls hd
    cases h
    subst hQ
    exact W.iret hx hb hr (fun t ht hW => ⟨⟨_, (), rfl, rfl, by rw [ht]; exact hP, RK.warm hW hK, hD⟩, hS.F ht⟩) hS.2.2 hd
  clear hQ
  unfold p_Outline_find at h
  have L_7 : ∀ (n : Nat) (x6 : Int32), p_Outline_find_L7 σ x1 x2 x3 x5 n x6 = some rr → ∀ (H : Heap) (locs : List Loc), va_P K.1 vwCl (wR K A σ) H → va_D (RF A) (wR K A σ) → va_S (RF A) s.heap H locs → ∀ ls : Array Slot, lv_has ls 7 [(0, .ref (A 8)), (2, .int x2), (3, .long x3), (5, .int x5), (6, .int x6)] → W p l e (headSpec w_Outline_find r_Outline_find).room s m args below meth c H locs 0 0 Q (F0 m 7 ls []) := by
    intro n
    induction n with
    | zero => intro _ h; cases h
    | succ n ih =>
      intro x6 h H locs hP hD hS ls hl
      rw [p_Outline_find_L7] at h
      refine lv_iload hx hb d_Outline_find_7 (lv_at hl 4 rfl) ?_
      refine lv_iload_n hx hb d_Outline_find_9 rfl (lv_at hl 1 rfl) ?_
      refine lv_icmp_ge (tgt := 62) hx hb d_Outline_find_10 (by decide) (fun c_10 => ?_) (fun c_10 => ?_)
      · replace h := itp c_10 h
        refine lv_iconst (v := (-1)) hx hb d_Outline_find_62 (by decide) ?_
        exact hRet _ h _ _ hP hD hS _ _ d_Outline_find_63
      · replace h := itf c_10 h
        refine lv_iload hx hb d_Outline_find_13 (lv_at hl 4 rfl) ?_
        refine lv_aload_n hx hb d_Outline_find_15 rfl (lv_at hl 0 rfl) ?_
        refine gf_Outline_47 hx hb hg hown hK hP d_Outline_find_16 ?_
        refine lv_icmp_ge (tgt := 62) hx hb d_Outline_find_19 (by decide) (fun c_19 => ?_) (fun c_19 => ?_)
        · replace h := itp c_19 h
          refine lv_iconst (v := (-1)) hx hb d_Outline_find_62 (by decide) ?_
          exact hRet _ h _ _ hP hD hS _ _ d_Outline_find_63
        · replace h := itf c_19 h
          refine lv_iload hx hb d_Outline_find_22 (lv_at hl 3 rfl) ?_
          refine lv_aload_n hx hb d_Outline_find_24 rfl (lv_at hl 0 rfl) ?_
          refine gf_Outline_11 hx hb hg hown hK hP d_Outline_find_25 ?_
          refine lv_iload hx hb d_Outline_find_28 (lv_at hl 4 rfl) ?_
          obtain ⟨i_30, h⟩ := itn h
          refine ra_9 hx hb hK hP i_30 d_Outline_find_30 ?_
          refine lv_ishr hx hb d_Outline_find_31 ?_
          refine lv_iconst (v := 1) hx hb d_Outline_find_32 (by decide) ?_
          refine lv_iand hx hb d_Outline_find_33 ?_
          refine lv_iconst (v := 1) hx hb d_Outline_find_34 (by decide) ?_
          refine lv_icmp_ne (tgt := 56) hx hb d_Outline_find_35 (by decide) (fun c_35 => ?_) (fun c_35 => ?_)
          · replace h := itf c_35 h
            refine lv_iinc (v := x6 + 1) (lv' := [(6, .int (x6 + 1)), (0, .ref (A 8)), (2, .int x2), (3, .long x3), (5, .int x5)]) hx hb d_Outline_find_56 hl (k := 4) rfl (by first | rfl | decide) (by decide) rfl (fun ls hl => ?_)
            refine lv_goto (tgt := 7) hx hb d_Outline_find_59 (by decide) ?_
            exact ih _ h _ _ hP hD hS ls (lv_sub hl [1, 2, 3, 4, 0] rfl)
          · replace h := itp c_35 h
            refine lv_aload_n hx hb d_Outline_find_38 rfl (lv_at hl 0 rfl) ?_
            refine gf_Outline_35 hx hb hg hown hK hP d_Outline_find_39 ?_
            refine gf_Outline_60 hx hb hg hown hK hP d_Outline_find_42 ?_
            refine lv_iload hx hb d_Outline_find_45 (lv_at hl 4 rfl) ?_
            obtain ⟨i_47, h⟩ := itn h
            refine ra_7 hx hb hK hP i_47 d_Outline_find_47 ?_
            refine lv_lload_n hx hb d_Outline_find_48 rfl (lv_at hl 2 rfl) ?_
            refine W.lcmp hx hb d_Outline_find_49 ?_
            refine lv_if_ne (tgt := 56) hx hb d_Outline_find_50 (by decide) (fun c_50 => ?_) (fun c_50 => ?_)
            · replace h := itf c_50 h
              refine lv_iinc (v := x6 + 1) (lv' := [(6, .int (x6 + 1)), (0, .ref (A 8)), (2, .int x2), (3, .long x3), (5, .int x5)]) hx hb d_Outline_find_56 hl (k := 4) rfl (by first | rfl | decide) (by decide) rfl (fun ls hl => ?_)
              refine lv_goto (tgt := 7) hx hb d_Outline_find_59 (by decide) ?_
              exact ih _ h _ _ hP hD hS ls (lv_sub hl [1, 2, 3, 4, 0] rfl)
            · replace h := itp c_50 h
              refine lv_iload hx hb d_Outline_find_53 (lv_at hl 4 rfl) ?_
              exact hRet _ h _ _ hP hD hS _ _ d_Outline_find_55
  refine lv_iload_n hx hb d_Outline_find_0 rfl (lv_at hl 1 rfl) ?_
  refine lv_iconst (v := 0) hx hb d_Outline_find_1 (by decide) ?_
  refine va_mmax hx hb (hml.trans hl.1.symm) hown (hg _ wd_471) (hg _ wd_472) (hg _ wd_19) (hg _ wd_473) (Nat.le_of_ble_eq_true rfl) (Nat.le_of_ble_eq_true rfl) (Nat.le_of_ble_eq_true rfl) (Nat.le_of_ble_eq_true rfl) d_Outline_find_2 ?_
  refine lv_istore (lv' := [(6, .int (if x1 < 0 then 0 else x1)), (0, .ref (A 8)), (1, .int x1), (2, .int x2), (3, .long x3), (5, .int x5)]) hx hb d_Outline_find_5 hl (by decide) rfl (fun ls hl => ?_)
  exact L_7  FU _ h _ _ hP hD hS ls (lv_sub hl [1, 3, 4, 5, 0] rfl)
def p_Outline_findMember_L6 (σ : Sto) (x1 : Int32) (x2 : Int64) : Nat → Int32 → Int32 → Option Int32
  | 0, _, _ => none
  | n + 1, x4, x5 =>
    (if (σ.1 4) ≤ x5 then
        some (-1)
      else
        bd1 (p_Outline_isClass σ x4) fun v_18 =>
        (if v_18 = 0 then
          some (-1)
        else
          if inR x4 31 then if inR (x4 + 1) 31 then bd1 (p_Outline_find σ (σ.2.1 13 x4.toNatClampNeg) (σ.2.1 13 ((x4 + 1).toNatClampNeg)) x2 12) fun v_44 =>
          (if v_44 = (-1) then
            if inR x4 30 then p_Outline_findMember_L6 σ x1 x2 n (σ.2.1 14 x4.toNatClampNeg) (x5 + 1) else none
          else
            some v_44) else none else none))
def p_Outline_findMember (σ : Sto) (x1 : Int32) (x2 : Int64) : Option Int32 :=
  p_Outline_findMember_L6 σ x1 x2 FU x1 0
abbrev w_Outline_findMember : List Cond := Cond.code y_Outline_findMember b_Outline_findMember 7 (some .int) :: Tg
abbrev r_Outline_findMember : Room := { frames := 2, cells := 0, slots := 0, locals := 47 }
theorem dv_Outline_findMember : y_Outline_findMember.cls = "LanguageServer$Outline" ∧ y_Outline_findMember.cls ≠ "java/lang/invoke/MethodHandle" ∧ y_Outline_findMember.cls ≠ "java/lang/invoke/VarHandle" ∧ (parseMethodDescriptor y_Outline_findMember.desc).map (fun d => d.parameters.length) = some 2 := by decide +kernel
set_option maxHeartbeats 4000000 in
set_option maxRecDepth 100000 in
theorem c_Outline_findMember (l : Launch) (K : Kst) (A : Nat → Nat) {σ : Sto} {x1 : Int32} {x2 : Int64} {rr : Int32} (h : p_Outline_findMember σ x1 x2 = some rr) : Met l y_Outline_findMember w_Outline_findMember r_Outline_findMember (va_Pc [.ref (A 8), .int x1, .long x2] (RB K A σ)) (RQi K A rr σ) 0 0 (RF A) := by
  refine Met.ofW (cc := b_Outline_findMember) (maxL := 7) (ret := (some .int)) (by decide) rfl ?_
  intro p e s m args below meth c s₁ B hml hv
  obtain ⟨rfl, hP, hK, hD⟩ := hv
  have hx := B.exec
  have hb := B.bytes
  have hr := B.returns
  have hts := atoms_spec (ws := w_Outline_findMember) B.pre
  have hg : ∀ w ∈ Tg, w.before _ s = true := fun w q => hts w (List.mem_cons_of_mem _ q)
  have hown : s.vm.findClass "LanguageServer$Outline" = some m.cls := findClass_of_methodNamed B.named
  have hlocks := B.notSynchronized
  have hS : va_S (RF A) s.heap s.heap [] := va_S.rf
  have hl := lv_entry ([.ref (A 8), .int x1, .long x2]) (n := 7) (Nat.le_of_ble_eq_true rfl)
  rw [lg_entry_eq]
  generalize (lg_sl ([.ref (A 8), .int x1, .long x2]) ++ List.replicate (7 - (lg_sl ([.ref (A 8), .int x1, .long x2])).length) Slot.unset).toArray = ls at hl ⊢
  have hl : lv_has ls 7 [(0, .ref (A 8)), (1, .int x1), (2, .long x2)] := hl
  generalize hargs : ([.ref (A 8), .int x1, .long x2] : List Value).toArray = args at hg hts ⊢
  obtain ⟨Q, hQ⟩ : ∃ Q, Q = MQ below (RQi K A rr σ) args s 0 0 (RF A) := ⟨_, rfl⟩
  rw [← hQ]
  have hRet : ∀ (v : Int32), some v = some rr → ∀ (H : Heap) (locs : List Loc), va_P K.1 vwCl (wR K A σ) H → va_D (RF A) (wR K A σ) → va_S (RF A) s.heap H locs → ∀ (pc : Nat) (ls : Array Slot), decode b_Outline_findMember pc = .ok (.ireturn, 1) → W p l e (headSpec w_Outline_findMember r_Outline_findMember).room s m args below meth c H locs 0 0 Q (F0 m pc ls [.int v]) := by
    intro v h H locs hP hD hS pc ls hd
    cases h
    subst hQ
    exact W.iret hx hb hr (fun t ht hW => ⟨⟨_, (), rfl, rfl, by rw [ht]; exact hP, RK.warm hW hK, hD⟩, hS.F ht⟩) hS.2.2 hd
  clear hQ
  unfold p_Outline_findMember at h
  have L_6 : ∀ (n : Nat) (x4 : Int32) (x5 : Int32), p_Outline_findMember_L6 σ x1 x2 n x4 x5 = some rr → ∀ (H : Heap) (locs : List Loc), va_P K.1 vwCl (wR K A σ) H → va_D (RF A) (wR K A σ) → va_S (RF A) s.heap H locs → ∀ ls : Array Slot, lv_has ls 7 [(0, .ref (A 8)), (2, .long x2), (4, .int x4), (5, .int x5)] → W p l e (headSpec w_Outline_findMember r_Outline_findMember).room s m args below meth c H locs 0 0 Q (F0 m 6 ls []) := by
    intro n
    induction n with
    | zero => intro _ _ h; cases h
    | succ n ih =>
      intro x4 x5 h H locs hP hD hS ls hl
      rw [p_Outline_findMember_L6] at h
      refine lv_iload hx hb d_Outline_findMember_6 (lv_at hl 3 rfl) ?_
      refine lv_aload_n hx hb d_Outline_findMember_8 rfl (lv_at hl 0 rfl) ?_
      refine gf_Outline_51 hx hb hg hown hK hP d_Outline_findMember_9 ?_
      refine lv_icmp_ge (tgt := 73) hx hb d_Outline_findMember_12 (by decide) (fun c_12 => ?_) (fun c_12 => ?_)
      · replace h := itp c_12 h
        refine lv_iconst (v := (-1)) hx hb d_Outline_findMember_73 (by decide) ?_
        exact hRet _ h _ _ hP hD hS _ _ d_Outline_findMember_74
      · replace h := itf c_12 h
        refine lv_aload_n hx hb d_Outline_findMember_15 rfl (lv_at hl 0 rfl) ?_
        refine lv_iload hx hb d_Outline_findMember_16 (lv_at hl 2 rfl) ?_
        obtain ⟨v_18, e_18, h⟩ := bd1_some h
        refine R_calli (va_runV (As := [.int x4]) (rest := []) ⟨hx, hb, hml, hown, hts⟩ (c_Outline_isClass l K A e_18) (cwV 1 hts (gd_V wd_532 wd_503 wd_504 wd_5 wd_505) rfl rfl rfl dv_Outline_isClass ⟨Nat.le_of_ble_eq_true rfl, Nat.le_of_ble_eq_true rfl⟩) (R_pv_8 hK hP hD) rfl rfl hl.1 rfl (lv_room (Nat.le_of_ble_eq_true rfl)) d_Outline_findMember_18 ⟨Nat.le_of_ble_eq_true rfl, Nat.le_of_ble_eq_true rfl⟩) hS (fun H locs hP hD hS => ?_)
        refine lv_if_eq (tgt := 73) hx hb d_Outline_findMember_21 (by decide) (fun c_21 => ?_) (fun c_21 => ?_)
        · replace h := itp c_21 h
          refine lv_iconst (v := (-1)) hx hb d_Outline_findMember_73 (by decide) ?_
          exact hRet _ h _ _ hP hD hS _ _ d_Outline_findMember_74
        · replace h := itf c_21 h
          refine lv_aload_n hx hb d_Outline_findMember_24 rfl (lv_at hl 0 rfl) ?_
          refine lv_aload_n hx hb d_Outline_findMember_25 rfl (lv_at hl 0 rfl) ?_
          refine gf_Outline_26 hx hb hg hown hK hP d_Outline_findMember_26 ?_
          refine lv_iload hx hb d_Outline_findMember_29 (lv_at hl 2 rfl) ?_
          obtain ⟨i_31, h⟩ := itn h
          refine ra_13 hx hb hK hP i_31 d_Outline_findMember_31 ?_
          refine lv_aload_n hx hb d_Outline_findMember_32 rfl (lv_at hl 0 rfl) ?_
          refine gf_Outline_26 hx hb hg hown hK hP d_Outline_findMember_33 ?_
          refine lv_iload hx hb d_Outline_findMember_36 (lv_at hl 2 rfl) ?_
          refine lv_iconst (v := 1) hx hb d_Outline_findMember_38 (by decide) ?_
          refine lv_iadd hx hb d_Outline_findMember_39 ?_
          obtain ⟨i_40, h⟩ := itn h
          refine ra_13 hx hb hK hP i_40 d_Outline_findMember_40 ?_
          refine lv_lload_n hx hb d_Outline_findMember_41 rfl (lv_at hl 1 rfl) ?_
          refine lv_bipush (v := 12) hx hb d_Outline_findMember_42 (by decide) ?_
          obtain ⟨v_44, e_44, h⟩ := bd1_some h
          refine R_calli (va_runV (As := [.int (σ.2.1 13 x4.toNatClampNeg), .int (σ.2.1 13 ((x4 + 1).toNatClampNeg)), .long x2, .int 12]) (rest := []) ⟨hx, hb, hml, hown, hts⟩ (c_Outline_find l K A e_44) (cwV 4 hts (gd_V wd_533 wd_468 wd_469 wd_5 wd_470) rfl rfl rfl dv_Outline_find ⟨Nat.le_of_ble_eq_true rfl, Nat.le_of_ble_eq_true rfl⟩) (R_pv_8 hK hP hD) rfl rfl hl.1 rfl (lv_room (Nat.le_of_ble_eq_true rfl)) d_Outline_findMember_44 ⟨Nat.le_of_ble_eq_true rfl, Nat.le_of_ble_eq_true rfl⟩) hS (fun H locs hP hD hS => ?_)
          refine lv_istore (lv' := [(6, .int v_44), (0, .ref (A 8)), (2, .long x2), (4, .int x4), (5, .int x5)]) hx hb d_Outline_findMember_47 hl (by decide) rfl (fun ls hl => ?_)
          refine lv_iload hx hb d_Outline_findMember_49 (lv_at hl 0 rfl) ?_
          refine lv_iconst (v := (-1)) hx hb d_Outline_findMember_51 (by decide) ?_
          refine lv_icmp_eq (tgt := 58) hx hb d_Outline_findMember_52 (by decide) (fun c_52 => ?_) (fun c_52 => ?_)
          · replace h := itp c_52 h
            refine lv_aload_n hx hb d_Outline_findMember_58 rfl (lv_at hl 1 rfl) ?_
            refine gf_Outline_29 hx hb hg hown hK hP d_Outline_findMember_59 ?_
            refine lv_iload hx hb d_Outline_findMember_62 (lv_at hl 3 rfl) ?_
            obtain ⟨i_64, h⟩ := itn h
            refine ra_14 hx hb hK hP i_64 d_Outline_findMember_64 ?_
            refine lv_istore (lv' := [(4, .int (σ.2.1 14 x4.toNatClampNeg)), (6, .int v_44), (0, .ref (A 8)), (2, .long x2), (5, .int x5)]) hx hb d_Outline_findMember_65 hl (by decide) rfl (fun ls hl => ?_)
            refine lv_iinc (v := x5 + 1) (lv' := [(5, .int (x5 + 1)), (4, .int (σ.2.1 14 x4.toNatClampNeg)), (6, .int v_44), (0, .ref (A 8)), (2, .long x2)]) hx hb d_Outline_findMember_67 hl (k := 4) rfl (by first | rfl | decide) (by decide) rfl (fun ls hl => ?_)
            refine lv_goto (tgt := 6) hx hb d_Outline_findMember_70 (by decide) ?_
            exact ih _ _ h _ _ hP hD hS ls (lv_sub hl [3, 4, 1, 0] rfl)
          · replace h := itf c_52 h
            refine lv_iload hx hb d_Outline_findMember_55 (lv_at hl 0 rfl) ?_
            exact hRet _ h _ _ hP hD hS _ _ d_Outline_findMember_57
  refine lv_iload_n hx hb d_Outline_findMember_0 rfl (lv_at hl 1 rfl) ?_
  refine lv_istore (lv' := [(4, .int x1), (0, .ref (A 8)), (1, .int x1), (2, .long x2)]) hx hb d_Outline_findMember_1 hl (by decide) rfl (fun ls hl => ?_)
  refine lv_iconst (v := 0) hx hb d_Outline_findMember_3 (by decide) ?_
  refine lv_istore (lv' := [(5, .int 0), (4, .int x1), (0, .ref (A 8)), (1, .int x1), (2, .long x2)]) hx hb d_Outline_findMember_4 hl (by decide) rfl (fun ls hl => ?_)
  exact L_6  FU _ _ h _ _ hP hD hS ls (lv_sub hl [2, 4, 1, 0] rfl)
def p_Outline_list_L12 (x1 : Int32) (x2 : Int32) : Nat → Sto → Int32 → Option Sto
  | 0, _, _ => none
  | n + 1, σ, x3 =>
    (if x3 ≤ 0 then
        if inR x3 121 then some (sA σ 15 x3.toNatClampNeg x1) else none
      else
        if inR (x3 - 1) 121 then if inR (σ.2.1 15 ((x3 - 1).toNatClampNeg)) 121 then if inR x1 121 then (if (lg_cmp (σ.2.2 ((σ.2.1 15 ((x3 - 1).toNatClampNeg)).toNatClampNeg)) (σ.2.2 x1.toNatClampNeg)) ≤ 0 then
          if inR x3 121 then some (sA σ 15 x3.toNatClampNeg x1) else none
        else
          if inR (x3 - 1) 121 then if inR x3 121 then p_Outline_list_L12 x1 x2 n (sA σ 15 x3.toNatClampNeg (σ.2.1 15 ((x3 - 1).toNatClampNeg))) (x3 + (-1)) else none else none) else none else none else none)
def p_Outline_list (σ : Sto) (x1 : Int32) (x2 : Int32) : Option Sto :=
  p_Outline_list_L12 x1 x2 FU σ (if ((121 : Int32) - 1) < x2 then ((121 : Int32) - 1) else x2)
abbrev w_Outline_list : List Cond := Cond.code y_Outline_list b_Outline_list 4 none :: Tg
abbrev r_Outline_list : Room := { frames := 1, cells := 0, slots := 0, locals := 21 }
theorem dv_Outline_list : y_Outline_list.cls = "LanguageServer$Outline" ∧ y_Outline_list.cls ≠ "java/lang/invoke/MethodHandle" ∧ y_Outline_list.cls ≠ "java/lang/invoke/VarHandle" ∧ (parseMethodDescriptor y_Outline_list.desc).map (fun d => d.parameters.length) = some 2 := by decide +kernel
set_option maxHeartbeats 4000000 in
set_option maxRecDepth 100000 in
theorem c_Outline_list (l : Launch) (K : Kst) (A : Nat → Nat) {σ : Sto} {x1 : Int32} {x2 : Int32} {ss : Sto} (h : p_Outline_list σ x1 x2 = some ss) : Met l y_Outline_list w_Outline_list r_Outline_list (va_Pc [.ref (A 8), .int x1, .int x2] (RB K A σ)) (RQv K A ss) 0 0 (RF A) := by
  refine Met.ofW (cc := b_Outline_list) (maxL := 4) (ret := none) (by decide) rfl ?_
  intro p e s m args below meth c s₁ B hml hv
  obtain ⟨rfl, hP, hK, hD⟩ := hv
  have hx := B.exec
  have hb := B.bytes
  have hr := B.returns
  have hts := atoms_spec (ws := w_Outline_list) B.pre
  have hg : ∀ w ∈ Tg, w.before _ s = true := fun w q => hts w (List.mem_cons_of_mem _ q)
  have hown : s.vm.findClass "LanguageServer$Outline" = some m.cls := findClass_of_methodNamed B.named
  have hlocks := B.notSynchronized
  have hS : va_S (RF A) s.heap s.heap [] := va_S.rf
  have hl := lv_entry ([.ref (A 8), .int x1, .int x2]) (n := 4) (Nat.le_of_ble_eq_true rfl)
  rw [lg_entry_eq]
  generalize (lg_sl ([.ref (A 8), .int x1, .int x2]) ++ List.replicate (4 - (lg_sl ([.ref (A 8), .int x1, .int x2])).length) Slot.unset).toArray = ls at hl ⊢
  have hl : lv_has ls 4 [(0, .ref (A 8)), (1, .int x1), (2, .int x2)] := hl
  generalize hargs : ([.ref (A 8), .int x1, .int x2] : List Value).toArray = args at hg hts ⊢
  obtain ⟨Q, hQ⟩ : ∃ Q, Q = MQ below (RQv K A ss) args s 0 0 (RF A) := ⟨_, rfl⟩
  rw [← hQ]
  have hRet : ∀ (σ : Sto), some σ = some ss → ∀ (H : Heap) (locs : List Loc), va_P K.1 vwCl (wR K A σ) H → va_D (RF A) (wR K A σ) → va_S (RF A) s.heap H locs → ∀ (pc : Nat) (ls : Array Slot), decode b_Outline_list pc = .ok (.return_, 1) → W p l e (headSpec w_Outline_list r_Outline_list).room s m args below meth c H locs 0 0 Q (F0 m pc ls []) := by
    intro σ h H locs hP hD hS pc ls hd
    cases h
    subst hQ
    exact W.vret hx hb hr (fun t ht hW => ⟨⟨(), rfl, trivial, by rw [ht]; exact hP, RK.warm hW hK, hD⟩, hS.F ht⟩) hS.2.2 hd
  clear hQ
  unfold p_Outline_list at h
  have L_12 : ∀ (n : Nat) (σ : Sto) (x3 : Int32), p_Outline_list_L12 x1 x2 n σ x3 = some ss → ∀ (H : Heap) (locs : List Loc), va_P K.1 vwCl (wR K A σ) H → va_D (RF A) (wR K A σ) → va_S (RF A) s.heap H locs → ∀ ls : Array Slot, lv_has ls 4 [(0, .ref (A 8)), (1, .int x1), (3, .int x3)] → W p l e (headSpec w_Outline_list r_Outline_list).room s m args below meth c H locs 0 0 Q (F0 m 12 ls []) := by
    intro n
    induction n with
    | zero => intro _ _ h; cases h
    | succ n ih =>
      intro σ x3 h H locs hP hD hS ls hl
      rw [p_Outline_list_L12] at h
      refine lv_iload_n hx hb d_Outline_list_12 rfl (lv_at hl 2 rfl) ?_
      refine lv_if_le (tgt := 65) hx hb d_Outline_list_13 (by decide) (fun c_13 => ?_) (fun c_13 => ?_)
      · replace h := itp c_13 h
        refine lv_aload_n hx hb d_Outline_list_65 rfl (lv_at hl 0 rfl) ?_
        refine gf_Outline_32 hx hb hg hown hK hP d_Outline_list_66 ?_
        refine lv_iload_n hx hb d_Outline_list_69 rfl (lv_at hl 2 rfl) ?_
        refine lv_iload_n hx hb d_Outline_list_70 rfl (lv_at hl 1 rfl) ?_
        obtain ⟨i_71, h⟩ := itn h
        refine wa_15 hx hb hK hP hD hS i_71 d_Outline_list_71 (fun H locs hP hD hS => ?_)
        exact hRet _ h _ _ hP hD hS _ _ d_Outline_list_72
      · replace h := itf c_13 h
        refine lv_aload_n hx hb d_Outline_list_16 rfl (lv_at hl 0 rfl) ?_
        refine gf_Outline_35 hx hb hg hown hK hP d_Outline_list_17 ?_
        refine gf_Outline_60 hx hb hg hown hK hP d_Outline_list_20 ?_
        refine lv_aload_n hx hb d_Outline_list_23 rfl (lv_at hl 0 rfl) ?_
        refine gf_Outline_32 hx hb hg hown hK hP d_Outline_list_24 ?_
        refine lv_iload_n hx hb d_Outline_list_27 rfl (lv_at hl 2 rfl) ?_
        refine lv_iconst (v := 1) hx hb d_Outline_list_28 (by decide) ?_
        refine lv_isub hx hb d_Outline_list_29 ?_
        obtain ⟨i_30, h⟩ := itn h
        refine ra_15 hx hb hK hP i_30 d_Outline_list_30 ?_
        obtain ⟨i_31, h⟩ := itn h
        refine ra_7 hx hb hK hP i_31 d_Outline_list_31 ?_
        refine lv_aload_n hx hb d_Outline_list_32 rfl (lv_at hl 0 rfl) ?_
        refine gf_Outline_35 hx hb hg hown hK hP d_Outline_list_33 ?_
        refine gf_Outline_60 hx hb hg hown hK hP d_Outline_list_36 ?_
        refine lv_iload_n hx hb d_Outline_list_39 rfl (lv_at hl 1 rfl) ?_
        obtain ⟨i_40, h⟩ := itn h
        refine ra_7 hx hb hK hP i_40 d_Outline_list_40 ?_
        refine W.lcmp hx hb d_Outline_list_41 ?_
        refine lv_if_le (tgt := 65) hx hb d_Outline_list_42 (by decide) (fun c_42 => ?_) (fun c_42 => ?_)
        · replace h := itp c_42 h
          refine lv_aload_n hx hb d_Outline_list_65 rfl (lv_at hl 0 rfl) ?_
          refine gf_Outline_32 hx hb hg hown hK hP d_Outline_list_66 ?_
          refine lv_iload_n hx hb d_Outline_list_69 rfl (lv_at hl 2 rfl) ?_
          refine lv_iload_n hx hb d_Outline_list_70 rfl (lv_at hl 1 rfl) ?_
          obtain ⟨i_71, h⟩ := itn h
          refine wa_15 hx hb hK hP hD hS i_71 d_Outline_list_71 (fun H locs hP hD hS => ?_)
          exact hRet _ h _ _ hP hD hS _ _ d_Outline_list_72
        · replace h := itf c_42 h
          refine lv_aload_n hx hb d_Outline_list_45 rfl (lv_at hl 0 rfl) ?_
          refine gf_Outline_32 hx hb hg hown hK hP d_Outline_list_46 ?_
          refine lv_iload_n hx hb d_Outline_list_49 rfl (lv_at hl 2 rfl) ?_
          refine lv_aload_n hx hb d_Outline_list_50 rfl (lv_at hl 0 rfl) ?_
          refine gf_Outline_32 hx hb hg hown hK hP d_Outline_list_51 ?_
          refine lv_iload_n hx hb d_Outline_list_54 rfl (lv_at hl 2 rfl) ?_
          refine lv_iconst (v := 1) hx hb d_Outline_list_55 (by decide) ?_
          refine lv_isub hx hb d_Outline_list_56 ?_
          obtain ⟨i_57, h⟩ := itn h
          refine ra_15 hx hb hK hP i_57 d_Outline_list_57 ?_
          obtain ⟨i_58, h⟩ := itn h
          refine wa_15 hx hb hK hP hD hS i_58 d_Outline_list_58 (fun H locs hP hD hS => ?_)
          refine lv_iinc (v := x3 + (-1)) (lv' := [(3, .int (x3 + (-1))), (0, .ref (A 8)), (1, .int x1)]) hx hb d_Outline_list_59 hl (k := 2) rfl (by first | rfl | decide) (by decide) rfl (fun ls hl => ?_)
          refine lv_goto (tgt := 12) hx hb d_Outline_list_62 (by decide) ?_
          exact ih _ _ h _ _ hP hD hS ls (lv_sub hl [1, 2, 0] rfl)
  refine lv_iload_n hx hb d_Outline_list_0 rfl (lv_at hl 2 rfl) ?_
  refine lv_aload_n hx hb d_Outline_list_1 rfl (lv_at hl 0 rfl) ?_
  refine gf_Outline_32 hx hb hg hown hK hP d_Outline_list_2 ?_
  refine la_15 hx hb hK hP d_Outline_list_5 ?_
  refine lv_iconst (v := 1) hx hb d_Outline_list_6 (by decide) ?_
  refine lv_isub hx hb d_Outline_list_7 ?_
  refine va_mmin hx hb (hml.trans hl.1.symm) hown (hg _ wd_846) (hg _ wd_847) (hg _ wd_19) (hg _ wd_848) (Nat.le_of_ble_eq_true rfl) (Nat.le_of_ble_eq_true rfl) (Nat.le_of_ble_eq_true rfl) (Nat.le_of_ble_eq_true rfl) d_Outline_list_8 ?_
  refine lv_istore_n (lv' := [(3, .int (if ((121 : Int32) - 1) < x2 then ((121 : Int32) - 1) else x2)), (0, .ref (A 8)), (1, .int x1), (2, .int x2)]) hx hb d_Outline_list_11 rfl hl (by decide) rfl (fun ls hl => ?_)
  exact L_12  FU _ _ h _ _ hP hD hS ls (lv_sub hl [1, 2, 0] rfl)
def p_Outline_listMembers_b75 (x1 : Int32) (k7 : Sto → Int32 → Int32 → Int32 → Option (Int32 × Sto)) (k32 : Sto → Int32 → Int32 → Int32 → Int32 → Option (Int32 × Sto)) (σ : Sto) (x2 : Int32) (x3 : Int32) (x4 : Int32) (x5 : Int32) (s0 : Int32) : Option (Int32 × Sto) :=
  (if s0 = 0 then
      k32 σ x2 x3 x4 (x5 + 1)
    else
      if inR x5 121 then bd1 (p_Outline_findMember σ x1 (σ.2.2 x5.toNatClampNeg)) fun v_94 =>
      (if v_94 = x5 then
        bd1 (p_Outline_list σ x5 x2) fun σ_106 =>
        k32 σ_106 (x2 + 1) x3 x4 (x5 + 1)
      else
        k32 σ x2 x3 x4 (x5 + 1)) else none)
def p_Outline_listMembers_L32 (x1 : Int32) (k7 : Sto → Int32 → Int32 → Int32 → Option (Int32 × Sto)) : Nat → Sto → Int32 → Int32 → Int32 → Int32 → Option (Int32 × Sto)
  | 0, _, _, _, _, _ => none
  | n + 1, σ, x2, x3, x4, x5 =>
    if inR (x3 + 1) 31 then (if (σ.2.1 13 ((x3 + 1).toNatClampNeg)) ≤ x5 then
        if inR x3 30 then k7 σ x2 (σ.2.1 14 x3.toNatClampNeg) (x4 + 1) else none
      else
        (if (σ.1 3) ≤ x5 then
          if inR x3 30 then k7 σ x2 (σ.2.1 14 x3.toNatClampNeg) (x4 + 1) else none
        else
          if inR x5 121 then (if (((12 : Int32) >>> ((σ.2.1 9 x5.toNatClampNeg) &&& 31)) &&& 1) = 1 then
            p_Outline_listMembers_b75 x1 k7 (p_Outline_listMembers_L32 x1 k7 n) σ x2 x3 x4 x5 1
          else
            p_Outline_listMembers_b75 x1 k7 (p_Outline_listMembers_L32 x1 k7 n) σ x2 x3 x4 x5 0) else none)) else none
def p_Outline_listMembers_L7 (x1 : Int32) : Nat → Sto → Int32 → Int32 → Int32 → Option (Int32 × Sto)
  | 0, _, _, _, _ => none
  | n + 1, σ, x2, x3, x4 =>
    (if (σ.1 4) ≤ x4 then
        some (x2, σ)
      else
        bd1 (p_Outline_isClass σ x3) fun v_18 =>
        (if v_18 = 0 then
          some (x2, σ)
        else
          if inR x3 31 then p_Outline_listMembers_L32 x1 (p_Outline_listMembers_L7 x1 n) FU σ x2 x3 x4 (σ.2.1 13 x3.toNatClampNeg) else none))
def p_Outline_listMembers (σ : Sto) (x1 : Int32) : Option (Int32 × Sto) :=
  p_Outline_listMembers_L7 x1 FU σ 0 x1 0
abbrev w_Outline_listMembers : List Cond := Cond.code y_Outline_listMembers b_Outline_listMembers 7 (some .int) :: Tg
abbrev r_Outline_listMembers : Room := { frames := 3, cells := 0, slots := 0, locals := 73 }
theorem dv_Outline_listMembers : y_Outline_listMembers.cls = "LanguageServer$Outline" ∧ y_Outline_listMembers.cls ≠ "java/lang/invoke/MethodHandle" ∧ y_Outline_listMembers.cls ≠ "java/lang/invoke/VarHandle" ∧ (parseMethodDescriptor y_Outline_listMembers.desc).map (fun d => d.parameters.length) = some 1 := by decide +kernel
set_option maxHeartbeats 4000000 in
set_option maxRecDepth 100000 in
theorem c_Outline_listMembers (l : Launch) (K : Kst) (A : Nat → Nat) {σ : Sto} {x1 : Int32} {rr : Int32} {ss : Sto} (h : p_Outline_listMembers σ x1 = some (rr, ss)) : Met l y_Outline_listMembers w_Outline_listMembers r_Outline_listMembers (va_Pc [.ref (A 8), .int x1] (RB K A σ)) (RQi K A rr ss) 0 0 (RF A) := by
  refine Met.ofW (cc := b_Outline_listMembers) (maxL := 7) (ret := (some .int)) (by decide) rfl ?_
  intro p e s m args below meth c s₁ B hml hv
  obtain ⟨rfl, hP, hK, hD⟩ := hv
  have hx := B.exec
  have hb := B.bytes
  have hr := B.returns
  have hts := atoms_spec (ws := w_Outline_listMembers) B.pre
  have hg : ∀ w ∈ Tg, w.before _ s = true := fun w q => hts w (List.mem_cons_of_mem _ q)
  have hown : s.vm.findClass "LanguageServer$Outline" = some m.cls := findClass_of_methodNamed B.named
  have hlocks := B.notSynchronized
  have hS : va_S (RF A) s.heap s.heap [] := va_S.rf
  have hl := lv_entry ([.ref (A 8), .int x1]) (n := 7) (Nat.le_of_ble_eq_true rfl)
  rw [lg_entry_eq]
  generalize (lg_sl ([.ref (A 8), .int x1]) ++ List.replicate (7 - (lg_sl ([.ref (A 8), .int x1])).length) Slot.unset).toArray = ls at hl ⊢
  have hl : lv_has ls 7 [(0, .ref (A 8)), (1, .int x1)] := hl
  generalize hargs : ([.ref (A 8), .int x1] : List Value).toArray = args at hg hts ⊢
  obtain ⟨Q, hQ⟩ : ∃ Q, Q = MQ below (RQi K A rr ss) args s 0 0 (RF A) := ⟨_, rfl⟩
  rw [← hQ]
  have hRet : ∀ (v : Int32) (σ : Sto), some (v, σ) = some (rr, ss) → ∀ (H : Heap) (locs : List Loc), va_P K.1 vwCl (wR K A σ) H → va_D (RF A) (wR K A σ) → va_S (RF A) s.heap H locs → ∀ (pc : Nat) (ls : Array Slot), decode b_Outline_listMembers pc = .ok (.ireturn, 1) → W p l e (headSpec w_Outline_listMembers r_Outline_listMembers).room s m args below meth c H locs 0 0 Q (F0 m pc ls [.int v]) := by
    intro v σ h H locs hP hD hS pc ls hd
    cases h
    subst hQ
    exact W.iret hx hb hr (fun t ht hW => ⟨⟨_, (), rfl, rfl, by rw [ht]; exact hP, RK.warm hW hK, hD⟩, hS.F ht⟩) hS.2.2 hd
  clear hQ
  unfold p_Outline_listMembers at h
  have J_75 : ∀ (k7 : Sto → Int32 → Int32 → Int32 → Option (Int32 × Sto)) (hk7 : ∀ (σ : Sto) (x2 : Int32) (x3 : Int32) (x4 : Int32), k7 σ x2 x3 x4 = some (rr, ss) → ∀ (H : Heap) (locs : List Loc), va_P K.1 vwCl (wR K A σ) H → va_D (RF A) (wR K A σ) → va_S (RF A) s.heap H locs → ∀ ls : Array Slot, lv_has ls 7 [(0, .ref (A 8)), (1, .int x1), (2, .int x2), (3, .int x3), (4, .int x4)] → W p l e (headSpec w_Outline_listMembers r_Outline_listMembers).room s m args below meth c H locs 0 0 Q (F0 m 7 ls [])) (k32 : Sto → Int32 → Int32 → Int32 → Int32 → Option (Int32 × Sto)) (hk32 : ∀ (σ : Sto) (x2 : Int32) (x3 : Int32) (x4 : Int32) (x5 : Int32), k32 σ x2 x3 x4 x5 = some (rr, ss) → ∀ (H : Heap) (locs : List Loc), va_P K.1 vwCl (wR K A σ) H → va_D (RF A) (wR K A σ) → va_S (RF A) s.heap H locs → ∀ ls : Array Slot, lv_has ls 7 [(0, .ref (A 8)), (1, .int x1), (2, .int x2), (3, .int x3), (4, .int x4), (5, .int x5)] → W p l e (headSpec w_Outline_listMembers r_Outline_listMembers).room s m args below meth c H locs 0 0 Q (F0 m 32 ls [])) (σ : Sto) (x2 : Int32) (x3 : Int32) (x4 : Int32) (x5 : Int32) (s0 : Int32), p_Outline_listMembers_b75 x1 k7 k32 σ x2 x3 x4 x5 s0 = some (rr, ss) → ∀ (H : Heap) (locs : List Loc), va_P K.1 vwCl (wR K A σ) H → va_D (RF A) (wR K A σ) → va_S (RF A) s.heap H locs → ∀ ls : Array Slot, lv_has ls 7 [(0, .ref (A 8)), (1, .int x1), (2, .int x2), (3, .int x3), (4, .int x4), (5, .int x5)] → W p l e (headSpec w_Outline_listMembers r_Outline_listMembers).room s m args below meth c H locs 0 0 Q (F0 m 75 ls [.int s0]) := by
    intro k7 hk7 k32 hk32 σ x2 x3 x4 x5 s0 h H locs hP hD hS ls hl
    rw [p_Outline_listMembers_b75] at h
    refine lv_istore (lv' := [(6, .int s0), (0, .ref (A 8)), (1, .int x1), (2, .int x2), (3, .int x3), (4, .int x4), (5, .int x5)]) hx hb d_Outline_listMembers_75 hl (by decide) rfl (fun ls hl => ?_)
    refine lv_iload hx hb d_Outline_listMembers_77 (lv_at hl 0 rfl) ?_
    refine lv_if_eq (tgt := 112) hx hb d_Outline_listMembers_79 (by decide) (fun c_79 => ?_) (fun c_79 => ?_)
    · replace h := itp c_79 h
      refine lv_iinc (v := x5 + 1) (lv' := [(5, .int (x5 + 1)), (6, .int s0), (0, .ref (A 8)), (1, .int x1), (2, .int x2), (3, .int x3), (4, .int x4)]) hx hb d_Outline_listMembers_112 hl (k := 6) rfl (by first | rfl | decide) (by decide) rfl (fun ls hl => ?_)
      refine lv_goto (tgt := 32) hx hb d_Outline_listMembers_115 (by decide) ?_
      exact hk32 _ _ _ _ _ h _ _ hP hD hS ls (lv_sub hl [2, 3, 4, 5, 6, 0] rfl)
    · replace h := itf c_79 h
      refine lv_aload_n hx hb d_Outline_listMembers_82 rfl (lv_at hl 1 rfl) ?_
      refine lv_iload_n hx hb d_Outline_listMembers_83 rfl (lv_at hl 2 rfl) ?_
      refine lv_aload_n hx hb d_Outline_listMembers_84 rfl (lv_at hl 1 rfl) ?_
      refine gf_Outline_35 hx hb hg hown hK hP d_Outline_listMembers_85 ?_
      refine gf_Outline_60 hx hb hg hown hK hP d_Outline_listMembers_88 ?_
      refine lv_iload hx hb d_Outline_listMembers_91 (lv_at hl 6 rfl) ?_
      obtain ⟨i_93, h⟩ := itn h
      refine ra_7 hx hb hK hP i_93 d_Outline_listMembers_93 ?_
      obtain ⟨v_94, e_94, h⟩ := bd1_some h
      refine R_calli (va_runV (As := [.int x1, .long (σ.2.2 x5.toNatClampNeg)]) (rest := []) ⟨hx, hb, hml, hown, hts⟩ (c_Outline_findMember l K A e_94) (cwV 2 hts (gd_V wd_841 wd_529 wd_530 wd_5 wd_531) rfl rfl rfl dv_Outline_findMember ⟨Nat.le_of_ble_eq_true rfl, Nat.le_of_ble_eq_true rfl⟩) (R_pv_8 hK hP hD) rfl rfl hl.1 rfl (lv_room (Nat.le_of_ble_eq_true rfl)) d_Outline_listMembers_94 ⟨Nat.le_of_ble_eq_true rfl, Nat.le_of_ble_eq_true rfl⟩) hS (fun H locs hP hD hS => ?_)
      refine lv_iload hx hb d_Outline_listMembers_97 (lv_at hl 6 rfl) ?_
      refine lv_icmp_ne (tgt := 112) hx hb d_Outline_listMembers_99 (by decide) (fun c_99 => ?_) (fun c_99 => ?_)
      · replace h := itf c_99 h
        refine lv_iinc (v := x5 + 1) (lv' := [(5, .int (x5 + 1)), (6, .int s0), (0, .ref (A 8)), (1, .int x1), (2, .int x2), (3, .int x3), (4, .int x4)]) hx hb d_Outline_listMembers_112 hl (k := 6) rfl (by first | rfl | decide) (by decide) rfl (fun ls hl => ?_)
        refine lv_goto (tgt := 32) hx hb d_Outline_listMembers_115 (by decide) ?_
        exact hk32 _ _ _ _ _ h _ _ hP hD hS ls (lv_sub hl [2, 3, 4, 5, 6, 0] rfl)
      · replace h := itp c_99 h
        refine lv_aload_n hx hb d_Outline_listMembers_102 rfl (lv_at hl 1 rfl) ?_
        refine lv_iload hx hb d_Outline_listMembers_103 (lv_at hl 6 rfl) ?_
        refine lv_iload_n hx hb d_Outline_listMembers_105 rfl (lv_at hl 3 rfl) ?_
        obtain ⟨σ_106, e_106, h⟩ := bd1_some h
        refine R_callv (va_runV (As := [.int x5, .int x2]) (rest := []) ⟨hx, hb, hml, hown, hts⟩ (c_Outline_list l K A e_106) (cwV 2 hts (gd_V wd_842 wd_844 wp_42 wd_5 wd_845) rfl rfl rfl dv_Outline_list ⟨Nat.le_of_ble_eq_true rfl, Nat.le_of_ble_eq_true rfl⟩) (R_pv_8 hK hP hD) rfl rfl hl.1 rfl (lv_room (Nat.le_of_ble_eq_true rfl)) d_Outline_listMembers_106 ⟨Nat.le_of_ble_eq_true rfl, Nat.le_of_ble_eq_true rfl⟩) hS (fun H locs hP hD hS => ?_)
        refine lv_iinc (v := x2 + 1) (lv' := [(2, .int (x2 + 1)), (6, .int s0), (0, .ref (A 8)), (1, .int x1), (3, .int x3), (4, .int x4), (5, .int x5)]) hx hb d_Outline_listMembers_109 hl (k := 3) rfl (by first | rfl | decide) (by decide) rfl (fun ls hl => ?_)
        refine lv_iinc (v := x5 + 1) (lv' := [(5, .int (x5 + 1)), (2, .int (x2 + 1)), (6, .int s0), (0, .ref (A 8)), (1, .int x1), (3, .int x3), (4, .int x4)]) hx hb d_Outline_listMembers_112 hl (k := 6) rfl (by first | rfl | decide) (by decide) rfl (fun ls hl => ?_)
        refine lv_goto (tgt := 32) hx hb d_Outline_listMembers_115 (by decide) ?_
        exact hk32 _ _ _ _ _ h _ _ hP hD hS ls (lv_sub hl [3, 4, 1, 5, 6, 0] rfl)
  have L_32 : ∀ (k7 : Sto → Int32 → Int32 → Int32 → Option (Int32 × Sto)) (hk7 : ∀ (σ : Sto) (x2 : Int32) (x3 : Int32) (x4 : Int32), k7 σ x2 x3 x4 = some (rr, ss) → ∀ (H : Heap) (locs : List Loc), va_P K.1 vwCl (wR K A σ) H → va_D (RF A) (wR K A σ) → va_S (RF A) s.heap H locs → ∀ ls : Array Slot, lv_has ls 7 [(0, .ref (A 8)), (1, .int x1), (2, .int x2), (3, .int x3), (4, .int x4)] → W p l e (headSpec w_Outline_listMembers r_Outline_listMembers).room s m args below meth c H locs 0 0 Q (F0 m 7 ls [])) (n : Nat) (σ : Sto) (x2 : Int32) (x3 : Int32) (x4 : Int32) (x5 : Int32), p_Outline_listMembers_L32 x1 k7 n σ x2 x3 x4 x5 = some (rr, ss) → ∀ (H : Heap) (locs : List Loc), va_P K.1 vwCl (wR K A σ) H → va_D (RF A) (wR K A σ) → va_S (RF A) s.heap H locs → ∀ ls : Array Slot, lv_has ls 7 [(0, .ref (A 8)), (1, .int x1), (2, .int x2), (3, .int x3), (4, .int x4), (5, .int x5)] → W p l e (headSpec w_Outline_listMembers r_Outline_listMembers).room s m args below meth c H locs 0 0 Q (F0 m 32 ls []) := by
    intro k7 hk7
    intro n
    induction n with
    | zero => intro _ _ _ _ _ h; cases h
    | succ n ih =>
      intro σ x2 x3 x4 x5 h H locs hP hD hS ls hl
      rw [p_Outline_listMembers_L32] at h
      refine lv_iload hx hb d_Outline_listMembers_32 (lv_at hl 5 rfl) ?_
      refine lv_aload_n hx hb d_Outline_listMembers_34 rfl (lv_at hl 0 rfl) ?_
      refine gf_Outline_26 hx hb hg hown hK hP d_Outline_listMembers_35 ?_
      refine lv_iload_n hx hb d_Outline_listMembers_38 rfl (lv_at hl 3 rfl) ?_
      refine lv_iconst (v := 1) hx hb d_Outline_listMembers_39 (by decide) ?_
      refine lv_iadd hx hb d_Outline_listMembers_40 ?_
      obtain ⟨i_41, h⟩ := itn h
      refine ra_13 hx hb hK hP i_41 d_Outline_listMembers_41 ?_
      refine lv_icmp_ge (tgt := 118) hx hb d_Outline_listMembers_42 (by decide) (fun c_42 => ?_) (fun c_42 => ?_)
      · replace h := itp c_42 h
        refine lv_aload_n hx hb d_Outline_listMembers_118 rfl (lv_at hl 0 rfl) ?_
        refine gf_Outline_29 hx hb hg hown hK hP d_Outline_listMembers_119 ?_
        refine lv_iload_n hx hb d_Outline_listMembers_122 rfl (lv_at hl 3 rfl) ?_
        obtain ⟨i_123, h⟩ := itn h
        refine ra_14 hx hb hK hP i_123 d_Outline_listMembers_123 ?_
        refine lv_istore_n (lv' := [(3, .int (σ.2.1 14 x3.toNatClampNeg)), (0, .ref (A 8)), (1, .int x1), (2, .int x2), (4, .int x4), (5, .int x5)]) hx hb d_Outline_listMembers_124 rfl hl (by decide) rfl (fun ls hl => ?_)
        refine lv_iinc (v := x4 + 1) (lv' := [(4, .int (x4 + 1)), (3, .int (σ.2.1 14 x3.toNatClampNeg)), (0, .ref (A 8)), (1, .int x1), (2, .int x2), (5, .int x5)]) hx hb d_Outline_listMembers_125 hl (k := 4) rfl (by first | rfl | decide) (by decide) rfl (fun ls hl => ?_)
        refine lv_goto (tgt := 7) hx hb d_Outline_listMembers_128 (by decide) ?_
        exact hk7 _ _ _ _ h _ _ hP hD hS ls (lv_sub hl [2, 3, 4, 1, 0] rfl)
      · replace h := itf c_42 h
        refine lv_iload hx hb d_Outline_listMembers_45 (lv_at hl 5 rfl) ?_
        refine lv_aload_n hx hb d_Outline_listMembers_47 rfl (lv_at hl 0 rfl) ?_
        refine gf_Outline_47 hx hb hg hown hK hP d_Outline_listMembers_48 ?_
        refine lv_icmp_ge (tgt := 118) hx hb d_Outline_listMembers_51 (by decide) (fun c_51 => ?_) (fun c_51 => ?_)
        · replace h := itp c_51 h
          refine lv_aload_n hx hb d_Outline_listMembers_118 rfl (lv_at hl 0 rfl) ?_
          refine gf_Outline_29 hx hb hg hown hK hP d_Outline_listMembers_119 ?_
          refine lv_iload_n hx hb d_Outline_listMembers_122 rfl (lv_at hl 3 rfl) ?_
          obtain ⟨i_123, h⟩ := itn h
          refine ra_14 hx hb hK hP i_123 d_Outline_listMembers_123 ?_
          refine lv_istore_n (lv' := [(3, .int (σ.2.1 14 x3.toNatClampNeg)), (0, .ref (A 8)), (1, .int x1), (2, .int x2), (4, .int x4), (5, .int x5)]) hx hb d_Outline_listMembers_124 rfl hl (by decide) rfl (fun ls hl => ?_)
          refine lv_iinc (v := x4 + 1) (lv' := [(4, .int (x4 + 1)), (3, .int (σ.2.1 14 x3.toNatClampNeg)), (0, .ref (A 8)), (1, .int x1), (2, .int x2), (5, .int x5)]) hx hb d_Outline_listMembers_125 hl (k := 4) rfl (by first | rfl | decide) (by decide) rfl (fun ls hl => ?_)
          refine lv_goto (tgt := 7) hx hb d_Outline_listMembers_128 (by decide) ?_
          exact hk7 _ _ _ _ h _ _ hP hD hS ls (lv_sub hl [2, 3, 4, 1, 0] rfl)
        · replace h := itf c_51 h
          refine lv_bipush (v := 12) hx hb d_Outline_listMembers_54 (by decide) ?_
          refine lv_aload_n hx hb d_Outline_listMembers_56 rfl (lv_at hl 0 rfl) ?_
          refine gf_Outline_11 hx hb hg hown hK hP d_Outline_listMembers_57 ?_
          refine lv_iload hx hb d_Outline_listMembers_60 (lv_at hl 5 rfl) ?_
          obtain ⟨i_62, h⟩ := itn h
          refine ra_9 hx hb hK hP i_62 d_Outline_listMembers_62 ?_
          refine lv_ishr hx hb d_Outline_listMembers_63 ?_
          refine lv_iconst (v := 1) hx hb d_Outline_listMembers_64 (by decide) ?_
          refine lv_iand hx hb d_Outline_listMembers_65 ?_
          refine lv_iconst (v := 1) hx hb d_Outline_listMembers_66 (by decide) ?_
          refine lv_icmp_ne (tgt := 74) hx hb d_Outline_listMembers_67 (by decide) (fun c_67 => ?_) (fun c_67 => ?_)
          · replace h := itf c_67 h
            refine lv_iconst (v := 0) hx hb d_Outline_listMembers_74 (by decide) ?_
            exact J_75 _ hk7 _ ih _ _ _ _ _ _ h _ _ hP hD hS ls (lv_sub hl [0, 1, 2, 3, 4, 5] rfl)
          · replace h := itp c_67 h
            refine lv_iconst (v := 1) hx hb d_Outline_listMembers_70 (by decide) ?_
            refine lv_goto (tgt := 75) hx hb d_Outline_listMembers_71 (by decide) ?_
            exact J_75 _ hk7 _ ih _ _ _ _ _ _ h _ _ hP hD hS ls (lv_sub hl [0, 1, 2, 3, 4, 5] rfl)
  have L_7 : ∀ (n : Nat) (σ : Sto) (x2 : Int32) (x3 : Int32) (x4 : Int32), p_Outline_listMembers_L7 x1 n σ x2 x3 x4 = some (rr, ss) → ∀ (H : Heap) (locs : List Loc), va_P K.1 vwCl (wR K A σ) H → va_D (RF A) (wR K A σ) → va_S (RF A) s.heap H locs → ∀ ls : Array Slot, lv_has ls 7 [(0, .ref (A 8)), (1, .int x1), (2, .int x2), (3, .int x3), (4, .int x4)] → W p l e (headSpec w_Outline_listMembers r_Outline_listMembers).room s m args below meth c H locs 0 0 Q (F0 m 7 ls []) := by
    intro n
    induction n with
    | zero => intro _ _ _ _ h; cases h
    | succ n ih =>
      intro σ x2 x3 x4 h H locs hP hD hS ls hl
      rw [p_Outline_listMembers_L7] at h
      refine lv_iload hx hb d_Outline_listMembers_7 (lv_at hl 4 rfl) ?_
      refine lv_aload_n hx hb d_Outline_listMembers_9 rfl (lv_at hl 0 rfl) ?_
      refine gf_Outline_51 hx hb hg hown hK hP d_Outline_listMembers_10 ?_
      refine lv_icmp_ge (tgt := 131) hx hb d_Outline_listMembers_13 (by decide) (fun c_13 => ?_) (fun c_13 => ?_)
      · replace h := itp c_13 h
        refine lv_iload_n hx hb d_Outline_listMembers_131 rfl (lv_at hl 2 rfl) ?_
        exact hRet _ _ h _ _ hP hD hS _ _ d_Outline_listMembers_132
      · replace h := itf c_13 h
        refine lv_aload_n hx hb d_Outline_listMembers_16 rfl (lv_at hl 0 rfl) ?_
        refine lv_iload_n hx hb d_Outline_listMembers_17 rfl (lv_at hl 3 rfl) ?_
        obtain ⟨v_18, e_18, h⟩ := bd1_some h
        refine R_calli (va_runV (As := [.int x3]) (rest := []) ⟨hx, hb, hml, hown, hts⟩ (c_Outline_isClass l K A e_18) (cwV 1 hts (gd_V wd_532 wd_503 wd_504 wd_5 wd_505) rfl rfl rfl dv_Outline_isClass ⟨Nat.le_of_ble_eq_true rfl, Nat.le_of_ble_eq_true rfl⟩) (R_pv_8 hK hP hD) rfl rfl hl.1 rfl (lv_room (Nat.le_of_ble_eq_true rfl)) d_Outline_listMembers_18 ⟨Nat.le_of_ble_eq_true rfl, Nat.le_of_ble_eq_true rfl⟩) hS (fun H locs hP hD hS => ?_)
        refine lv_if_eq (tgt := 131) hx hb d_Outline_listMembers_21 (by decide) (fun c_21 => ?_) (fun c_21 => ?_)
        · replace h := itp c_21 h
          refine lv_iload_n hx hb d_Outline_listMembers_131 rfl (lv_at hl 2 rfl) ?_
          exact hRet _ _ h _ _ hP hD hS _ _ d_Outline_listMembers_132
        · replace h := itf c_21 h
          refine lv_aload_n hx hb d_Outline_listMembers_24 rfl (lv_at hl 0 rfl) ?_
          refine gf_Outline_26 hx hb hg hown hK hP d_Outline_listMembers_25 ?_
          refine lv_iload_n hx hb d_Outline_listMembers_28 rfl (lv_at hl 3 rfl) ?_
          obtain ⟨i_29, h⟩ := itn h
          refine ra_13 hx hb hK hP i_29 d_Outline_listMembers_29 ?_
          refine lv_istore (lv' := [(5, .int (σ.2.1 13 x3.toNatClampNeg)), (0, .ref (A 8)), (1, .int x1), (2, .int x2), (3, .int x3), (4, .int x4)]) hx hb d_Outline_listMembers_30 hl (by decide) rfl (fun ls hl => ?_)
          exact L_32 _ ih FU _ _ _ _ _ h _ _ hP hD hS ls (lv_sub hl [1, 2, 3, 4, 5, 0] rfl)
  refine lv_iconst (v := 0) hx hb d_Outline_listMembers_0 (by decide) ?_
  refine lv_istore_n (lv' := [(2, .int 0), (0, .ref (A 8)), (1, .int x1)]) hx hb d_Outline_listMembers_1 rfl hl (by decide) rfl (fun ls hl => ?_)
  refine lv_iload_n hx hb d_Outline_listMembers_2 rfl (lv_at hl 2 rfl) ?_
  refine lv_istore_n (lv' := [(3, .int x1), (2, .int 0), (0, .ref (A 8)), (1, .int x1)]) hx hb d_Outline_listMembers_3 rfl hl (by decide) rfl (fun ls hl => ?_)
  refine lv_iconst (v := 0) hx hb d_Outline_listMembers_4 (by decide) ?_
  refine lv_istore (lv' := [(4, .int 0), (3, .int x1), (2, .int 0), (0, .ref (A 8)), (1, .int x1)]) hx hb d_Outline_listMembers_5 hl (by decide) rfl (fun ls hl => ?_)
  exact L_7  FU _ _ _ _ h _ _ hP hD hS ls (lv_sub hl [3, 4, 2, 1, 0] rfl)
def p_Outline_typeNamed (σ : Sto) (x1 : Int32) : Option Int32 :=
  if inR x1 121 then (if (σ.2.1 11 x1.toNatClampNeg) = (-1) then
      some (-2)
    else
      if inR x1 121 then if inR (σ.2.1 11 x1.toNatClampNeg) 121 then some (σ.2.1 12 ((σ.2.1 11 x1.toNatClampNeg).toNatClampNeg)) else none else none) else none
abbrev w_Outline_typeNamed : List Cond := Cond.code y_Outline_typeNamed b_Outline_typeNamed 2 (some .int) :: Tg
abbrev r_Outline_typeNamed : Room := { frames := 0, cells := 0, slots := 0, locals := 0 }
theorem dv_Outline_typeNamed : y_Outline_typeNamed.cls = "LanguageServer$Outline" ∧ y_Outline_typeNamed.cls ≠ "java/lang/invoke/MethodHandle" ∧ y_Outline_typeNamed.cls ≠ "java/lang/invoke/VarHandle" ∧ (parseMethodDescriptor y_Outline_typeNamed.desc).map (fun d => d.parameters.length) = some 1 := by decide +kernel
set_option maxHeartbeats 4000000 in
set_option maxRecDepth 100000 in
theorem c_Outline_typeNamed (l : Launch) (K : Kst) (A : Nat → Nat) {σ : Sto} {x1 : Int32} {rr : Int32} (h : p_Outline_typeNamed σ x1 = some rr) : Met l y_Outline_typeNamed w_Outline_typeNamed r_Outline_typeNamed (va_Pc [.ref (A 8), .int x1] (RB K A σ)) (RQi K A rr σ) 0 0 (RF A) := by
  refine Met.ofW (cc := b_Outline_typeNamed) (maxL := 2) (ret := (some .int)) (by decide) rfl ?_
  intro p e s m args below meth c s₁ B hml hv
  obtain ⟨rfl, hP, hK, hD⟩ := hv
  have hx := B.exec
  have hb := B.bytes
  have hr := B.returns
  have hts := atoms_spec (ws := w_Outline_typeNamed) B.pre
  have hg : ∀ w ∈ Tg, w.before _ s = true := fun w q => hts w (List.mem_cons_of_mem _ q)
  have hown : s.vm.findClass "LanguageServer$Outline" = some m.cls := findClass_of_methodNamed B.named
  have hlocks := B.notSynchronized
  have hS : va_S (RF A) s.heap s.heap [] := va_S.rf
  have hl := lv_entry ([.ref (A 8), .int x1]) (n := 2) (Nat.le_of_ble_eq_true rfl)
  rw [lg_entry_eq]
  generalize (lg_sl ([.ref (A 8), .int x1]) ++ List.replicate (2 - (lg_sl ([.ref (A 8), .int x1])).length) Slot.unset).toArray = ls at hl ⊢
  have hl : lv_has ls 2 [(0, .ref (A 8)), (1, .int x1)] := hl
  generalize hargs : ([.ref (A 8), .int x1] : List Value).toArray = args at hg hts ⊢
  obtain ⟨Q, hQ⟩ : ∃ Q, Q = MQ below (RQi K A rr σ) args s 0 0 (RF A) := ⟨_, rfl⟩
  rw [← hQ]
  have hRet : ∀ (v : Int32), some v = some rr → ∀ (H : Heap) (locs : List Loc), va_P K.1 vwCl (wR K A σ) H → va_D (RF A) (wR K A σ) → va_S (RF A) s.heap H locs → ∀ (pc : Nat) (ls : Array Slot), decode b_Outline_typeNamed pc = .ok (.ireturn, 1) → W p l e (headSpec w_Outline_typeNamed r_Outline_typeNamed).room s m args below meth c H locs 0 0 Q (F0 m pc ls [.int v]) := by
    intro v h H locs hP hD hS pc ls hd
    cases h
    subst hQ
    exact W.iret hx hb hr (fun t ht hW => ⟨⟨_, (), rfl, rfl, by rw [ht]; exact hP, RK.warm hW hK, hD⟩, hS.F ht⟩) hS.2.2 hd
  clear hQ
  unfold p_Outline_typeNamed at h
  refine lv_aload_n hx hb d_Outline_typeNamed_0 rfl (lv_at hl 0 rfl) ?_
  refine gf_Outline_20 hx hb hg hown hK hP d_Outline_typeNamed_1 ?_
  refine lv_iload_n hx hb d_Outline_typeNamed_4 rfl (lv_at hl 1 rfl) ?_
  obtain ⟨i_5, h⟩ := itn h
  refine ra_11 hx hb hK hP i_5 d_Outline_typeNamed_5 ?_
  refine lv_iconst (v := (-1)) hx hb d_Outline_typeNamed_6 (by decide) ?_
  refine lv_icmp_ne (tgt := 15) hx hb d_Outline_typeNamed_7 (by decide) (fun c_7 => ?_) (fun c_7 => ?_)
  · replace h := itf c_7 h
    refine lv_aload_n hx hb d_Outline_typeNamed_15 rfl (lv_at hl 0 rfl) ?_
    refine gf_Outline_23 hx hb hg hown hK hP d_Outline_typeNamed_16 ?_
    refine lv_aload_n hx hb d_Outline_typeNamed_19 rfl (lv_at hl 0 rfl) ?_
    refine gf_Outline_20 hx hb hg hown hK hP d_Outline_typeNamed_20 ?_
    refine lv_iload_n hx hb d_Outline_typeNamed_23 rfl (lv_at hl 1 rfl) ?_
    obtain ⟨i_24, h⟩ := itn h
    refine ra_11 hx hb hK hP i_24 d_Outline_typeNamed_24 ?_
    obtain ⟨i_25, h⟩ := itn h
    refine ra_12 hx hb hK hP i_25 d_Outline_typeNamed_25 ?_
    exact hRet _ h _ _ hP hD hS _ _ d_Outline_typeNamed_26
  · replace h := itp c_7 h
    refine lv_bipush (v := (-2)) hx hb d_Outline_typeNamed_10 (by decide) ?_
    refine lv_goto (tgt := 26) hx hb d_Outline_typeNamed_12 (by decide) ?_
    exact hRet _ h _ _ hP hD hS _ _ d_Outline_typeNamed_26
def p_Outline_parameterType (σ : Sto) (x1 : Int32) (x2 : Int32) : Option Int32 :=
  (if ((x1 + 3) + ((3 : Int32) * x2)) < 0 then
      some (-2)
    else
      (if (σ.1 3) ≤ ((x1 + 3) + ((3 : Int32) * x2)) then
        some (-2)
      else
        if inR ((x1 + 3) + ((3 : Int32) * x2)) 121 then some (σ.2.1 12 (((x1 + 3) + ((3 : Int32) * x2)).toNatClampNeg)) else none))
abbrev w_Outline_parameterType : List Cond := Cond.code y_Outline_parameterType b_Outline_parameterType 4 (some .int) :: Tg
abbrev r_Outline_parameterType : Room := { frames := 0, cells := 0, slots := 0, locals := 0 }
theorem dv_Outline_parameterType : y_Outline_parameterType.cls = "LanguageServer$Outline" ∧ y_Outline_parameterType.cls ≠ "java/lang/invoke/MethodHandle" ∧ y_Outline_parameterType.cls ≠ "java/lang/invoke/VarHandle" ∧ (parseMethodDescriptor y_Outline_parameterType.desc).map (fun d => d.parameters.length) = some 2 := by decide +kernel
set_option maxHeartbeats 4000000 in
set_option maxRecDepth 100000 in
theorem c_Outline_parameterType (l : Launch) (K : Kst) (A : Nat → Nat) {σ : Sto} {x1 : Int32} {x2 : Int32} {rr : Int32} (h : p_Outline_parameterType σ x1 x2 = some rr) : Met l y_Outline_parameterType w_Outline_parameterType r_Outline_parameterType (va_Pc [.ref (A 8), .int x1, .int x2] (RB K A σ)) (RQi K A rr σ) 0 0 (RF A) := by
  refine Met.ofW (cc := b_Outline_parameterType) (maxL := 4) (ret := (some .int)) (by decide) rfl ?_
  intro p e s m args below meth c s₁ B hml hv
  obtain ⟨rfl, hP, hK, hD⟩ := hv
  have hx := B.exec
  have hb := B.bytes
  have hr := B.returns
  have hts := atoms_spec (ws := w_Outline_parameterType) B.pre
  have hg : ∀ w ∈ Tg, w.before _ s = true := fun w q => hts w (List.mem_cons_of_mem _ q)
  have hown : s.vm.findClass "LanguageServer$Outline" = some m.cls := findClass_of_methodNamed B.named
  have hlocks := B.notSynchronized
  have hS : va_S (RF A) s.heap s.heap [] := va_S.rf
  have hl := lv_entry ([.ref (A 8), .int x1, .int x2]) (n := 4) (Nat.le_of_ble_eq_true rfl)
  rw [lg_entry_eq]
  generalize (lg_sl ([.ref (A 8), .int x1, .int x2]) ++ List.replicate (4 - (lg_sl ([.ref (A 8), .int x1, .int x2])).length) Slot.unset).toArray = ls at hl ⊢
  have hl : lv_has ls 4 [(0, .ref (A 8)), (1, .int x1), (2, .int x2)] := hl
  generalize hargs : ([.ref (A 8), .int x1, .int x2] : List Value).toArray = args at hg hts ⊢
  obtain ⟨Q, hQ⟩ : ∃ Q, Q = MQ below (RQi K A rr σ) args s 0 0 (RF A) := ⟨_, rfl⟩
  rw [← hQ]
  have hRet : ∀ (v : Int32), some v = some rr → ∀ (H : Heap) (locs : List Loc), va_P K.1 vwCl (wR K A σ) H → va_D (RF A) (wR K A σ) → va_S (RF A) s.heap H locs → ∀ (pc : Nat) (ls : Array Slot), decode b_Outline_parameterType pc = .ok (.ireturn, 1) → W p l e (headSpec w_Outline_parameterType r_Outline_parameterType).room s m args below meth c H locs 0 0 Q (F0 m pc ls [.int v]) := by
    intro v h H locs hP hD hS pc ls hd
    cases h
    subst hQ
    exact W.iret hx hb hr (fun t ht hW => ⟨⟨_, (), rfl, rfl, by rw [ht]; exact hP, RK.warm hW hK, hD⟩, hS.F ht⟩) hS.2.2 hd
  clear hQ
  unfold p_Outline_parameterType at h
  refine lv_iload_n hx hb d_Outline_parameterType_0 rfl (lv_at hl 1 rfl) ?_
  refine lv_iconst (v := 3) hx hb d_Outline_parameterType_1 (by decide) ?_
  refine lv_iadd hx hb d_Outline_parameterType_2 ?_
  refine lv_iconst (v := 3) hx hb d_Outline_parameterType_3 (by decide) ?_
  refine lv_iload_n hx hb d_Outline_parameterType_4 rfl (lv_at hl 2 rfl) ?_
  refine lv_imul hx hb d_Outline_parameterType_5 ?_
  refine lv_iadd hx hb d_Outline_parameterType_6 ?_
  refine lv_istore_n (lv' := [(3, .int ((x1 + 3) + ((3 : Int32) * x2))), (0, .ref (A 8)), (1, .int x1), (2, .int x2)]) hx hb d_Outline_parameterType_7 rfl hl (by decide) rfl (fun ls hl => ?_)
  refine lv_iload_n hx hb d_Outline_parameterType_8 rfl (lv_at hl 0 rfl) ?_
  refine lv_if_lt (tgt := 29) hx hb d_Outline_parameterType_9 (by decide) (fun c_9 => ?_) (fun c_9 => ?_)
  · replace h := itp c_9 h
    refine lv_bipush (v := (-2)) hx hb d_Outline_parameterType_29 (by decide) ?_
    exact hRet _ h _ _ hP hD hS _ _ d_Outline_parameterType_31
  · replace h := itf c_9 h
    refine lv_iload_n hx hb d_Outline_parameterType_12 rfl (lv_at hl 0 rfl) ?_
    refine lv_aload_n hx hb d_Outline_parameterType_13 rfl (lv_at hl 1 rfl) ?_
    refine gf_Outline_47 hx hb hg hown hK hP d_Outline_parameterType_14 ?_
    refine lv_icmp_ge (tgt := 29) hx hb d_Outline_parameterType_17 (by decide) (fun c_17 => ?_) (fun c_17 => ?_)
    · replace h := itp c_17 h
      refine lv_bipush (v := (-2)) hx hb d_Outline_parameterType_29 (by decide) ?_
      exact hRet _ h _ _ hP hD hS _ _ d_Outline_parameterType_31
    · replace h := itf c_17 h
      refine lv_aload_n hx hb d_Outline_parameterType_20 rfl (lv_at hl 1 rfl) ?_
      refine gf_Outline_23 hx hb hg hown hK hP d_Outline_parameterType_21 ?_
      refine lv_iload_n hx hb d_Outline_parameterType_24 rfl (lv_at hl 0 rfl) ?_
      obtain ⟨i_25, h⟩ := itn h
      refine ra_12 hx hb hK hP i_25 d_Outline_parameterType_25 ?_
      refine lv_goto (tgt := 31) hx hb d_Outline_parameterType_26 (by decide) ?_
      exact hRet _ h _ _ hP hD hS _ _ d_Outline_parameterType_31
def p_Outline_isRight_L24 (σ : Sto) (x1 : Int32) (x2 : Int32) : Nat → Int32 → Int32 → Option Int32
  | 0, _, _ => none
  | n + 1, x3, x4 =>
    (if (σ.1 4) ≤ x4 then
        some 0
      else
        (if x3 < 0 then
          some 0
        else
          (if (σ.1 4) ≤ x3 then
            some 0
          else
            (if x3 = x2 then
              some 1
            else
              if inR x3 30 then p_Outline_isRight_L24 σ x1 x2 n (σ.2.1 14 x3.toNatClampNeg) (x4 + 1) else none))))
def p_Outline_isRight (σ : Sto) (x1 : Int32) (x2 : Int32) : Option Int32 :=
  (if x1 = (-2) then
      some 1
    else
      (if x2 = (-2) then
        some 1
      else
        (if x1 = x2 then
          some 1
        else
          p_Outline_isRight_L24 σ x1 x2 FU x1 0)))
abbrev w_Outline_isRight : List Cond := Cond.code y_Outline_isRight b_Outline_isRight 5 (some .boolean) :: Tg
abbrev r_Outline_isRight : Room := { frames := 0, cells := 0, slots := 0, locals := 0 }
theorem dv_Outline_isRight : y_Outline_isRight.cls = "LanguageServer$Outline" ∧ y_Outline_isRight.cls ≠ "java/lang/invoke/MethodHandle" ∧ y_Outline_isRight.cls ≠ "java/lang/invoke/VarHandle" ∧ (parseMethodDescriptor y_Outline_isRight.desc).map (fun d => d.parameters.length) = some 2 := by decide +kernel
set_option maxHeartbeats 4000000 in
set_option maxRecDepth 100000 in
theorem c_Outline_isRight (l : Launch) (K : Kst) (A : Nat → Nat) {σ : Sto} {x1 : Int32} {x2 : Int32} {rr : Int32} (h : p_Outline_isRight σ x1 x2 = some rr) : Met l y_Outline_isRight w_Outline_isRight r_Outline_isRight (va_Pc [.ref (A 8), .int x1, .int x2] (RB K A σ)) (RQi K A rr σ) 0 0 (RF A) := by
  refine Met.ofW (cc := b_Outline_isRight) (maxL := 5) (ret := (some .boolean)) (by decide) rfl ?_
  intro p e s m args below meth c s₁ B hml hv
  obtain ⟨rfl, hP, hK, hD⟩ := hv
  have hx := B.exec
  have hb := B.bytes
  have hr := B.returns
  have hts := atoms_spec (ws := w_Outline_isRight) B.pre
  have hg : ∀ w ∈ Tg, w.before _ s = true := fun w q => hts w (List.mem_cons_of_mem _ q)
  have hown : s.vm.findClass "LanguageServer$Outline" = some m.cls := findClass_of_methodNamed B.named
  have hlocks := B.notSynchronized
  have hS : va_S (RF A) s.heap s.heap [] := va_S.rf
  have hl := lv_entry ([.ref (A 8), .int x1, .int x2]) (n := 5) (Nat.le_of_ble_eq_true rfl)
  rw [lg_entry_eq]
  generalize (lg_sl ([.ref (A 8), .int x1, .int x2]) ++ List.replicate (5 - (lg_sl ([.ref (A 8), .int x1, .int x2])).length) Slot.unset).toArray = ls at hl ⊢
  have hl : lv_has ls 5 [(0, .ref (A 8)), (1, .int x1), (2, .int x2)] := hl
  generalize hargs : ([.ref (A 8), .int x1, .int x2] : List Value).toArray = args at hg hts ⊢
  obtain ⟨Q, hQ⟩ : ∃ Q, Q = MQ below (RQi K A rr σ) args s 0 0 (RF A) := ⟨_, rfl⟩
  rw [← hQ]
  have hRet : ∀ (v : Int32), (narrow .boolean (.int v) = .int v) → some v = some rr → ∀ (H : Heap) (locs : List Loc), va_P K.1 vwCl (wR K A σ) H → va_D (RF A) (wR K A σ) → va_S (RF A) s.heap H locs → ∀ (pc : Nat) (ls : Array Slot), decode b_Outline_isRight pc = .ok (.ireturn, 1) → W p l e (headSpec w_Outline_isRight r_Outline_isRight).room s m args below meth c H locs 0 0 Q (F0 m pc ls [.int v]) := by
    intro v hn h H locs hP hD hS pc ls hd
    cases h
    subst hQ
    exact W.zret hx hb hr hn (fun t ht hW => ⟨⟨_, (), rfl, rfl, by rw [ht]; exact hP, RK.warm hW hK, hD⟩, hS.F ht⟩) hS.2.2 hd
  clear hQ
  unfold p_Outline_isRight at h
  have L_24 : ∀ (n : Nat) (x3 : Int32) (x4 : Int32), p_Outline_isRight_L24 σ x1 x2 n x3 x4 = some rr → ∀ (H : Heap) (locs : List Loc), va_P K.1 vwCl (wR K A σ) H → va_D (RF A) (wR K A σ) → va_S (RF A) s.heap H locs → ∀ ls : Array Slot, lv_has ls 5 [(0, .ref (A 8)), (2, .int x2), (3, .int x3), (4, .int x4)] → W p l e (headSpec w_Outline_isRight r_Outline_isRight).room s m args below meth c H locs 0 0 Q (F0 m 24 ls []) := by
    intro n
    induction n with
    | zero => intro _ _ h; cases h
    | succ n ih =>
      intro x3 x4 h H locs hP hD hS ls hl
      rw [p_Outline_isRight_L24] at h
      refine lv_iload hx hb d_Outline_isRight_24 (lv_at hl 3 rfl) ?_
      refine lv_aload_n hx hb d_Outline_isRight_26 rfl (lv_at hl 0 rfl) ?_
      refine gf_Outline_51 hx hb hg hown hK hP d_Outline_isRight_27 ?_
      refine lv_icmp_ge (tgt := 65) hx hb d_Outline_isRight_30 (by decide) (fun c_30 => ?_) (fun c_30 => ?_)
      · replace h := itp c_30 h
        refine lv_iconst (v := 0) hx hb d_Outline_isRight_65 (by decide) ?_
        exact hRet _ rfl h _ _ hP hD hS _ _ d_Outline_isRight_66
      · replace h := itf c_30 h
        refine lv_iload_n hx hb d_Outline_isRight_33 rfl (lv_at hl 2 rfl) ?_
        refine lv_if_lt (tgt := 65) hx hb d_Outline_isRight_34 (by decide) (fun c_34 => ?_) (fun c_34 => ?_)
        · replace h := itp c_34 h
          refine lv_iconst (v := 0) hx hb d_Outline_isRight_65 (by decide) ?_
          exact hRet _ rfl h _ _ hP hD hS _ _ d_Outline_isRight_66
        · replace h := itf c_34 h
          refine lv_iload_n hx hb d_Outline_isRight_37 rfl (lv_at hl 2 rfl) ?_
          refine lv_aload_n hx hb d_Outline_isRight_38 rfl (lv_at hl 0 rfl) ?_
          refine gf_Outline_51 hx hb hg hown hK hP d_Outline_isRight_39 ?_
          refine lv_icmp_ge (tgt := 65) hx hb d_Outline_isRight_42 (by decide) (fun c_42 => ?_) (fun c_42 => ?_)
          · replace h := itp c_42 h
            refine lv_iconst (v := 0) hx hb d_Outline_isRight_65 (by decide) ?_
            exact hRet _ rfl h _ _ hP hD hS _ _ d_Outline_isRight_66
          · replace h := itf c_42 h
            refine lv_iload_n hx hb d_Outline_isRight_45 rfl (lv_at hl 2 rfl) ?_
            refine lv_iload_n hx hb d_Outline_isRight_46 rfl (lv_at hl 1 rfl) ?_
            refine lv_icmp_ne (tgt := 52) hx hb d_Outline_isRight_47 (by decide) (fun c_47 => ?_) (fun c_47 => ?_)
            · replace h := itf c_47 h
              refine lv_aload_n hx hb d_Outline_isRight_52 rfl (lv_at hl 0 rfl) ?_
              refine gf_Outline_29 hx hb hg hown hK hP d_Outline_isRight_53 ?_
              refine lv_iload_n hx hb d_Outline_isRight_56 rfl (lv_at hl 2 rfl) ?_
              obtain ⟨i_57, h⟩ := itn h
              refine ra_14 hx hb hK hP i_57 d_Outline_isRight_57 ?_
              refine lv_istore_n (lv' := [(3, .int (σ.2.1 14 x3.toNatClampNeg)), (0, .ref (A 8)), (2, .int x2), (4, .int x4)]) hx hb d_Outline_isRight_58 rfl hl (by decide) rfl (fun ls hl => ?_)
              refine lv_iinc (v := x4 + 1) (lv' := [(4, .int (x4 + 1)), (3, .int (σ.2.1 14 x3.toNatClampNeg)), (0, .ref (A 8)), (2, .int x2)]) hx hb d_Outline_isRight_59 hl (k := 3) rfl (by first | rfl | decide) (by decide) rfl (fun ls hl => ?_)
              refine lv_goto (tgt := 24) hx hb d_Outline_isRight_62 (by decide) ?_
              exact ih _ _ h _ _ hP hD hS ls (lv_sub hl [2, 3, 1, 0] rfl)
            · replace h := itp c_47 h
              refine lv_iconst (v := 1) hx hb d_Outline_isRight_50 (by decide) ?_
              exact hRet _ rfl h _ _ hP hD hS _ _ d_Outline_isRight_51
  refine lv_iload_n hx hb d_Outline_isRight_0 rfl (lv_at hl 1 rfl) ?_
  refine lv_bipush (v := (-2)) hx hb d_Outline_isRight_1 (by decide) ?_
  refine lv_icmp_eq (tgt := 17) hx hb d_Outline_isRight_3 (by decide) (fun c_3 => ?_) (fun c_3 => ?_)
  · replace h := itp c_3 h
    refine lv_iconst (v := 1) hx hb d_Outline_isRight_17 (by decide) ?_
    exact hRet _ rfl h _ _ hP hD hS _ _ d_Outline_isRight_18
  · replace h := itf c_3 h
    refine lv_iload_n hx hb d_Outline_isRight_6 rfl (lv_at hl 2 rfl) ?_
    refine lv_bipush (v := (-2)) hx hb d_Outline_isRight_7 (by decide) ?_
    refine lv_icmp_eq (tgt := 17) hx hb d_Outline_isRight_9 (by decide) (fun c_9 => ?_) (fun c_9 => ?_)
    · replace h := itp c_9 h
      refine lv_iconst (v := 1) hx hb d_Outline_isRight_17 (by decide) ?_
      exact hRet _ rfl h _ _ hP hD hS _ _ d_Outline_isRight_18
    · replace h := itf c_9 h
      refine lv_iload_n hx hb d_Outline_isRight_12 rfl (lv_at hl 1 rfl) ?_
      refine lv_iload_n hx hb d_Outline_isRight_13 rfl (lv_at hl 2 rfl) ?_
      refine lv_icmp_ne (tgt := 19) hx hb d_Outline_isRight_14 (by decide) (fun c_14 => ?_) (fun c_14 => ?_)
      · replace h := itf c_14 h
        refine lv_iload_n hx hb d_Outline_isRight_19 rfl (lv_at hl 1 rfl) ?_
        refine lv_istore_n (lv' := [(3, .int x1), (0, .ref (A 8)), (1, .int x1), (2, .int x2)]) hx hb d_Outline_isRight_20 rfl hl (by decide) rfl (fun ls hl => ?_)
        refine lv_iconst (v := 0) hx hb d_Outline_isRight_21 (by decide) ?_
        refine lv_istore (lv' := [(4, .int 0), (3, .int x1), (0, .ref (A 8)), (1, .int x1), (2, .int x2)]) hx hb d_Outline_isRight_22 hl (by decide) rfl (fun ls hl => ?_)
        exact L_24  FU _ _ h _ _ hP hD hS ls (lv_sub hl [2, 4, 1, 0] rfl)
      · replace h := itp c_14 h
        refine lv_iconst (v := 1) hx hb d_Outline_isRight_17 (by decide) ?_
        exact hRet _ rfl h _ _ hP hD hS _ _ d_Outline_isRight_18
