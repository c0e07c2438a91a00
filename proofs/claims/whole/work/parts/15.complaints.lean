def p_Complaints_clear (σ : Sto) : Option Sto :=
  some (sS (sF σ 17 0) 5 (-1))
abbrev w_Complaints_clear : List Cond := Cond.code y_Complaints_clear b_Complaints_clear 1 none :: Tg
abbrev r_Complaints_clear : Room := { frames := 1, cells := 0, slots := 0, locals := 23 }
theorem dv_Complaints_clear : y_Complaints_clear.cls = "LanguageServer$Complaints" ∧ y_Complaints_clear.cls ≠ "java/lang/invoke/MethodHandle" ∧ y_Complaints_clear.cls ≠ "java/lang/invoke/VarHandle" ∧ (parseMethodDescriptor y_Complaints_clear.desc).map (fun d => d.parameters.length) = some 0 := by decide +kernel
set_option maxHeartbeats 4000000 in
set_option maxRecDepth 100000 in
theorem c_Complaints_clear (l : Launch) (K : Kst) (A : Nat → Nat) {σ : Sto} {ss : Sto} (h : p_Complaints_clear σ = some ss) : Met l y_Complaints_clear w_Complaints_clear r_Complaints_clear (va_Pc [.ref (A 16)] (RB K A σ)) (RQv K A ss) 0 0 (RF A) := by
  refine Met.ofW (cc := b_Complaints_clear) (maxL := 1) (ret := none) (by decide) rfl ?_
  intro p e s m args below meth c s₁ B hml hv
  obtain ⟨rfl, hP, hK, hD⟩ := hv
  have hx := B.exec
  have hb := B.bytes
  have hr := B.returns
  have hts := atoms_spec (ws := w_Complaints_clear) B.pre
  have hg : ∀ w ∈ Tg, w.before _ s = true := fun w q => hts w (List.mem_cons_of_mem _ q)
  have hown : s.vm.findClass "LanguageServer$Complaints" = some m.cls := findClass_of_methodNamed B.named
  have hlocks := B.notSynchronized
  have hS : va_S (RF A) s.heap s.heap [] := va_S.rf
  have hl := lv_entry ([.ref (A 16)]) (n := 1) (Nat.le_of_ble_eq_true rfl)
  rw [lg_entry_eq]
  generalize (lg_sl ([.ref (A 16)]) ++ List.replicate (1 - (lg_sl ([.ref (A 16)])).length) Slot.unset).toArray = ls at hl ⊢
  have hl : lv_has ls 1 [(0, .ref (A 16))] := hl
  generalize hargs : ([.ref (A 16)] : List Value).toArray = args at hg hts ⊢
  obtain ⟨Q, hQ⟩ : ∃ Q, Q = MQ below (RQv K A ss) args s 0 0 (RF A) := ⟨_, rfl⟩
  rw [← hQ]
  have hRet : ∀ (σ : Sto), some σ = some ss → ∀ (H : Heap) (locs : List Loc), va_P K.1 vwCl (wR K A σ) H → va_D (RF A) (wR K A σ) → va_S (RF A) s.heap H locs → ∀ (pc : Nat) (ls : Array Slot), decode b_Complaints_clear pc = .ok (.return_, 1) → W p l e (headSpec w_Complaints_clear r_Complaints_clear).room s m args below meth c H locs 0 0 Q (F0 m pc ls []) := by
    intro σ h H locs hP hD hS pc ls hd
    cases h
    subst hQ
    exact W.vret hx hb hr (fun t ht hW => ⟨⟨(), rfl, trivial, by rw [ht]; exact hP, RK.warm hW hK, hD⟩, hS.F ht⟩) hS.2.2 hd
  clear hQ
  unfold p_Complaints_clear at h
  refine lv_aload_n hx hb d_Complaints_clear_0 rfl (lv_at hl 0 rfl) ?_
  refine gf_Complaints_11 hx hb hg hown hK hP d_Complaints_clear_1 ?_
  refine lv_iconst (v := 0) hx hb d_Complaints_clear_4 (by decide) ?_
  refine R_fill 17 (rest := []) rfl rfl (by decide) ⟨17, by decide, rfl⟩ (va_cwS 2 hts (gd_S wd_363 wd_357 wd_18 wd_358) rfl rfl rfl ds_Arrays_fill ⟨Nat.le_of_ble_eq_true rfl, Nat.le_of_ble_eq_true rfl⟩) ⟨hx, hb, hml, hown, hts⟩ hK hP hD hS hl.1 (lv_room (Nat.le_of_ble_eq_true rfl)) d_Complaints_clear_5 ⟨Nat.le_of_ble_eq_true rfl, Nat.le_of_ble_eq_true rfl⟩ (fun H locs hP hD hS => ?_)
  refine lv_aload_n hx hb d_Complaints_clear_8 rfl (lv_at hl 0 rfl) ?_
  refine lv_iconst (v := (-1)) hx hb d_Complaints_clear_9 (by decide) ?_
  refine pf_Complaints_17 hx hb hg hown hK hP hD hS d_Complaints_clear_10 (fun H locs hP hD hS => ?_)
  exact hRet _ h _ _ hP hD hS _ _ d_Complaints_clear_13
def p_Complaints_setFault (σ : Sto) (x1 : Int32) : Option Sto :=
  some (sS σ 5 x1)
abbrev w_Complaints_setFault : List Cond := Cond.code y_Complaints_setFault b_Complaints_setFault 2 none :: Tg
abbrev r_Complaints_setFault : Room := { frames := 0, cells := 0, slots := 0, locals := 0 }
theorem dv_Complaints_setFault : y_Complaints_setFault.cls = "LanguageServer$Complaints" ∧ y_Complaints_setFault.cls ≠ "java/lang/invoke/MethodHandle" ∧ y_Complaints_setFault.cls ≠ "java/lang/invoke/VarHandle" ∧ (parseMethodDescriptor y_Complaints_setFault.desc).map (fun d => d.parameters.length) = some 1 := by decide +kernel
set_option maxHeartbeats 4000000 in
set_option maxRecDepth 100000 in
theorem c_Complaints_setFault (l : Launch) (K : Kst) (A : Nat → Nat) {σ : Sto} {x1 : Int32} {ss : Sto} (h : p_Complaints_setFault σ x1 = some ss) : Met l y_Complaints_setFault w_Complaints_setFault r_Complaints_setFault (va_Pc [.ref (A 16), .int x1] (RB K A σ)) (RQv K A ss) 0 0 (RF A) := by
  refine Met.ofW (cc := b_Complaints_setFault) (maxL := 2) (ret := none) (by decide) rfl ?_
  intro p e s m args below meth c s₁ B hml hv
  obtain ⟨rfl, hP, hK, hD⟩ := hv
  have hx := B.exec
  have hb := B.bytes
  have hr := B.returns
  have hts := atoms_spec (ws := w_Complaints_setFault) B.pre
  have hg : ∀ w ∈ Tg, w.before _ s = true := fun w q => hts w (List.mem_cons_of_mem _ q)
  have hown : s.vm.findClass "LanguageServer$Complaints" = some m.cls := findClass_of_methodNamed B.named
  have hlocks := B.notSynchronized
  have hS : va_S (RF A) s.heap s.heap [] := va_S.rf
  have hl := lv_entry ([.ref (A 16), .int x1]) (n := 2) (Nat.le_of_ble_eq_true rfl)
  rw [lg_entry_eq]
  generalize (lg_sl ([.ref (A 16), .int x1]) ++ List.replicate (2 - (lg_sl ([.ref (A 16), .int x1])).length) Slot.unset).toArray = ls at hl ⊢
  have hl : lv_has ls 2 [(0, .ref (A 16)), (1, .int x1)] := hl
  generalize hargs : ([.ref (A 16), .int x1] : List Value).toArray = args at hg hts ⊢
  obtain ⟨Q, hQ⟩ : ∃ Q, Q = MQ below (RQv K A ss) args s 0 0 (RF A) := ⟨_, rfl⟩
  rw [← hQ]
  have hRet : ∀ (σ : Sto), some σ = some ss → ∀ (H : Heap) (locs : List Loc), va_P K.1 vwCl (wR K A σ) H → va_D (RF A) (wR K A σ) → va_S (RF A) s.heap H locs → ∀ (pc : Nat) (ls : Array Slot), decode b_Complaints_setFault pc = .ok (.return_, 1) → W p l e (headSpec w_Complaints_setFault r_Complaints_setFault).room s m args below meth c H locs 0 0 Q (F0 m pc ls []) := by
    intro σ h H locs hP hD hS pc ls hd
    cases h
    subst hQ
    exact W.vret hx hb hr (fun t ht hW => ⟨⟨(), rfl, trivial, by rw [ht]; exact hP, RK.warm hW hK, hD⟩, hS.F ht⟩) hS.2.2 hd
  clear hQ
  unfold p_Complaints_setFault at h
  refine lv_aload_n hx hb d_Complaints_setFault_0 rfl (lv_at hl 0 rfl) ?_
  refine lv_iload_n hx hb d_Complaints_setFault_1 rfl (lv_at hl 1 rfl) ?_
  refine pf_Complaints_17 hx hb hg hown hK hP hD hS d_Complaints_setFault_2 (fun H locs hP hD hS => ?_)
  exact hRet _ h _ _ hP hD hS _ _ d_Complaints_setFault_5
def p_Complaints_hasFault (σ : Sto) : Option Int32 :=
  (if (σ.1 5) = (-1) then
      some 0
    else
      some 1)
abbrev w_Complaints_hasFault : List Cond := Cond.code y_Complaints_hasFault b_Complaints_hasFault 1 (some .boolean) :: Tg
abbrev r_Complaints_hasFault : Room := { frames := 0, cells := 0, slots := 0, locals := 0 }
theorem dv_Complaints_hasFault : y_Complaints_hasFault.cls = "LanguageServer$Complaints" ∧ y_Complaints_hasFault.cls ≠ "java/lang/invoke/MethodHandle" ∧ y_Complaints_hasFault.cls ≠ "java/lang/invoke/VarHandle" ∧ (parseMethodDescriptor y_Complaints_hasFault.desc).map (fun d => d.parameters.length) = some 0 := by decide +kernel
set_option maxHeartbeats 4000000 in
set_option maxRecDepth 100000 in
theorem c_Complaints_hasFault (l : Launch) (K : Kst) (A : Nat → Nat) {σ : Sto} {rr : Int32} (h : p_Complaints_hasFault σ = some rr) : Met l y_Complaints_hasFault w_Complaints_hasFault r_Complaints_hasFault (va_Pc [.ref (A 16)] (RB K A σ)) (RQi K A rr σ) 0 0 (RF A) := by
  refine Met.ofW (cc := b_Complaints_hasFault) (maxL := 1) (ret := (some .boolean)) (by decide) rfl ?_
  intro p e s m args below meth c s₁ B hml hv
  obtain ⟨rfl, hP, hK, hD⟩ := hv
  have hx := B.exec
  have hb := B.bytes
  have hr := B.returns
  have hts := atoms_spec (ws := w_Complaints_hasFault) B.pre
  have hg : ∀ w ∈ Tg, w.before _ s = true := fun w q => hts w (List.mem_cons_of_mem _ q)
  have hown : s.vm.findClass "LanguageServer$Complaints" = some m.cls := findClass_of_methodNamed B.named
  have hlocks := B.notSynchronized
  have hS : va_S (RF A) s.heap s.heap [] := va_S.rf
  have hl := lv_entry ([.ref (A 16)]) (n := 1) (Nat.le_of_ble_eq_true rfl)
  rw [lg_entry_eq]
  generalize (lg_sl ([.ref (A 16)]) ++ List.replicate (1 - (lg_sl ([.ref (A 16)])).length) Slot.unset).toArray = ls at hl ⊢
  have hl : lv_has ls 1 [(0, .ref (A 16))] := hl
  generalize hargs : ([.ref (A 16)] : List Value).toArray = args at hg hts ⊢
  obtain ⟨Q, hQ⟩ : ∃ Q, Q = MQ below (RQi K A rr σ) args s 0 0 (RF A) := ⟨_, rfl⟩
  rw [← hQ]
  have hRet : ∀ (v : Int32), (narrow .boolean (.int v) = .int v) → some v = some rr → ∀ (H : Heap) (locs : List Loc), va_P K.1 vwCl (wR K A σ) H → va_D (RF A) (wR K A σ) → va_S (RF A) s.heap H locs → ∀ (pc : Nat) (ls : Array Slot), decode b_Complaints_hasFault pc = .ok (.ireturn, 1) → W p l e (headSpec w_Complaints_hasFault r_Complaints_hasFault).room s m args below meth c H locs 0 0 Q (F0 m pc ls [.int v]) := by
    intro v hn h H locs hP hD hS pc ls hd
    cases h
    subst hQ
    exact W.zret hx hb hr hn (fun t ht hW => ⟨⟨_, (), rfl, rfl, by rw [ht]; exact hP, RK.warm hW hK, hD⟩, hS.F ht⟩) hS.2.2 hd
  clear hQ
  unfold p_Complaints_hasFault at h
  refine lv_aload_n hx hb d_Complaints_hasFault_0 rfl (lv_at hl 0 rfl) ?_
  refine gf_Complaints_17 hx hb hg hown hK hP d_Complaints_hasFault_1 ?_
  refine lv_iconst (v := (-1)) hx hb d_Complaints_hasFault_4 (by decide) ?_
  refine lv_icmp_eq (tgt := 12) hx hb d_Complaints_hasFault_5 (by decide) (fun c_5 => ?_) (fun c_5 => ?_)
  · replace h := itp c_5 h
    refine lv_iconst (v := 0) hx hb d_Complaints_hasFault_12 (by decide) ?_
    exact hRet _ rfl h _ _ hP hD hS _ _ d_Complaints_hasFault_13
  · replace h := itf c_5 h
    refine lv_iconst (v := 1) hx hb d_Complaints_hasFault_8 (by decide) ?_
    refine lv_goto (tgt := 13) hx hb d_Complaints_hasFault_9 (by decide) ?_
    exact hRet _ rfl h _ _ hP hD hS _ _ d_Complaints_hasFault_13
def p_Complaints_mark (σ : Sto) (x1 : Int32) (x2 : Int32) : Option Sto :=
  if inR x1 121 then if inR x1 121 then some (sA σ 17 x1.toNatClampNeg ((σ.2.1 17 x1.toNatClampNeg) ||| ((1 : Int32) <<< (x2 &&& 31)))) else none else none
abbrev w_Complaints_mark : List Cond := Cond.code y_Complaints_mark b_Complaints_mark 3 none :: Tg
abbrev r_Complaints_mark : Room := { frames := 0, cells := 0, slots := 0, locals := 0 }
theorem dv_Complaints_mark : y_Complaints_mark.cls = "LanguageServer$Complaints" ∧ y_Complaints_mark.cls ≠ "java/lang/invoke/MethodHandle" ∧ y_Complaints_mark.cls ≠ "java/lang/invoke/VarHandle" ∧ (parseMethodDescriptor y_Complaints_mark.desc).map (fun d => d.parameters.length) = some 2 := by decide +kernel
set_option maxHeartbeats 4000000 in
set_option maxRecDepth 100000 in
theorem c_Complaints_mark (l : Launch) (K : Kst) (A : Nat → Nat) {σ : Sto} {x1 : Int32} {x2 : Int32} {ss : Sto} (h : p_Complaints_mark σ x1 x2 = some ss) : Met l y_Complaints_mark w_Complaints_mark r_Complaints_mark (va_Pc [.ref (A 16), .int x1, .int x2] (RB K A σ)) (RQv K A ss) 0 0 (RF A) := by
  refine Met.ofW (cc := b_Complaints_mark) (maxL := 3) (ret := none) (by decide) rfl ?_
  intro p e s m args below meth c s₁ B hml hv
  obtain ⟨rfl, hP, hK, hD⟩ := hv
  have hx := B.exec
  have hb := B.bytes
  have hr := B.returns
  have hts := atoms_spec (ws := w_Complaints_mark) B.pre
  have hg : ∀ w ∈ Tg, w.before _ s = true := fun w q => hts w (List.mem_cons_of_mem _ q)
  have hown : s.vm.findClass "LanguageServer$Complaints" = some m.cls := findClass_of_methodNamed B.named
  have hlocks := B.notSynchronized
  have hS : va_S (RF A) s.heap s.heap [] := va_S.rf
  have hl := lv_entry ([.ref (A 16), .int x1, .int x2]) (n := 3) (Nat.le_of_ble_eq_true rfl)
  rw [lg_entry_eq]
  generalize (lg_sl ([.ref (A 16), .int x1, .int x2]) ++ List.replicate (3 - (lg_sl ([.ref (A 16), .int x1, .int x2])).length) Slot.unset).toArray = ls at hl ⊢
  have hl : lv_has ls 3 [(0, .ref (A 16)), (1, .int x1), (2, .int x2)] := hl
  generalize hargs : ([.ref (A 16), .int x1, .int x2] : List Value).toArray = args at hg hts ⊢
  obtain ⟨Q, hQ⟩ : ∃ Q, Q = MQ below (RQv K A ss) args s 0 0 (RF A) := ⟨_, rfl⟩
  rw [← hQ]
  have hRet : ∀ (σ : Sto), some σ = some ss → ∀ (H : Heap) (locs : List Loc), va_P K.1 vwCl (wR K A σ) H → va_D (RF A) (wR K A σ) → va_S (RF A) s.heap H locs → ∀ (pc : Nat) (ls : Array Slot), decode b_Complaints_mark pc = .ok (.return_, 1) → W p l e (headSpec w_Complaints_mark r_Complaints_mark).room s m args below meth c H locs 0 0 Q (F0 m pc ls []) := by
    intro σ h H locs hP hD hS pc ls hd
    cases h
    subst hQ
    exact W.vret hx hb hr (fun t ht hW => ⟨⟨(), rfl, trivial, by rw [ht]; exact hP, RK.warm hW hK, hD⟩, hS.F ht⟩) hS.2.2 hd
  clear hQ
  unfold p_Complaints_mark at h
  refine lv_aload_n hx hb d_Complaints_mark_0 rfl (lv_at hl 0 rfl) ?_
  refine gf_Complaints_11 hx hb hg hown hK hP d_Complaints_mark_1 ?_
  refine lv_iload_n hx hb d_Complaints_mark_4 rfl (lv_at hl 1 rfl) ?_
  refine lv_dup2_11 hx hb d_Complaints_mark_5 rfl rfl ?_
  obtain ⟨i_6, h⟩ := itn h
  refine ra_17 hx hb hK hP i_6 d_Complaints_mark_6 ?_
  refine lv_iconst (v := 1) hx hb d_Complaints_mark_7 (by decide) ?_
  refine lv_iload_n hx hb d_Complaints_mark_8 rfl (lv_at hl 2 rfl) ?_
  refine lv_ishl hx hb d_Complaints_mark_9 ?_
  refine lv_ior hx hb d_Complaints_mark_10 ?_
  obtain ⟨i_11, h⟩ := itn h
  refine wa_17 hx hb hK hP hD hS i_11 d_Complaints_mark_11 (fun H locs hP hD hS => ?_)
  exact hRet _ h _ _ hP hD hS _ _ d_Complaints_mark_12
def p_Complaints_total_L13 (σ : Sto) : Nat → Int32 → Int32 → Option Int32
  | 0, _, _ => none
  | n + 1, x1, x2 =>
    (if (121 : Int32) ≤ x2 then
        some x1
      else
        if inR x2 121 then bd1 (p_Integer_bitCount (σ.2.1 17 x2.toNatClampNeg)) fun v_26 =>
        p_Complaints_total_L13 σ n (x1 + v_26) (x2 + 1) else none)
def p_Complaints_total (σ : Sto) : Option Int32 :=
  bd1 (p_Complaints_hasFault σ) fun v_1 =>
    (if v_1 = 0 then
      p_Complaints_total_L13 σ FU 0 0
    else
      some 1)
abbrev w_Complaints_total : List Cond := Cond.code y_Complaints_total b_Complaints_total 3 (some .int) :: Tg
abbrev r_Complaints_total : Room := { frames := 1, cells := 0, slots := 0, locals := 20 }
theorem dv_Complaints_total : y_Complaints_total.cls = "LanguageServer$Complaints" ∧ y_Complaints_total.cls ≠ "java/lang/invoke/MethodHandle" ∧ y_Complaints_total.cls ≠ "java/lang/invoke/VarHandle" ∧ (parseMethodDescriptor y_Complaints_total.desc).map (fun d => d.parameters.length) = some 0 := by decide +kernel
set_option maxHeartbeats 4000000 in
set_option maxRecDepth 100000 in
theorem c_Complaints_total (l : Launch) (K : Kst) (A : Nat → Nat) {σ : Sto} {rr : Int32} (h : p_Complaints_total σ = some rr) : Met l y_Complaints_total w_Complaints_total r_Complaints_total (va_Pc [.ref (A 16)] (RB K A σ)) (RQi K A rr σ) 0 0 (RF A) := by
  refine Met.ofW (cc := b_Complaints_total) (maxL := 3) (ret := (some .int)) (by decide) rfl ?_
  intro p e s m args below meth c s₁ B hml hv
  obtain ⟨rfl, hP, hK, hD⟩ := hv
  have hx := B.exec
  have hb := B.bytes
  have hr := B.returns
  have hts := atoms_spec (ws := w_Complaints_total) B.pre
  have hg : ∀ w ∈ Tg, w.before _ s = true := fun w q => hts w (List.mem_cons_of_mem _ q)
  have hown : s.vm.findClass "LanguageServer$Complaints" = some m.cls := findClass_of_methodNamed B.named
  have hlocks := B.notSynchronized
  have hS : va_S (RF A) s.heap s.heap [] := va_S.rf
  have hl := lv_entry ([.ref (A 16)]) (n := 3) (Nat.le_of_ble_eq_true rfl)
  rw [lg_entry_eq]
  generalize (lg_sl ([.ref (A 16)]) ++ List.replicate (3 - (lg_sl ([.ref (A 16)])).length) Slot.unset).toArray = ls at hl ⊢
  have hl : lv_has ls 3 [(0, .ref (A 16))] := hl
  generalize hargs : ([.ref (A 16)] : List Value).toArray = args at hg hts ⊢
  obtain ⟨Q, hQ⟩ : ∃ Q, Q = MQ below (RQi K A rr σ) args s 0 0 (RF A) := ⟨_, rfl⟩
  rw [← hQ]
  have hRet : ∀ (v : Int32), some v = some rr → ∀ (H : Heap) (locs : List Loc), va_P K.1 vwCl (wR K A σ) H → va_D (RF A) (wR K A σ) → va_S (RF A) s.heap H locs → ∀ (pc : Nat) (ls : Array Slot), decode b_Complaints_total pc = .ok (.ireturn, 1) → W p l e (headSpec w_Complaints_total r_Complaints_total).room s m args below meth c H locs 0 0 Q (F0 m pc ls [.int v]) := by
    intro v h H locs hP hD hS pc ls hd
    cases h
    subst hQ
    exact W.iret hx hb hr (fun t ht hW => ⟨⟨_, (), rfl, rfl, by rw [ht]; exact hP, RK.warm hW hK, hD⟩, hS.F ht⟩) hS.2.2 hd
  clear hQ
  unfold p_Complaints_total at h
  have L_13 : ∀ (n : Nat) (x1 : Int32) (x2 : Int32), p_Complaints_total_L13 σ n x1 x2 = some rr → ∀ (H : Heap) (locs : List Loc), va_P K.1 vwCl (wR K A σ) H → va_D (RF A) (wR K A σ) → va_S (RF A) s.heap H locs → ∀ ls : Array Slot, lv_has ls 3 [(0, .ref (A 16)), (1, .int x1), (2, .int x2)] → W p l e (headSpec w_Complaints_total r_Complaints_total).room s m args below meth c H locs 0 0 Q (F0 m 13 ls []) := by
    intro n
    induction n with
    | zero => intro _ _ h; cases h
    | succ n ih =>
      intro x1 x2 h H locs hP hD hS ls hl
      rw [p_Complaints_total_L13] at h
      refine lv_iload_n hx hb d_Complaints_total_13 rfl (lv_at hl 2 rfl) ?_
      refine lv_bipush (v := 121) hx hb d_Complaints_total_14 (by decide) ?_
      refine lv_icmp_ge (tgt := 37) hx hb d_Complaints_total_16 (by decide) (fun c_16 => ?_) (fun c_16 => ?_)
      · replace h := itp c_16 h
        refine lv_iload_n hx hb d_Complaints_total_37 rfl (lv_at hl 1 rfl) ?_
        exact hRet _ h _ _ hP hD hS _ _ d_Complaints_total_38
      · replace h := itf c_16 h
        refine lv_iload_n hx hb d_Complaints_total_19 rfl (lv_at hl 1 rfl) ?_
        refine lv_aload_n hx hb d_Complaints_total_20 rfl (lv_at hl 0 rfl) ?_
        refine gf_Complaints_11 hx hb hg hown hK hP d_Complaints_total_21 ?_
        refine lv_iload_n hx hb d_Complaints_total_24 rfl (lv_at hl 2 rfl) ?_
        obtain ⟨i_25, h⟩ := itn h
        refine ra_17 hx hb hK hP i_25 d_Complaints_total_25 ?_
        obtain ⟨v_26, e_26, h⟩ := bd1_some h
        refine R_cpi (va_runS (As := [.int (σ.2.1 17 x2.toNatClampNeg)]) (rest := [.int x1]) ⟨hx, hb, hml, hown, hts⟩ (c_Integer_bitCount l e_26) (va_cwS 1 hts (gd_S wd_588 wd_589 wd_20 wd_590) rfl rfl rfl ds_Integer_bitCount ⟨Nat.le_of_ble_eq_true rfl, Nat.le_of_ble_eq_true rfl⟩) (P_ps hK.2) rfl rfl hl.1 rfl (lv_room (Nat.le_of_ble_eq_true rfl)) d_Complaints_total_26 ⟨Nat.le_of_ble_eq_true rfl, Nat.le_of_ble_eq_true rfl⟩) hP hD hS (fun H locs hP hD hS => ?_)
        refine lv_iadd hx hb d_Complaints_total_29 ?_
        refine lv_istore_n (lv' := [(1, .int (x1 + v_26)), (0, .ref (A 16)), (2, .int x2)]) hx hb d_Complaints_total_30 rfl hl (by decide) rfl (fun ls hl => ?_)
        refine lv_iinc (v := x2 + 1) (lv' := [(2, .int (x2 + 1)), (1, .int (x1 + v_26)), (0, .ref (A 16))]) hx hb d_Complaints_total_31 hl (k := 2) rfl (by first | rfl | decide) (by decide) rfl (fun ls hl => ?_)
        refine lv_goto (tgt := 13) hx hb d_Complaints_total_34 (by decide) ?_
        exact ih _ _ h _ _ hP hD hS ls (lv_sub hl [2, 1, 0] rfl)
  refine lv_aload_n hx hb d_Complaints_total_0 rfl (lv_at hl 0 rfl) ?_
  obtain ⟨v_1, e_1, h⟩ := bd1_some h
  refine R_calli (va_runV (As := []) (rest := []) ⟨hx, hb, hml, hown, hts⟩ (c_Complaints_hasFault l K A e_1) (cwV 0 hts (gd_V wd_587 wd_456 wd_457 wd_6 wd_458) rfl rfl rfl dv_Complaints_hasFault ⟨Nat.le_of_ble_eq_true rfl, Nat.le_of_ble_eq_true rfl⟩) (R_pv_16 hK hP hD) rfl rfl hl.1 rfl (lv_room (Nat.le_of_ble_eq_true rfl)) d_Complaints_total_1 ⟨Nat.le_of_ble_eq_true rfl, Nat.le_of_ble_eq_true rfl⟩) hS (fun H locs hP hD hS => ?_)
  refine lv_if_eq (tgt := 9) hx hb d_Complaints_total_4 (by decide) (fun c_4 => ?_) (fun c_4 => ?_)
  · replace h := itp c_4 h
    refine lv_iconst (v := 0) hx hb d_Complaints_total_9 (by decide) ?_
    refine lv_istore_n (lv' := [(1, .int 0), (0, .ref (A 16))]) hx hb d_Complaints_total_10 rfl hl (by decide) rfl (fun ls hl => ?_)
    refine lv_iconst (v := 0) hx hb d_Complaints_total_11 (by decide) ?_
    refine lv_istore_n (lv' := [(2, .int 0), (1, .int 0), (0, .ref (A 16))]) hx hb d_Complaints_total_12 rfl hl (by decide) rfl (fun ls hl => ?_)
    exact L_13  FU _ _ h _ _ hP hD hS ls (lv_sub hl [2, 1, 0] rfl)
  · replace h := itf c_4 h
    refine lv_iconst (v := 1) hx hb d_Complaints_total_7 (by decide) ?_
    exact hRet _ h _ _ hP hD hS _ _ d_Complaints_total_8
def p_Complaints_entryAt_L4 (σ : Sto) (x1 : Int32) : Nat → Int32 → Int32 → Option Int32
  | 0, _, _ => none
  | n + 1, x2, x3 =>
    (if (1331 : Int32) ≤ x3 then
        some 0
      else
        if inR (x3 / 11) 121 then (if (((σ.2.1 17 ((x3 / 11).toNatClampNeg)) >>> ((x3 - x3 / 11 * 11) &&& 31)) &&& 1) = 1 then
          (if x2 = x1 then
            some x3
          else
            p_Complaints_entryAt_L4 σ x1 n (x2 + 1) (x3 + 1))
        else
          p_Complaints_entryAt_L4 σ x1 n x2 (x3 + 1)) else none)
def p_Complaints_entryAt (σ : Sto) (x1 : Int32) : Option Int32 :=
  p_Complaints_entryAt_L4 σ x1 FU 0 0
abbrev w_Complaints_entryAt : List Cond := Cond.code y_Complaints_entryAt b_Complaints_entryAt 4 (some .int) :: Tg
abbrev r_Complaints_entryAt : Room := { frames := 0, cells := 0, slots := 0, locals := 0 }
theorem dv_Complaints_entryAt : y_Complaints_entryAt.cls = "LanguageServer$Complaints" ∧ y_Complaints_entryAt.cls ≠ "java/lang/invoke/MethodHandle" ∧ y_Complaints_entryAt.cls ≠ "java/lang/invoke/VarHandle" ∧ (parseMethodDescriptor y_Complaints_entryAt.desc).map (fun d => d.parameters.length) = some 1 := by decide +kernel
set_option maxHeartbeats 4000000 in
set_option maxRecDepth 100000 in
theorem c_Complaints_entryAt (l : Launch) (K : Kst) (A : Nat → Nat) {σ : Sto} {x1 : Int32} {rr : Int32} (h : p_Complaints_entryAt σ x1 = some rr) : Met l y_Complaints_entryAt w_Complaints_entryAt r_Complaints_entryAt (va_Pc [.ref (A 16), .int x1] (RB K A σ)) (RQi K A rr σ) 0 0 (RF A) := by
  refine Met.ofW (cc := b_Complaints_entryAt) (maxL := 4) (ret := (some .int)) (by decide) rfl ?_
  intro p e s m args below meth c s₁ B hml hv
  obtain ⟨rfl, hP, hK, hD⟩ := hv
  have hx := B.exec
  have hb := B.bytes
  have hr := B.returns
  have hts := atoms_spec (ws := w_Complaints_entryAt) B.pre
  have hg : ∀ w ∈ Tg, w.before _ s = true := fun w q => hts w (List.mem_cons_of_mem _ q)
  have hown : s.vm.findClass "LanguageServer$Complaints" = some m.cls := findClass_of_methodNamed B.named
  have hlocks := B.notSynchronized
  have hS : va_S (RF A) s.heap s.heap [] := va_S.rf
  have hl := lv_entry ([.ref (A 16), .int x1]) (n := 4) (Nat.le_of_ble_eq_true rfl)
  rw [lg_entry_eq]
  generalize (lg_sl ([.ref (A 16), .int x1]) ++ List.replicate (4 - (lg_sl ([.ref (A 16), .int x1])).length) Slot.unset).toArray = ls at hl ⊢
  have hl : lv_has ls 4 [(0, .ref (A 16)), (1, .int x1)] := hl
  generalize hargs : ([.ref (A 16), .int x1] : List Value).toArray = args at hg hts ⊢
  obtain ⟨Q, hQ⟩ : ∃ Q, Q = MQ below (RQi K A rr σ) args s 0 0 (RF A) := ⟨_, rfl⟩
  rw [← hQ]
  have hRet : ∀ (v : Int32), some v = some rr → ∀ (H : Heap) (locs : List Loc), va_P K.1 vwCl (wR K A σ) H → va_D (RF A) (wR K A σ) → va_S (RF A) s.heap H locs → ∀ (pc : Nat) (ls : Array Slot), decode b_Complaints_entryAt pc = .ok (.ireturn, 1) → W p l e (headSpec w_Complaints_entryAt r_Complaints_entryAt).room s m args below meth c H locs 0 0 Q (F0 m pc ls [.int v]) := by
    intro v h H locs hP hD hS pc ls hd
    cases h
    subst hQ
    exact W.iret hx hb hr (fun t ht hW => ⟨⟨_, (), rfl, rfl, by rw [ht]; exact hP, RK.warm hW hK, hD⟩, hS.F ht⟩) hS.2.2 hd
  clear hQ
  unfold p_Complaints_entryAt at h
  have L_4 : ∀ (n : Nat) (x2 : Int32) (x3 : Int32), p_Complaints_entryAt_L4 σ x1 n x2 x3 = some rr → ∀ (H : Heap) (locs : List Loc), va_P K.1 vwCl (wR K A σ) H → va_D (RF A) (wR K A σ) → va_S (RF A) s.heap H locs → ∀ ls : Array Slot, lv_has ls 4 [(0, .ref (A 16)), (1, .int x1), (2, .int x2), (3, .int x3)] → W p l e (headSpec w_Complaints_entryAt r_Complaints_entryAt).room s m args below meth c H locs 0 0 Q (F0 m 4 ls []) := by
    intro n
    induction n with
    | zero => intro _ _ h; cases h
    | succ n ih =>
      intro x2 x3 h H locs hP hD hS ls hl
      rw [p_Complaints_entryAt_L4] at h
      refine lv_iload_n hx hb d_Complaints_entryAt_4 rfl (lv_at hl 3 rfl) ?_
      refine lv_sipush (v := 1331) hx hb d_Complaints_entryAt_5 (by decide) ?_
      refine lv_icmp_ge (tgt := 47) hx hb d_Complaints_entryAt_8 (by decide) (fun c_8 => ?_) (fun c_8 => ?_)
      · replace h := itp c_8 h
        refine lv_iconst (v := 0) hx hb d_Complaints_entryAt_47 (by decide) ?_
        exact hRet _ h _ _ hP hD hS _ _ d_Complaints_entryAt_48
      · replace h := itf c_8 h
        refine lv_aload_n hx hb d_Complaints_entryAt_11 rfl (lv_at hl 0 rfl) ?_
        refine gf_Complaints_11 hx hb hg hown hK hP d_Complaints_entryAt_12 ?_
        refine lv_iload_n hx hb d_Complaints_entryAt_15 rfl (lv_at hl 3 rfl) ?_
        refine lv_bipush (v := 11) hx hb d_Complaints_entryAt_16 (by decide) ?_
        refine lv_idiv hx hb d_Complaints_entryAt_18 (by decide) ?_
        obtain ⟨i_19, h⟩ := itn h
        refine ra_17 hx hb hK hP i_19 d_Complaints_entryAt_19 ?_
        refine lv_iload_n hx hb d_Complaints_entryAt_20 rfl (lv_at hl 3 rfl) ?_
        refine lv_bipush (v := 11) hx hb d_Complaints_entryAt_21 (by decide) ?_
        refine lv_irem hx hb d_Complaints_entryAt_23 (by decide) ?_
        refine lv_ishr hx hb d_Complaints_entryAt_24 ?_
        refine lv_iconst (v := 1) hx hb d_Complaints_entryAt_25 (by decide) ?_
        refine lv_iand hx hb d_Complaints_entryAt_26 ?_
        refine lv_iconst (v := 1) hx hb d_Complaints_entryAt_27 (by decide) ?_
        refine lv_icmp_ne (tgt := 41) hx hb d_Complaints_entryAt_28 (by decide) (fun c_28 => ?_) (fun c_28 => ?_)
        · replace h := itf c_28 h
          refine lv_iinc (v := x3 + 1) (lv' := [(3, .int (x3 + 1)), (0, .ref (A 16)), (1, .int x1), (2, .int x2)]) hx hb d_Complaints_entryAt_41 hl (k := 3) rfl (by first | rfl | decide) (by decide) rfl (fun ls hl => ?_)
          refine lv_goto (tgt := 4) hx hb d_Complaints_entryAt_44 (by decide) ?_
          exact ih _ _ h _ _ hP hD hS ls (lv_sub hl [1, 2, 3, 0] rfl)
        · replace h := itp c_28 h
          refine lv_iload_n hx hb d_Complaints_entryAt_31 rfl (lv_at hl 2 rfl) ?_
          refine lv_iload_n hx hb d_Complaints_entryAt_32 rfl (lv_at hl 1 rfl) ?_
          refine lv_icmp_ne (tgt := 38) hx hb d_Complaints_entryAt_33 (by decide) (fun c_33 => ?_) (fun c_33 => ?_)
          · replace h := itf c_33 h
            refine lv_iinc (v := x2 + 1) (lv' := [(2, .int (x2 + 1)), (0, .ref (A 16)), (1, .int x1), (3, .int x3)]) hx hb d_Complaints_entryAt_38 hl (k := 2) rfl (by first | rfl | decide) (by decide) rfl (fun ls hl => ?_)
            refine lv_iinc (v := x3 + 1) (lv' := [(3, .int (x3 + 1)), (2, .int (x2 + 1)), (0, .ref (A 16)), (1, .int x1)]) hx hb d_Complaints_entryAt_41 hl (k := 3) rfl (by first | rfl | decide) (by decide) rfl (fun ls hl => ?_)
            refine lv_goto (tgt := 4) hx hb d_Complaints_entryAt_44 (by decide) ?_
            exact ih _ _ h _ _ hP hD hS ls (lv_sub hl [2, 3, 1, 0] rfl)
          · replace h := itp c_33 h
            refine lv_iload_n hx hb d_Complaints_entryAt_36 rfl (lv_at hl 3 rfl) ?_
            exact hRet _ h _ _ hP hD hS _ _ d_Complaints_entryAt_37
  refine lv_iconst (v := 0) hx hb d_Complaints_entryAt_0 (by decide) ?_
  refine lv_istore_n (lv' := [(2, .int 0), (0, .ref (A 16)), (1, .int x1)]) hx hb d_Complaints_entryAt_1 rfl hl (by decide) rfl (fun ls hl => ?_)
  refine lv_iconst (v := 0) hx hb d_Complaints_entryAt_2 (by decide) ?_
  refine lv_istore_n (lv' := [(3, .int 0), (2, .int 0), (0, .ref (A 16)), (1, .int x1)]) hx hb d_Complaints_entryAt_3 rfl hl (by decide) rfl (fun ls hl => ?_)
  exact L_4  FU _ _ h _ _ hP hD hS ls (lv_sub hl [2, 3, 1, 0] rfl)
def p_Complaints_kindAt (σ : Sto) (x1 : Int32) : Option Int32 :=
  bd1 (p_Complaints_hasFault σ) fun v_1 =>
    (if v_1 = 0 then
      bd1 (p_Complaints_entryAt σ x1) fun v_13 =>
      some (v_13 - v_13 / 11 * 11)
    else
      some 0)
abbrev w_Complaints_kindAt : List Cond := Cond.code y_Complaints_kindAt b_Complaints_kindAt 2 (some .int) :: Tg
abbrev r_Complaints_kindAt : Room := { frames := 1, cells := 0, slots := 0, locals := 23 }
theorem dv_Complaints_kindAt : y_Complaints_kindAt.cls = "LanguageServer$Complaints" ∧ y_Complaints_kindAt.cls ≠ "java/lang/invoke/MethodHandle" ∧ y_Complaints_kindAt.cls ≠ "java/lang/invoke/VarHandle" ∧ (parseMethodDescriptor y_Complaints_kindAt.desc).map (fun d => d.parameters.length) = some 1 := by decide +kernel
set_option maxHeartbeats 4000000 in
set_option maxRecDepth 100000 in
theorem c_Complaints_kindAt (l : Launch) (K : Kst) (A : Nat → Nat) {σ : Sto} {x1 : Int32} {rr : Int32} (h : p_Complaints_kindAt σ x1 = some rr) : Met l y_Complaints_kindAt w_Complaints_kindAt r_Complaints_kindAt (va_Pc [.ref (A 16), .int x1] (RB K A σ)) (RQi K A rr σ) 0 0 (RF A) := by
  refine Met.ofW (cc := b_Complaints_kindAt) (maxL := 2) (ret := (some .int)) (by decide) rfl ?_
  intro p e s m args below meth c s₁ B hml hv
  obtain ⟨rfl, hP, hK, hD⟩ := hv
  have hx := B.exec
  have hb := B.bytes
  have hr := B.returns
  have hts := atoms_spec (ws := w_Complaints_kindAt) B.pre
  have hg : ∀ w ∈ Tg, w.before _ s = true := fun w q => hts w (List.mem_cons_of_mem _ q)
  have hown : s.vm.findClass "LanguageServer$Complaints" = some m.cls := findClass_of_methodNamed B.named
  have hlocks := B.notSynchronized
  have hS : va_S (RF A) s.heap s.heap [] := va_S.rf
  have hl := lv_entry ([.ref (A 16), .int x1]) (n := 2) (Nat.le_of_ble_eq_true rfl)
  rw [lg_entry_eq]
  generalize (lg_sl ([.ref (A 16), .int x1]) ++ List.replicate (2 - (lg_sl ([.ref (A 16), .int x1])).length) Slot.unset).toArray = ls at hl ⊢
  have hl : lv_has ls 2 [(0, .ref (A 16)), (1, .int x1)] := hl
  generalize hargs : ([.ref (A 16), .int x1] : List Value).toArray = args at hg hts ⊢
  obtain ⟨Q, hQ⟩ : ∃ Q, Q = MQ below (RQi K A rr σ) args s 0 0 (RF A) := ⟨_, rfl⟩
  rw [← hQ]
  have hRet : ∀ (v : Int32), some v = some rr → ∀ (H : Heap) (locs : List Loc), va_P K.1 vwCl (wR K A σ) H → va_D (RF A) (wR K A σ) → va_S (RF A) s.heap H locs → ∀ (pc : Nat) (ls : Array Slot), decode b_Complaints_kindAt pc = .ok (.ireturn, 1) → W p l e (headSpec w_Complaints_kindAt r_Complaints_kindAt).room s m args below meth c H locs 0 0 Q (F0 m pc ls [.int v]) := by
    intro v h H locs hP hD hS pc ls hd
    cases h
    subst hQ
    exact W.iret hx hb hr (fun t ht hW => ⟨⟨_, (), rfl, rfl, by rw [ht]; exact hP, RK.warm hW hK, hD⟩, hS.F ht⟩) hS.2.2 hd
  clear hQ
  unfold p_Complaints_kindAt at h
  refine lv_aload_n hx hb d_Complaints_kindAt_0 rfl (lv_at hl 0 rfl) ?_
  obtain ⟨v_1, e_1, h⟩ := bd1_some h
  refine R_calli (va_runV (As := []) (rest := []) ⟨hx, hb, hml, hown, hts⟩ (c_Complaints_hasFault l K A e_1) (cwV 0 hts (gd_V wd_587 wd_456 wd_457 wd_6 wd_458) rfl rfl rfl dv_Complaints_hasFault ⟨Nat.le_of_ble_eq_true rfl, Nat.le_of_ble_eq_true rfl⟩) (R_pv_16 hK hP hD) rfl rfl hl.1 rfl (lv_room (Nat.le_of_ble_eq_true rfl)) d_Complaints_kindAt_1 ⟨Nat.le_of_ble_eq_true rfl, Nat.le_of_ble_eq_true rfl⟩) hS (fun H locs hP hD hS => ?_)
  refine lv_if_eq (tgt := 11) hx hb d_Complaints_kindAt_4 (by decide) (fun c_4 => ?_) (fun c_4 => ?_)
  · replace h := itp c_4 h
    refine lv_aload_n hx hb d_Complaints_kindAt_11 rfl (lv_at hl 0 rfl) ?_
    refine lv_iload_n hx hb d_Complaints_kindAt_12 rfl (lv_at hl 1 rfl) ?_
    obtain ⟨v_13, e_13, h⟩ := bd1_some h
    refine R_calli (va_runV (As := [.int x1]) (rest := []) ⟨hx, hb, hml, hown, hts⟩ (c_Complaints_entryAt l K A e_13) (cwV 1 hts (gd_V wd_773 wd_775 wp_40 wd_6 wd_776) rfl rfl rfl dv_Complaints_entryAt ⟨Nat.le_of_ble_eq_true rfl, Nat.le_of_ble_eq_true rfl⟩) (R_pv_16 hK hP hD) rfl rfl hl.1 rfl (lv_room (Nat.le_of_ble_eq_true rfl)) d_Complaints_kindAt_13 ⟨Nat.le_of_ble_eq_true rfl, Nat.le_of_ble_eq_true rfl⟩) hS (fun H locs hP hD hS => ?_)
    refine lv_bipush (v := 11) hx hb d_Complaints_kindAt_16 (by decide) ?_
    refine lv_irem hx hb d_Complaints_kindAt_18 (by decide) ?_
    exact hRet _ h _ _ hP hD hS _ _ d_Complaints_kindAt_19
  · replace h := itf c_4 h
    refine lv_iconst (v := 0) hx hb d_Complaints_kindAt_7 (by decide) ?_
    refine lv_goto (tgt := 19) hx hb d_Complaints_kindAt_8 (by decide) ?_
    exact hRet _ h _ _ hP hD hS _ _ d_Complaints_kindAt_19
def p_Complaints_placeAt (σ : Sto) (x1 : Int32) : Option Int32 :=
  bd1 (p_Complaints_hasFault σ) fun v_1 =>
    (if v_1 = 0 then
      bd1 (p_Complaints_entryAt σ x1) fun v_20 =>
      if inR (v_20 / 11) 121 then some (σ.2.1 4 ((v_20 / 11).toNatClampNeg)) else none
    else
      some (σ.1 5))
abbrev w_Complaints_placeAt : List Cond := Cond.code y_Complaints_placeAt b_Complaints_placeAt 3 (some .int) :: Tg
abbrev r_Complaints_placeAt : Room := { frames := 1, cells := 0, slots := 0, locals := 23 }
theorem dv_Complaints_placeAt : y_Complaints_placeAt.cls = "LanguageServer$Complaints" ∧ y_Complaints_placeAt.cls ≠ "java/lang/invoke/MethodHandle" ∧ y_Complaints_placeAt.cls ≠ "java/lang/invoke/VarHandle" ∧ (parseMethodDescriptor y_Complaints_placeAt.desc).map (fun d => d.parameters.length) = some 2 := by decide +kernel
set_option maxHeartbeats 4000000 in
set_option maxRecDepth 100000 in
theorem c_Complaints_placeAt (l : Launch) (K : Kst) (A : Nat → Nat) {σ : Sto} {x1 : Int32} {rr : Int32} (h : p_Complaints_placeAt σ x1 = some rr) : Met l y_Complaints_placeAt w_Complaints_placeAt r_Complaints_placeAt (va_Pc [.ref (A 16), .int x1, .ref (A 3)] (RB K A σ)) (RQi K A rr σ) 0 0 (RF A) := by
  refine Met.ofW (cc := b_Complaints_placeAt) (maxL := 3) (ret := (some .int)) (by decide) rfl ?_
  intro p e s m args below meth c s₁ B hml hv
  obtain ⟨rfl, hP, hK, hD⟩ := hv
  have hx := B.exec
  have hb := B.bytes
  have hr := B.returns
  have hts := atoms_spec (ws := w_Complaints_placeAt) B.pre
  have hg : ∀ w ∈ Tg, w.before _ s = true := fun w q => hts w (List.mem_cons_of_mem _ q)
  have hown : s.vm.findClass "LanguageServer$Complaints" = some m.cls := findClass_of_methodNamed B.named
  have hlocks := B.notSynchronized
  have hS : va_S (RF A) s.heap s.heap [] := va_S.rf
  have hl := lv_entry ([.ref (A 16), .int x1, .ref (A 3)]) (n := 3) (Nat.le_of_ble_eq_true rfl)
  rw [lg_entry_eq]
  generalize (lg_sl ([.ref (A 16), .int x1, .ref (A 3)]) ++ List.replicate (3 - (lg_sl ([.ref (A 16), .int x1, .ref (A 3)])).length) Slot.unset).toArray = ls at hl ⊢
  have hl : lv_has ls 3 [(0, .ref (A 16)), (1, .int x1), (2, .ref (A 3))] := hl
  generalize hargs : ([.ref (A 16), .int x1, .ref (A 3)] : List Value).toArray = args at hg hts ⊢
  obtain ⟨Q, hQ⟩ : ∃ Q, Q = MQ below (RQi K A rr σ) args s 0 0 (RF A) := ⟨_, rfl⟩
  rw [← hQ]
  have hRet : ∀ (v : Int32), some v = some rr → ∀ (H : Heap) (locs : List Loc), va_P K.1 vwCl (wR K A σ) H → va_D (RF A) (wR K A σ) → va_S (RF A) s.heap H locs → ∀ (pc : Nat) (ls : Array Slot), decode b_Complaints_placeAt pc = .ok (.ireturn, 1) → W p l e (headSpec w_Complaints_placeAt r_Complaints_placeAt).room s m args below meth c H locs 0 0 Q (F0 m pc ls [.int v]) := by
    intro v h H locs hP hD hS pc ls hd
    cases h
    subst hQ
    exact W.iret hx hb hr (fun t ht hW => ⟨⟨_, (), rfl, rfl, by rw [ht]; exact hP, RK.warm hW hK, hD⟩, hS.F ht⟩) hS.2.2 hd
  clear hQ
  unfold p_Complaints_placeAt at h
  refine lv_aload_n hx hb d_Complaints_placeAt_0 rfl (lv_at hl 0 rfl) ?_
  obtain ⟨v_1, e_1, h⟩ := bd1_some h
  refine R_calli (va_runV (As := []) (rest := []) ⟨hx, hb, hml, hown, hts⟩ (c_Complaints_hasFault l K A e_1) (cwV 0 hts (gd_V wd_587 wd_456 wd_457 wd_6 wd_458) rfl rfl rfl dv_Complaints_hasFault ⟨Nat.le_of_ble_eq_true rfl, Nat.le_of_ble_eq_true rfl⟩) (R_pv_16 hK hP hD) rfl rfl hl.1 rfl (lv_room (Nat.le_of_ble_eq_true rfl)) d_Complaints_placeAt_1 ⟨Nat.le_of_ble_eq_true rfl, Nat.le_of_ble_eq_true rfl⟩) hS (fun H locs hP hD hS => ?_)
  refine lv_if_eq (tgt := 14) hx hb d_Complaints_placeAt_4 (by decide) (fun c_4 => ?_) (fun c_4 => ?_)
  · replace h := itp c_4 h
    refine lv_aload_n hx hb d_Complaints_placeAt_14 rfl (lv_at hl 2 rfl) ?_
    refine gf_Complaints_40 hx hb hg hown hK hP d_Complaints_placeAt_15 ?_
    refine lv_aload_n hx hb d_Complaints_placeAt_18 rfl (lv_at hl 0 rfl) ?_
    refine lv_iload_n hx hb d_Complaints_placeAt_19 rfl (lv_at hl 1 rfl) ?_
    obtain ⟨v_20, e_20, h⟩ := bd1_some h
    refine R_calli (va_runV (As := [.int x1]) (rest := [.ref (A 4)]) ⟨hx, hb, hml, hown, hts⟩ (c_Complaints_entryAt l K A e_20) (cwV 1 hts (gd_V wd_773 wd_775 wp_40 wd_6 wd_776) rfl rfl rfl dv_Complaints_entryAt ⟨Nat.le_of_ble_eq_true rfl, Nat.le_of_ble_eq_true rfl⟩) (R_pv_16 hK hP hD) rfl rfl hl.1 rfl (lv_room (Nat.le_of_ble_eq_true rfl)) d_Complaints_placeAt_20 ⟨Nat.le_of_ble_eq_true rfl, Nat.le_of_ble_eq_true rfl⟩) hS (fun H locs hP hD hS => ?_)
    refine lv_bipush (v := 11) hx hb d_Complaints_placeAt_23 (by decide) ?_
    refine lv_idiv hx hb d_Complaints_placeAt_25 (by decide) ?_
    obtain ⟨i_26, h⟩ := itn h
    refine ra_4 hx hb hK hP i_26 d_Complaints_placeAt_26 ?_
    exact hRet _ h _ _ hP hD hS _ _ d_Complaints_placeAt_27
  · replace h := itf c_4 h
    refine lv_aload_n hx hb d_Complaints_placeAt_7 rfl (lv_at hl 0 rfl) ?_
    refine gf_Complaints_17 hx hb hg hown hK hP d_Complaints_placeAt_8 ?_
    refine lv_goto (tgt := 27) hx hb d_Complaints_placeAt_11 (by decide) ?_
    exact hRet _ h _ _ hP hD hS _ _ d_Complaints_placeAt_27
