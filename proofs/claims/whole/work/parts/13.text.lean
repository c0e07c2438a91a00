def p_Text_put (σ : Sto) (x1 : Int32) (x2 : Int32) : Option Sto :=
  if ¬ x1 < 0 ∧ ¬ (x1 + 1) < 0 ∧ ¬ ((σ.1 1) - x1) < 0 ∧ x1.toNatClampNeg + ((σ.1 1) - x1).toNatClampNeg ≤ 240 ∧ (x1 + 1).toNatClampNeg + ((σ.1 1) - x1).toNatClampNeg ≤ 240 then if inR x1 240 then some (sS (sA (sC σ 2 x1.toNatClampNeg (x1 + 1).toNatClampNeg ((σ.1 1) - x1).toNatClampNeg) 2 x1.toNatClampNeg x2) 1 (((sA (sC σ 2 x1.toNatClampNeg (x1 + 1).toNatClampNeg ((σ.1 1) - x1).toNatClampNeg) 2 x1.toNatClampNeg x2).1 1) + 1)) else none else none
abbrev w_Text_put : List Cond := Cond.code y_Text_put b_Text_put 3 none :: Tg
abbrev r_Text_put : Room := { frames := 1, cells := 0, slots := 0, locals := 43 }
theorem dv_Text_put : y_Text_put.cls = "LanguageServer$Text" ∧ y_Text_put.cls ≠ "java/lang/invoke/MethodHandle" ∧ y_Text_put.cls ≠ "java/lang/invoke/VarHandle" ∧ (parseMethodDescriptor y_Text_put.desc).map (fun d => d.parameters.length) = some 2 := by decide +kernel
set_option maxHeartbeats 4000000 in
set_option maxRecDepth 100000 in
theorem c_Text_put (l : Launch) (K : Kst) (A : Nat → Nat) {σ : Sto} {x1 : Int32} {x2 : Int32} {ss : Sto} (h : p_Text_put σ x1 x2 = some ss) : Met l y_Text_put w_Text_put r_Text_put (va_Pc [.ref (A 1), .int x1, .int x2] (RB K A σ)) (RQv K A ss) 0 0 (RF A) := by
  refine Met.ofW (cc := b_Text_put) (maxL := 3) (ret := none) (by decide) rfl ?_
  intro p e s m args below meth c s₁ B hml hv
  obtain ⟨rfl, hP, hK, hD⟩ := hv
  have hx := B.exec
  have hb := B.bytes
  have hr := B.returns
  have hts := atoms_spec (ws := w_Text_put) B.pre
  have hg : ∀ w ∈ Tg, w.before _ s = true := fun w q => hts w (List.mem_cons_of_mem _ q)
  have hown : s.vm.findClass "LanguageServer$Text" = some m.cls := findClass_of_methodNamed B.named
  have hlocks := B.notSynchronized
  have hS : va_S (RF A) s.heap s.heap [] := va_S.rf
  have hl := lv_entry ([.ref (A 1), .int x1, .int x2]) (n := 3) (Nat.le_of_ble_eq_true rfl)
  rw [lg_entry_eq]
  generalize (lg_sl ([.ref (A 1), .int x1, .int x2]) ++ List.replicate (3 - (lg_sl ([.ref (A 1), .int x1, .int x2])).length) Slot.unset).toArray = ls at hl ⊢
  have hl : lv_has ls 3 [(0, .ref (A 1)), (1, .int x1), (2, .int x2)] := hl
  generalize hargs : ([.ref (A 1), .int x1, .int x2] : List Value).toArray = args at hg hts ⊢
  obtain ⟨Q, hQ⟩ : ∃ Q, Q = MQ below (RQv K A ss) args s 0 0 (RF A) := ⟨_, rfl⟩
  rw [← hQ]
  have hRet : ∀ (σ : Sto), some σ = some ss → ∀ (H : Heap) (locs : List Loc), va_P K.1 vwCl (wR K A σ) H → va_D (RF A) (wR K A σ) → va_S (RF A) s.heap H locs → ∀ (pc : Nat) (ls : Array Slot), decode b_Text_put pc = .ok (.return_, 1) → W p l e (headSpec w_Text_put r_Text_put).room s m args below meth c H locs 0 0 Q (F0 m pc ls []) := by
    intro σ h H locs hP hD hS pc ls hd
    cases h
    subst hQ
    exact W.vret hx hb hr (fun t ht hW => ⟨⟨(), rfl, trivial, by rw [ht]; exact hP, RK.warm hW hK, hD⟩, hS.F ht⟩) hS.2.2 hd
  clear hQ
  unfold p_Text_put at h
  refine lv_aload_n hx hb d_Text_put_0 rfl (lv_at hl 0 rfl) ?_
  refine gf_Text_9 hx hb hg hown hK hP d_Text_put_1 ?_
  refine lv_iload_n hx hb d_Text_put_4 rfl (lv_at hl 1 rfl) ?_
  refine lv_aload_n hx hb d_Text_put_5 rfl (lv_at hl 0 rfl) ?_
  refine gf_Text_9 hx hb hg hown hK hP d_Text_put_6 ?_
  refine lv_iload_n hx hb d_Text_put_9 rfl (lv_at hl 1 rfl) ?_
  refine lv_iconst (v := 1) hx hb d_Text_put_10 (by decide) ?_
  refine lv_iadd hx hb d_Text_put_11 ?_
  refine lv_aload_n hx hb d_Text_put_12 rfl (lv_at hl 0 rfl) ?_
  refine gf_Text_15 hx hb hg hown hK hP d_Text_put_13 ?_
  refine lv_iload_n hx hb d_Text_put_16 rfl (lv_at hl 1 rfl) ?_
  refine lv_isub hx hb d_Text_put_17 ?_
  obtain ⟨i_18, h⟩ := itn h
  refine cp_Text_19_2 hx hb (hml.trans hl.1.symm) hg hown hK hP hD hS i_18 (Nat.le_of_ble_eq_true rfl) (Nat.le_of_ble_eq_true rfl) d_Text_put_18 (fun H locs hP hD hS => ?_)
  refine lv_aload_n hx hb d_Text_put_21 rfl (lv_at hl 0 rfl) ?_
  refine gf_Text_9 hx hb hg hown hK hP d_Text_put_22 ?_
  refine lv_iload_n hx hb d_Text_put_25 rfl (lv_at hl 1 rfl) ?_
  refine lv_iload_n hx hb d_Text_put_26 rfl (lv_at hl 2 rfl) ?_
  obtain ⟨i_27, h⟩ := itn h
  refine wa_2 hx hb hK hP hD hS i_27 d_Text_put_27 (fun H locs hP hD hS => ?_)
  refine lv_aload_n hx hb d_Text_put_28 rfl (lv_at hl 0 rfl) ?_
  refine lv_dup hx hb d_Text_put_29 rfl ?_
  refine gf_Text_15 hx hb hg hown hK hP d_Text_put_30 ?_
  refine lv_iconst (v := 1) hx hb d_Text_put_33 (by decide) ?_
  refine lv_iadd hx hb d_Text_put_34 ?_
  refine pf_Text_15 hx hb hg hown hK hP hD hS d_Text_put_35 (fun H locs hP hD hS => ?_)
  exact hRet _ h _ _ hP hD hS _ _ d_Text_put_38
def p_Text_add (σ : Sto) (x1 : Int32) : Option Sto :=
  (if (240 : Int32) ≤ (σ.1 1) then
      some σ
    else
      if inR (σ.1 1) 240 then some (sS (sA σ 2 ((σ.1 1).toNatClampNeg) x1) 1 (((sA σ 2 ((σ.1 1).toNatClampNeg) x1).1 1) + 1)) else none)
abbrev w_Text_add : List Cond := Cond.code y_Text_add b_Text_add 2 none :: Tg
abbrev r_Text_add : Room := { frames := 0, cells := 0, slots := 0, locals := 0 }
theorem dv_Text_add : y_Text_add.cls = "LanguageServer$Text" ∧ y_Text_add.cls ≠ "java/lang/invoke/MethodHandle" ∧ y_Text_add.cls ≠ "java/lang/invoke/VarHandle" ∧ (parseMethodDescriptor y_Text_add.desc).map (fun d => d.parameters.length) = some 1 := by decide +kernel
set_option maxHeartbeats 4000000 in
set_option maxRecDepth 100000 in
theorem c_Text_add (l : Launch) (K : Kst) (A : Nat → Nat) {σ : Sto} {x1 : Int32} {ss : Sto} (h : p_Text_add σ x1 = some ss) : Met l y_Text_add w_Text_add r_Text_add (va_Pc [.ref (A 1), .int x1] (RB K A σ)) (RQv K A ss) 0 0 (RF A) := by
  refine Met.ofW (cc := b_Text_add) (maxL := 2) (ret := none) (by decide) rfl ?_
  intro p e s m args below meth c s₁ B hml hv
  obtain ⟨rfl, hP, hK, hD⟩ := hv
  have hx := B.exec
  have hb := B.bytes
  have hr := B.returns
  have hts := atoms_spec (ws := w_Text_add) B.pre
  have hg : ∀ w ∈ Tg, w.before _ s = true := fun w q => hts w (List.mem_cons_of_mem _ q)
  have hown : s.vm.findClass "LanguageServer$Text" = some m.cls := findClass_of_methodNamed B.named
  have hlocks := B.notSynchronized
  have hS : va_S (RF A) s.heap s.heap [] := va_S.rf
  have hl := lv_entry ([.ref (A 1), .int x1]) (n := 2) (Nat.le_of_ble_eq_true rfl)
  rw [lg_entry_eq]
  generalize (lg_sl ([.ref (A 1), .int x1]) ++ List.replicate (2 - (lg_sl ([.ref (A 1), .int x1])).length) Slot.unset).toArray = ls at hl ⊢
  have hl : lv_has ls 2 [(0, .ref (A 1)), (1, .int x1)] := hl
  generalize hargs : ([.ref (A 1), .int x1] : List Value).toArray = args at hg hts ⊢
  obtain ⟨Q, hQ⟩ : ∃ Q, Q = MQ below (RQv K A ss) args s 0 0 (RF A) := ⟨_, rfl⟩
  rw [← hQ]
  have hRet : ∀ (σ : Sto), some σ = some ss → ∀ (H : Heap) (locs : List Loc), va_P K.1 vwCl (wR K A σ) H → va_D (RF A) (wR K A σ) → va_S (RF A) s.heap H locs → ∀ (pc : Nat) (ls : Array Slot), decode b_Text_add pc = .ok (.return_, 1) → W p l e (headSpec w_Text_add r_Text_add).room s m args below meth c H locs 0 0 Q (F0 m pc ls []) := by
    intro σ h H locs hP hD hS pc ls hd
    cases h
    subst hQ
    exact W.vret hx hb hr (fun t ht hW => ⟨⟨(), rfl, trivial, by rw [ht]; exact hP, RK.warm hW hK, hD⟩, hS.F ht⟩) hS.2.2 hd
  clear hQ
  unfold p_Text_add at h
  refine lv_aload_n hx hb d_Text_add_0 rfl (lv_at hl 0 rfl) ?_
  refine gf_Text_15 hx hb hg hown hK hP d_Text_add_1 ?_
  refine lv_sipush (v := 240) hx hb d_Text_add_4 (by decide) ?_
  refine lv_icmp_ge (tgt := 30) hx hb d_Text_add_7 (by decide) (fun c_7 => ?_) (fun c_7 => ?_)
  · replace h := itp c_7 h
    exact hRet _ h _ _ hP hD hS _ _ d_Text_add_30
  · replace h := itf c_7 h
    refine lv_aload_n hx hb d_Text_add_10 rfl (lv_at hl 0 rfl) ?_
    refine gf_Text_9 hx hb hg hown hK hP d_Text_add_11 ?_
    refine lv_aload_n hx hb d_Text_add_14 rfl (lv_at hl 0 rfl) ?_
    refine gf_Text_15 hx hb hg hown hK hP d_Text_add_15 ?_
    refine lv_iload_n hx hb d_Text_add_18 rfl (lv_at hl 1 rfl) ?_
    obtain ⟨i_19, h⟩ := itn h
    refine wa_2 hx hb hK hP hD hS i_19 d_Text_add_19 (fun H locs hP hD hS => ?_)
    refine lv_aload_n hx hb d_Text_add_20 rfl (lv_at hl 0 rfl) ?_
    refine lv_dup hx hb d_Text_add_21 rfl ?_
    refine gf_Text_15 hx hb hg hown hK hP d_Text_add_22 ?_
    refine lv_iconst (v := 1) hx hb d_Text_add_25 (by decide) ?_
    refine lv_iadd hx hb d_Text_add_26 ?_
    refine pf_Text_15 hx hb hg hown hK hP hD hS d_Text_add_27 (fun H locs hP hD hS => ?_)
    exact hRet _ h _ _ hP hD hS _ _ d_Text_add_30
def p_Text_addBytes_L5 (x1 : Int64) (x3 : Int32) : Nat → Sto → Int32 → Option Sto
  | 0, _, _ => none
  | n + 1, σ, x4 =>
    (if x4 < 0 then
        some σ
      else
        bd1 (p_LanguageServer_byteAt x1 x4) fun v_14 =>
        bd1 (p_Text_add σ v_14) fun σ_17 =>
        p_Text_addBytes_L5 x1 x3 n σ_17 (x4 + (-1)))
def p_Text_addBytes (σ : Sto) (x1 : Int64) (x3 : Int32) : Option Sto :=
  p_Text_addBytes_L5 x1 x3 FU σ (x3 - 1)
abbrev w_Text_addBytes : List Cond := Cond.code y_Text_addBytes b_Text_addBytes 5 none :: Tg
abbrev r_Text_addBytes : Room := { frames := 1, cells := 0, slots := 0, locals := 22 }
theorem dv_Text_addBytes : y_Text_addBytes.cls = "LanguageServer$Text" ∧ y_Text_addBytes.cls ≠ "java/lang/invoke/MethodHandle" ∧ y_Text_addBytes.cls ≠ "java/lang/invoke/VarHandle" ∧ (parseMethodDescriptor y_Text_addBytes.desc).map (fun d => d.parameters.length) = some 2 := by decide +kernel
set_option maxHeartbeats 4000000 in
set_option maxRecDepth 100000 in
theorem c_Text_addBytes (l : Launch) (K : Kst) (A : Nat → Nat) {σ : Sto} {x1 : Int64} {x3 : Int32} {ss : Sto} (h : p_Text_addBytes σ x1 x3 = some ss) : Met l y_Text_addBytes w_Text_addBytes r_Text_addBytes (va_Pc [.ref (A 1), .long x1, .int x3] (RB K A σ)) (RQv K A ss) 0 0 (RF A) := by
  refine Met.ofW (cc := b_Text_addBytes) (maxL := 5) (ret := none) (by decide) rfl ?_
  intro p e s m args below meth c s₁ B hml hv
  obtain ⟨rfl, hP, hK, hD⟩ := hv
  have hx := B.exec
  have hb := B.bytes
  have hr := B.returns
  have hts := atoms_spec (ws := w_Text_addBytes) B.pre
  have hg : ∀ w ∈ Tg, w.before _ s = true := fun w q => hts w (List.mem_cons_of_mem _ q)
  have hown : s.vm.findClass "LanguageServer$Text" = some m.cls := findClass_of_methodNamed B.named
  have hlocks := B.notSynchronized
  have hS : va_S (RF A) s.heap s.heap [] := va_S.rf
  have hl := lv_entry ([.ref (A 1), .long x1, .int x3]) (n := 5) (Nat.le_of_ble_eq_true rfl)
  rw [lg_entry_eq]
  generalize (lg_sl ([.ref (A 1), .long x1, .int x3]) ++ List.replicate (5 - (lg_sl ([.ref (A 1), .long x1, .int x3])).length) Slot.unset).toArray = ls at hl ⊢
  have hl : lv_has ls 5 [(0, .ref (A 1)), (1, .long x1), (3, .int x3)] := hl
  generalize hargs : ([.ref (A 1), .long x1, .int x3] : List Value).toArray = args at hg hts ⊢
  obtain ⟨Q, hQ⟩ : ∃ Q, Q = MQ below (RQv K A ss) args s 0 0 (RF A) := ⟨_, rfl⟩
  rw [← hQ]
  have hRet : ∀ (σ : Sto), some σ = some ss → ∀ (H : Heap) (locs : List Loc), va_P K.1 vwCl (wR K A σ) H → va_D (RF A) (wR K A σ) → va_S (RF A) s.heap H locs → ∀ (pc : Nat) (ls : Array Slot), decode b_Text_addBytes pc = .ok (.return_, 1) → W p l e (headSpec w_Text_addBytes r_Text_addBytes).room s m args below meth c H locs 0 0 Q (F0 m pc ls []) := by
    intro σ h H locs hP hD hS pc ls hd
    cases h
    subst hQ
    exact W.vret hx hb hr (fun t ht hW => ⟨⟨(), rfl, trivial, by rw [ht]; exact hP, RK.warm hW hK, hD⟩, hS.F ht⟩) hS.2.2 hd
  clear hQ
  unfold p_Text_addBytes at h
  have L_5 : ∀ (n : Nat) (σ : Sto) (x4 : Int32), p_Text_addBytes_L5 x1 x3 n σ x4 = some ss → ∀ (H : Heap) (locs : List Loc), va_P K.1 vwCl (wR K A σ) H → va_D (RF A) (wR K A σ) → va_S (RF A) s.heap H locs → ∀ ls : Array Slot, lv_has ls 5 [(0, .ref (A 1)), (1, .long x1), (4, .int x4)] → W p l e (headSpec w_Text_addBytes r_Text_addBytes).room s m args below meth c H locs 0 0 Q (F0 m 5 ls []) := by
    intro n
    induction n with
    | zero => intro _ _ h; cases h
    | succ n ih =>
      intro σ x4 h H locs hP hD hS ls hl
      rw [p_Text_addBytes_L5] at h
      refine lv_iload hx hb d_Text_addBytes_5 (lv_at hl 2 rfl) ?_
      refine lv_if_lt (tgt := 26) hx hb d_Text_addBytes_7 (by decide) (fun c_7 => ?_) (fun c_7 => ?_)
      · replace h := itp c_7 h
        exact hRet _ h _ _ hP hD hS _ _ d_Text_addBytes_26
      · replace h := itf c_7 h
        refine lv_aload_n hx hb d_Text_addBytes_10 rfl (lv_at hl 0 rfl) ?_
        refine lv_lload_n hx hb d_Text_addBytes_11 rfl (lv_at hl 1 rfl) ?_
        refine lv_iload hx hb d_Text_addBytes_12 (lv_at hl 2 rfl) ?_
        obtain ⟨v_14, e_14, h⟩ := bd1_some h
        refine R_cpi (va_runSN (As := [.long x1, .int x4]) (rest := [.ref (A 1)]) ⟨hx, hb, hml, hown, hts⟩ (c_LS_byteAt l e_14) ⟨va_cnB 2 hts (gd_C wd_713) rfl rfl rfl hK.2.1 (hg _ wd_1) ds_LS_byteAt ⟨Nat.le_of_ble_eq_true rfl, Nat.le_of_ble_eq_true rfl⟩, hg _ wd_712, trivial⟩ (P_ps hK.2) rfl rfl hl.1 rfl (lv_room (Nat.le_of_ble_eq_true rfl)) d_Text_addBytes_14 ⟨Nat.le_of_ble_eq_true rfl, Nat.le_of_ble_eq_true rfl⟩) hP hD hS (fun H locs hP hD hS => ?_)
        obtain ⟨σ_17, e_17, h⟩ := bd1_some h
        refine R_callv (va_runV (As := [.int v_14]) (rest := []) ⟨hx, hb, hml, hown, hts⟩ (c_Text_add l K A e_17) (cwV 1 hts (gd_V wd_721 wd_722 wd_723 wd_3 wd_724) rfl rfl rfl dv_Text_add ⟨Nat.le_of_ble_eq_true rfl, Nat.le_of_ble_eq_true rfl⟩) (R_pv_1 hK hP hD) rfl rfl hl.1 rfl (lv_room (Nat.le_of_ble_eq_true rfl)) d_Text_addBytes_17 ⟨Nat.le_of_ble_eq_true rfl, Nat.le_of_ble_eq_true rfl⟩) hS (fun H locs hP hD hS => ?_)
        refine lv_iinc (v := x4 + (-1)) (lv' := [(4, .int (x4 + (-1))), (0, .ref (A 1)), (1, .long x1)]) hx hb d_Text_addBytes_20 hl (k := 2) rfl (by first | rfl | decide) (by decide) rfl (fun ls hl => ?_)
        refine lv_goto (tgt := 5) hx hb d_Text_addBytes_23 (by decide) ?_
        exact ih _ _ h _ _ hP hD hS ls (lv_sub hl [1, 2, 0] rfl)
  refine lv_iload_n hx hb d_Text_addBytes_0 rfl (lv_at hl 2 rfl) ?_
  refine lv_iconst (v := 1) hx hb d_Text_addBytes_1 (by decide) ?_
  refine lv_isub hx hb d_Text_addBytes_2 ?_
  refine lv_istore (lv' := [(4, .int (x3 - 1)), (0, .ref (A 1)), (1, .long x1), (3, .int x3)]) hx hb d_Text_addBytes_3 hl (by decide) rfl (fun ls hl => ?_)
  exact L_5  FU _ _ h _ _ hP hD hS ls (lv_sub hl [1, 2, 0] rfl)
def p_Text_take (σ : Sto) (x1 : Int32) (x2 : Int32) : Option Sto :=
  if ¬ (x1 + x2) < 0 ∧ ¬ x1 < 0 ∧ ¬ (((σ.1 1) - x1) - x2) < 0 ∧ (x1 + x2).toNatClampNeg + (((σ.1 1) - x1) - x2).toNatClampNeg ≤ 240 ∧ x1.toNatClampNeg + (((σ.1 1) - x1) - x2).toNatClampNeg ≤ 240 then some (sS (sC σ 2 (x1 + x2).toNatClampNeg x1.toNatClampNeg (((σ.1 1) - x1) - x2).toNatClampNeg) 1 (((sC σ 2 (x1 + x2).toNatClampNeg x1.toNatClampNeg (((σ.1 1) - x1) - x2).toNatClampNeg).1 1) - x2)) else none
abbrev w_Text_take : List Cond := Cond.code y_Text_take b_Text_take 3 none :: Tg
abbrev r_Text_take : Room := { frames := 1, cells := 0, slots := 0, locals := 43 }
theorem dv_Text_take : y_Text_take.cls = "LanguageServer$Text" ∧ y_Text_take.cls ≠ "java/lang/invoke/MethodHandle" ∧ y_Text_take.cls ≠ "java/lang/invoke/VarHandle" ∧ (parseMethodDescriptor y_Text_take.desc).map (fun d => d.parameters.length) = some 2 := by decide +kernel
set_option maxHeartbeats 4000000 in
set_option maxRecDepth 100000 in
theorem c_Text_take (l : Launch) (K : Kst) (A : Nat → Nat) {σ : Sto} {x1 : Int32} {x2 : Int32} {ss : Sto} (h : p_Text_take σ x1 x2 = some ss) : Met l y_Text_take w_Text_take r_Text_take (va_Pc [.ref (A 1), .int x1, .int x2] (RB K A σ)) (RQv K A ss) 0 0 (RF A) := by
  refine Met.ofW (cc := b_Text_take) (maxL := 3) (ret := none) (by decide) rfl ?_
  intro p e s m args below meth c s₁ B hml hv
  obtain ⟨rfl, hP, hK, hD⟩ := hv
  have hx := B.exec
  have hb := B.bytes
  have hr := B.returns
  have hts := atoms_spec (ws := w_Text_take) B.pre
  have hg : ∀ w ∈ Tg, w.before _ s = true := fun w q => hts w (List.mem_cons_of_mem _ q)
  have hown : s.vm.findClass "LanguageServer$Text" = some m.cls := findClass_of_methodNamed B.named
  have hlocks := B.notSynchronized
  have hS : va_S (RF A) s.heap s.heap [] := va_S.rf
  have hl := lv_entry ([.ref (A 1), .int x1, .int x2]) (n := 3) (Nat.le_of_ble_eq_true rfl)
  rw [lg_entry_eq]
  generalize (lg_sl ([.ref (A 1), .int x1, .int x2]) ++ List.replicate (3 - (lg_sl ([.ref (A 1), .int x1, .int x2])).length) Slot.unset).toArray = ls at hl ⊢
  have hl : lv_has ls 3 [(0, .ref (A 1)), (1, .int x1), (2, .int x2)] := hl
  generalize hargs : ([.ref (A 1), .int x1, .int x2] : List Value).toArray = args at hg hts ⊢
  obtain ⟨Q, hQ⟩ : ∃ Q, Q = MQ below (RQv K A ss) args s 0 0 (RF A) := ⟨_, rfl⟩
  rw [← hQ]
  have hRet : ∀ (σ : Sto), some σ = some ss → ∀ (H : Heap) (locs : List Loc), va_P K.1 vwCl (wR K A σ) H → va_D (RF A) (wR K A σ) → va_S (RF A) s.heap H locs → ∀ (pc : Nat) (ls : Array Slot), decode b_Text_take pc = .ok (.return_, 1) → W p l e (headSpec w_Text_take r_Text_take).room s m args below meth c H locs 0 0 Q (F0 m pc ls []) := by
    intro σ h H locs hP hD hS pc ls hd
    cases h
    subst hQ
    exact W.vret hx hb hr (fun t ht hW => ⟨⟨(), rfl, trivial, by rw [ht]; exact hP, RK.warm hW hK, hD⟩, hS.F ht⟩) hS.2.2 hd
  clear hQ
  unfold p_Text_take at h
  refine lv_aload_n hx hb d_Text_take_0 rfl (lv_at hl 0 rfl) ?_
  refine gf_Text_9 hx hb hg hown hK hP d_Text_take_1 ?_
  refine lv_iload_n hx hb d_Text_take_4 rfl (lv_at hl 1 rfl) ?_
  refine lv_iload_n hx hb d_Text_take_5 rfl (lv_at hl 2 rfl) ?_
  refine lv_iadd hx hb d_Text_take_6 ?_
  refine lv_aload_n hx hb d_Text_take_7 rfl (lv_at hl 0 rfl) ?_
  refine gf_Text_9 hx hb hg hown hK hP d_Text_take_8 ?_
  refine lv_iload_n hx hb d_Text_take_11 rfl (lv_at hl 1 rfl) ?_
  refine lv_aload_n hx hb d_Text_take_12 rfl (lv_at hl 0 rfl) ?_
  refine gf_Text_15 hx hb hg hown hK hP d_Text_take_13 ?_
  refine lv_iload_n hx hb d_Text_take_16 rfl (lv_at hl 1 rfl) ?_
  refine lv_isub hx hb d_Text_take_17 ?_
  refine lv_iload_n hx hb d_Text_take_18 rfl (lv_at hl 2 rfl) ?_
  refine lv_isub hx hb d_Text_take_19 ?_
  obtain ⟨i_20, h⟩ := itn h
  refine cp_Text_19_2 hx hb (hml.trans hl.1.symm) hg hown hK hP hD hS i_20 (Nat.le_of_ble_eq_true rfl) (Nat.le_of_ble_eq_true rfl) d_Text_take_20 (fun H locs hP hD hS => ?_)
  refine lv_aload_n hx hb d_Text_take_23 rfl (lv_at hl 0 rfl) ?_
  refine lv_dup hx hb d_Text_take_24 rfl ?_
  refine gf_Text_15 hx hb hg hown hK hP d_Text_take_25 ?_
  refine lv_iload_n hx hb d_Text_take_28 rfl (lv_at hl 2 rfl) ?_
  refine lv_isub hx hb d_Text_take_29 ?_
  refine pf_Text_15 hx hb hg hown hK hP hD hS d_Text_take_30 (fun H locs hP hD hS => ?_)
  exact hRet _ h _ _ hP hD hS _ _ d_Text_take_33
