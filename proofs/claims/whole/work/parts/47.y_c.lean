def p_Mo_parameters_L24 (x1 : Int32) (x2 : Int32) : Nat → Sto → Option Sto
  | 0, _ => none
  | n + 1, σ =>
    bd2 (p_Mo_take σ 44) fun v_27 σ_27 =>
      (if v_27 = 0 then
        bd1 (p_Mo_need σ_27 41) fun σ_53 =>
        some σ_53
      else
        bd1 (p_Mo_typeWord σ_27 x1 x2) fun σ_36 =>
        bd1 (p_Mo_name σ_36 7 x1 x2) fun σ_44 =>
        p_Mo_parameters_L24 x1 x2 n σ_44)
def p_Mo_parameters (σ : Sto) (x1 : Int32) (x2 : Int32) : Option Sto :=
  bd2 (p_Mo_take σ 41) fun v_3 σ_3 =>
    (if v_3 = 0 then
      bd1 (p_Mo_typeWord σ_3 x1 x2) fun σ_13 =>
      bd1 (p_Mo_name σ_13 7 x1 x2) fun σ_21 =>
      p_Mo_parameters_L24 x1 x2 FU σ_21
    else
      some σ_3)
abbrev w_Mo_parameters : List Cond := Cond.code y_Mo_parameters b_Mo_parameters 3 none :: Tg
abbrev r_Mo_parameters : Room := { frames := 3, cells := 0, slots := 0, locals := 66 }
theorem dv_Mo_parameters : y_Mo_parameters.cls = "LanguageServerModel" ∧ y_Mo_parameters.cls ≠ "java/lang/invoke/MethodHandle" ∧ y_Mo_parameters.cls ≠ "java/lang/invoke/VarHandle" ∧ (parseMethodDescriptor y_Mo_parameters.desc).map (fun d => d.parameters.length) = some 2 := by decide +kernel
set_option maxHeartbeats 4000000 in
set_option maxRecDepth 100000 in
theorem c_Mo_parameters (l : Launch) (K : Kst) (A : Nat → Nat) {σ : Sto} {x1 : Int32} {x2 : Int32} {ss : Sto} (h : p_Mo_parameters σ x1 x2 = some ss) : Met l y_Mo_parameters w_Mo_parameters r_Mo_parameters (va_Pc [.ref (A 0), .int x1, .int x2] (YB K A σ)) (YQv K A ss) 0 0 (YF A) := by
  refine Met.ofW (cc := b_Mo_parameters) (maxL := 3) (ret := none) (by decide) rfl ?_
  intro p e s m args below meth c s₁ B hml hv
  obtain ⟨rfl, hP, hK, hD⟩ := hv
  have hx := B.exec
  have hb := B.bytes
  have hr := B.returns
  have hts := atoms_spec (ws := w_Mo_parameters) B.pre
  have hg : ∀ w ∈ Tg, w.before _ s = true := fun w q => hts w (List.mem_cons_of_mem _ q)
  have hown : s.vm.findClass "LanguageServerModel" = some m.cls := findClass_of_methodNamed B.named
  have hlocks := B.notSynchronized
  have hS : va_S (YF A) s.heap s.heap [] := va_S.rf
  have hl := lv_entry ([.ref (A 0), .int x1, .int x2]) (n := 3) (Nat.le_of_ble_eq_true rfl)
  rw [lg_entry_eq]
  generalize (lg_sl ([.ref (A 0), .int x1, .int x2]) ++ List.replicate (3 - (lg_sl ([.ref (A 0), .int x1, .int x2])).length) Slot.unset).toArray = ls at hl ⊢
  have hl : lv_has ls 3 [(0, .ref (A 0)), (1, .int x1), (2, .int x2)] := hl
  generalize hargs : ([.ref (A 0), .int x1, .int x2] : List Value).toArray = args at hg hts ⊢
  obtain ⟨Q, hQ⟩ : ∃ Q, Q = MQ below (YQv K A ss) args s 0 0 (YF A) := ⟨_, rfl⟩
  rw [← hQ]
  have hRet : ∀ (σ : Sto), some σ = some ss → ∀ (H : Heap) (locs : List Loc), va_P K.1 vwCl (wY K A σ) H → va_D (YF A) (wY K A σ) → va_S (YF A) s.heap H locs → ∀ (pc : Nat) (ls : Array Slot), decode b_Mo_parameters pc = .ok (.return_, 1) → W p l e (headSpec w_Mo_parameters r_Mo_parameters).room s m args below meth c H locs 0 0 Q (F0 m pc ls []) := by
    intro σ h H locs hP hD hS pc ls hd
    cases h
    subst hQ
    exact W.vret hx hb hr (fun t ht hW => ⟨⟨(), rfl, trivial, by rw [ht]; exact hP, RK.warm hW hK, hD⟩, hS.F ht⟩) hS.2.2 hd
  clear hQ
  unfold p_Mo_parameters at h
  have L_24 : ∀ (n : Nat) (σ : Sto), p_Mo_parameters_L24 x1 x2 n σ = some ss → ∀ (H : Heap) (locs : List Loc), va_P K.1 vwCl (wY K A σ) H → va_D (YF A) (wY K A σ) → va_S (YF A) s.heap H locs → ∀ ls : Array Slot, lv_has ls 3 [(0, .ref (A 0)), (1, .int x1), (2, .int x2)] → W p l e (headSpec w_Mo_parameters r_Mo_parameters).room s m args below meth c H locs 0 0 Q (F0 m 24 ls []) := by
    intro n
    induction n with
    | zero => intro _ h; cases h
    | succ n ih =>
      intro σ h H locs hP hD hS ls hl
      rw [p_Mo_parameters_L24] at h
      refine lv_aload_n hx hb d_Mo_parameters_24 rfl (lv_at hl 0 rfl) ?_
      refine lv_bipush (v := 44) hx hb d_Mo_parameters_25 (by decide) ?_
      obtain ⟨v_27, σ_27, e_27, h⟩ := bd2_some h
      refine Y_calli (va_runV (As := [.int 44]) (rest := []) ⟨hx, hb, hml, hown, hts⟩ (c_Mo_take l K A e_27) (cwV 1 hts (gd_V wd_1068 wd_1070 wp_49 wd_10 wd_1071) rfl rfl rfl dv_Mo_take ⟨Nat.le_of_ble_eq_true rfl, Nat.le_of_ble_eq_true rfl⟩) (Y_pv_0 hK hP hD) rfl rfl hl.1 rfl (lv_room (Nat.le_of_ble_eq_true rfl)) d_Mo_parameters_27 ⟨Nat.le_of_ble_eq_true rfl, Nat.le_of_ble_eq_true rfl⟩) hS (fun H locs hP hD hS => ?_)
      refine lv_if_eq (tgt := 50) hx hb d_Mo_parameters_30 (by decide) (fun c_30 => ?_) (fun c_30 => ?_)
      · replace h := itp c_30 h
        refine lv_aload_n hx hb d_Mo_parameters_50 rfl (lv_at hl 0 rfl) ?_
        refine lv_bipush (v := 41) hx hb d_Mo_parameters_51 (by decide) ?_
        obtain ⟨σ_53, e_53, h⟩ := bd1_some h
        refine Y_callv (va_runV (As := [.int 41]) (rest := []) ⟨hx, hb, hml, hown, hts⟩ (c_Mo_need l K A e_53) (cwV 1 hts (gd_V wd_1064 wd_1066 wp_48 wd_10 wd_1067) rfl rfl rfl dv_Mo_need ⟨Nat.le_of_ble_eq_true rfl, Nat.le_of_ble_eq_true rfl⟩) (Y_pv_0 hK hP hD) rfl rfl hl.1 rfl (lv_room (Nat.le_of_ble_eq_true rfl)) d_Mo_parameters_53 ⟨Nat.le_of_ble_eq_true rfl, Nat.le_of_ble_eq_true rfl⟩) hS (fun H locs hP hD hS => ?_)
        exact hRet _ h _ _ hP hD hS _ _ d_Mo_parameters_56
      · replace h := itf c_30 h
        refine lv_aload_n hx hb d_Mo_parameters_33 rfl (lv_at hl 0 rfl) ?_
        refine lv_iload_n hx hb d_Mo_parameters_34 rfl (lv_at hl 1 rfl) ?_
        refine lv_iload_n hx hb d_Mo_parameters_35 rfl (lv_at hl 2 rfl) ?_
        obtain ⟨σ_36, e_36, h⟩ := bd1_some h
        refine Y_callv (va_runV (As := [.int x1, .int x2]) (rest := []) ⟨hx, hb, hml, hown, hts⟩ (c_Mo_typeWord l K A e_36) (cwV 2 hts (gd_V wd_1084 wd_1086 wp_53 wd_10 wd_1087) rfl rfl rfl dv_Mo_typeWord ⟨Nat.le_of_ble_eq_true rfl, Nat.le_of_ble_eq_true rfl⟩) (Y_pv_0 hK hP hD) rfl rfl hl.1 rfl (lv_room (Nat.le_of_ble_eq_true rfl)) d_Mo_parameters_36 ⟨Nat.le_of_ble_eq_true rfl, Nat.le_of_ble_eq_true rfl⟩) hS (fun H locs hP hD hS => ?_)
        refine lv_aload_n hx hb d_Mo_parameters_39 rfl (lv_at hl 0 rfl) ?_
        refine lv_bipush (v := 7) hx hb d_Mo_parameters_40 (by decide) ?_
        refine lv_iload_n hx hb d_Mo_parameters_42 rfl (lv_at hl 1 rfl) ?_
        refine lv_iload_n hx hb d_Mo_parameters_43 rfl (lv_at hl 2 rfl) ?_
        obtain ⟨σ_44, e_44, h⟩ := bd1_some h
        refine Y_callv (va_runV (As := [.int 7, .int x1, .int x2]) (rest := []) ⟨hx, hb, hml, hown, hts⟩ (c_Mo_name l K A e_44) (cwV 3 hts (gd_V wd_1076 wd_1078 wp_51 wd_10 wd_1079) rfl rfl rfl dv_Mo_name ⟨Nat.le_of_ble_eq_true rfl, Nat.le_of_ble_eq_true rfl⟩) (Y_pv_0 hK hP hD) rfl rfl hl.1 rfl (lv_room (Nat.le_of_ble_eq_true rfl)) d_Mo_parameters_44 ⟨Nat.le_of_ble_eq_true rfl, Nat.le_of_ble_eq_true rfl⟩) hS (fun H locs hP hD hS => ?_)
        refine lv_goto (tgt := 24) hx hb d_Mo_parameters_47 (by decide) ?_
        exact ih _ h _ _ hP hD hS ls (lv_sub hl [0, 1, 2] rfl)
  refine lv_aload_n hx hb d_Mo_parameters_0 rfl (lv_at hl 0 rfl) ?_
  refine lv_bipush (v := 41) hx hb d_Mo_parameters_1 (by decide) ?_
  obtain ⟨v_3, σ_3, e_3, h⟩ := bd2_some h
  refine Y_calli (va_runV (As := [.int 41]) (rest := []) ⟨hx, hb, hml, hown, hts⟩ (c_Mo_take l K A e_3) (cwV 1 hts (gd_V wd_1068 wd_1070 wp_49 wd_10 wd_1071) rfl rfl rfl dv_Mo_take ⟨Nat.le_of_ble_eq_true rfl, Nat.le_of_ble_eq_true rfl⟩) (Y_pv_0 hK hP hD) rfl rfl hl.1 rfl (lv_room (Nat.le_of_ble_eq_true rfl)) d_Mo_parameters_3 ⟨Nat.le_of_ble_eq_true rfl, Nat.le_of_ble_eq_true rfl⟩) hS (fun H locs hP hD hS => ?_)
  refine lv_if_eq (tgt := 10) hx hb d_Mo_parameters_6 (by decide) (fun c_6 => ?_) (fun c_6 => ?_)
  · replace h := itp c_6 h
    refine lv_aload_n hx hb d_Mo_parameters_10 rfl (lv_at hl 0 rfl) ?_
    refine lv_iload_n hx hb d_Mo_parameters_11 rfl (lv_at hl 1 rfl) ?_
    refine lv_iload_n hx hb d_Mo_parameters_12 rfl (lv_at hl 2 rfl) ?_
    obtain ⟨σ_13, e_13, h⟩ := bd1_some h
    refine Y_callv (va_runV (As := [.int x1, .int x2]) (rest := []) ⟨hx, hb, hml, hown, hts⟩ (c_Mo_typeWord l K A e_13) (cwV 2 hts (gd_V wd_1084 wd_1086 wp_53 wd_10 wd_1087) rfl rfl rfl dv_Mo_typeWord ⟨Nat.le_of_ble_eq_true rfl, Nat.le_of_ble_eq_true rfl⟩) (Y_pv_0 hK hP hD) rfl rfl hl.1 rfl (lv_room (Nat.le_of_ble_eq_true rfl)) d_Mo_parameters_13 ⟨Nat.le_of_ble_eq_true rfl, Nat.le_of_ble_eq_true rfl⟩) hS (fun H locs hP hD hS => ?_)
    refine lv_aload_n hx hb d_Mo_parameters_16 rfl (lv_at hl 0 rfl) ?_
    refine lv_bipush (v := 7) hx hb d_Mo_parameters_17 (by decide) ?_
    refine lv_iload_n hx hb d_Mo_parameters_19 rfl (lv_at hl 1 rfl) ?_
    refine lv_iload_n hx hb d_Mo_parameters_20 rfl (lv_at hl 2 rfl) ?_
    obtain ⟨σ_21, e_21, h⟩ := bd1_some h
    refine Y_callv (va_runV (As := [.int 7, .int x1, .int x2]) (rest := []) ⟨hx, hb, hml, hown, hts⟩ (c_Mo_name l K A e_21) (cwV 3 hts (gd_V wd_1076 wd_1078 wp_51 wd_10 wd_1079) rfl rfl rfl dv_Mo_name ⟨Nat.le_of_ble_eq_true rfl, Nat.le_of_ble_eq_true rfl⟩) (Y_pv_0 hK hP hD) rfl rfl hl.1 rfl (lv_room (Nat.le_of_ble_eq_true rfl)) d_Mo_parameters_21 ⟨Nat.le_of_ble_eq_true rfl, Nat.le_of_ble_eq_true rfl⟩) hS (fun H locs hP hD hS => ?_)
    exact L_24  FU _ h _ _ hP hD hS ls (lv_sub hl [0, 1, 2] rfl)
  · replace h := itf c_6 h
    exact hRet _ h _ _ hP hD hS _ _ d_Mo_parameters_9
def p_Mo_readMember_L80 (x1 : Int32) : Nat → Sto → Int32 → Option Sto
  | 0, _, _ => none
  | n + 1, σ, x2 =>
    (if (σ.1 5) = 0 then
        bd1 (p_Mo_is σ 125) fun v_90 =>
        (if v_90 = 0 then
          bd1 (p_Mo_statement σ x1 x2) fun σ_99 =>
          p_Mo_readMember_L80 x1 n σ_99 x2
        else
          bd1 (p_Mo_need σ 125) fun σ_108 =>
          some σ_108)
      else
        bd1 (p_Mo_need σ 125) fun σ_108 =>
        some σ_108)
def p_Mo_readMember (σ : Sto) (x1 : Int32) : Option Sto :=
  bd1 (p_Mo_typeWord σ x1 (-1)) fun σ_3 =>
    bd1 (p_Mo_name σ_3 5 x1 (-1)) fun σ_15 =>
    (if (σ_15.1 5) = 0 then
      bd2 (p_Mo_take σ_15 59) fun v_28 σ_28 =>
      (if v_28 = 0 then
        bd1 (p_Mo_is σ_28 40) fun v_38 =>
        (if v_38 = 0 then
          some (sS σ_28 5 1)
        else
          if inR (σ_3.1 4) 124 then bd1 (p_Mo_parameters (sS (sA σ_28 7 ((σ_3.1 4).toNatClampNeg) 6) 4 (((sA σ_28 7 ((σ_3.1 4).toNatClampNeg) 6).1 4) + 1)) x1 (σ_3.1 4)) fun σ_71 =>
          bd1 (p_Mo_need σ_71 123) fun σ_77 =>
          p_Mo_readMember_L80 x1 FU σ_77 (σ_3.1 4) else none)
      else
        some σ_28)
    else
      some σ_15)
abbrev w_Mo_readMember : List Cond := Cond.code y_Mo_readMember b_Mo_readMember 3 none :: Tg
abbrev r_Mo_readMember : Room := { frames := 6, cells := 0, slots := 0, locals := 136 }
theorem dv_Mo_readMember : y_Mo_readMember.cls = "LanguageServerModel" ∧ y_Mo_readMember.cls ≠ "java/lang/invoke/MethodHandle" ∧ y_Mo_readMember.cls ≠ "java/lang/invoke/VarHandle" ∧ (parseMethodDescriptor y_Mo_readMember.desc).map (fun d => d.parameters.length) = some 1 := by decide +kernel
set_option maxHeartbeats 4000000 in
set_option maxRecDepth 100000 in
theorem c_Mo_readMember (l : Launch) (K : Kst) (A : Nat → Nat) {σ : Sto} {x1 : Int32} {ss : Sto} (h : p_Mo_readMember σ x1 = some ss) : Met l y_Mo_readMember w_Mo_readMember r_Mo_readMember (va_Pc [.ref (A 0), .int x1] (YB K A σ)) (YQv K A ss) 0 0 (YF A) := by
  refine Met.ofW (cc := b_Mo_readMember) (maxL := 3) (ret := none) (by decide) rfl ?_
  intro p e s m args below meth c s₁ B hml hv
  obtain ⟨rfl, hP, hK, hD⟩ := hv
  have hx := B.exec
  have hb := B.bytes
  have hr := B.returns
  have hts := atoms_spec (ws := w_Mo_readMember) B.pre
  have hg : ∀ w ∈ Tg, w.before _ s = true := fun w q => hts w (List.mem_cons_of_mem _ q)
  have hown : s.vm.findClass "LanguageServerModel" = some m.cls := findClass_of_methodNamed B.named
  have hlocks := B.notSynchronized
  have hS : va_S (YF A) s.heap s.heap [] := va_S.rf
  have hl := lv_entry ([.ref (A 0), .int x1]) (n := 3) (Nat.le_of_ble_eq_true rfl)
  rw [lg_entry_eq]
  generalize (lg_sl ([.ref (A 0), .int x1]) ++ List.replicate (3 - (lg_sl ([.ref (A 0), .int x1])).length) Slot.unset).toArray = ls at hl ⊢
  have hl : lv_has ls 3 [(0, .ref (A 0)), (1, .int x1)] := hl
  generalize hargs : ([.ref (A 0), .int x1] : List Value).toArray = args at hg hts ⊢
  obtain ⟨Q, hQ⟩ : ∃ Q, Q = MQ below (YQv K A ss) args s 0 0 (YF A) := ⟨_, rfl⟩
  rw [← hQ]
  have hRet : ∀ (σ : Sto), some σ = some ss → ∀ (H : Heap) (locs : List Loc), va_P K.1 vwCl (wY K A σ) H → va_D (YF A) (wY K A σ) → va_S (YF A) s.heap H locs → ∀ (pc : Nat) (ls : Array Slot), decode b_Mo_readMember pc = .ok (.return_, 1) → W p l e (headSpec w_Mo_readMember r_Mo_readMember).room s m args below meth c H locs 0 0 Q (F0 m pc ls []) := by
    intro σ h H locs hP hD hS pc ls hd
    cases h
    subst hQ
    exact W.vret hx hb hr (fun t ht hW => ⟨⟨(), rfl, trivial, by rw [ht]; exact hP, RK.warm hW hK, hD⟩, hS.F ht⟩) hS.2.2 hd
  clear hQ
  unfold p_Mo_readMember at h
  have L_80 : ∀ (n : Nat) (σ : Sto) (x2 : Int32), p_Mo_readMember_L80 x1 n σ x2 = some ss → ∀ (H : Heap) (locs : List Loc), va_P K.1 vwCl (wY K A σ) H → va_D (YF A) (wY K A σ) → va_S (YF A) s.heap H locs → ∀ ls : Array Slot, lv_has ls 3 [(0, .ref (A 0)), (1, .int x1), (2, .int x2)] → W p l e (headSpec w_Mo_readMember r_Mo_readMember).room s m args below meth c H locs 0 0 Q (F0 m 80 ls []) := by
    intro n
    induction n with
    | zero => intro _ _ h; cases h
    | succ n ih =>
      intro σ x2 h H locs hP hD hS ls hl
      rw [p_Mo_readMember_L80] at h
      refine lv_aload_n hx hb d_Mo_readMember_80 rfl (lv_at hl 0 rfl) ?_
      refine gf_Mo_131 hx hb hg hown hK hP d_Mo_readMember_81 ?_
      refine lv_if_ne (tgt := 105) hx hb d_Mo_readMember_84 (by decide) (fun c_84 => ?_) (fun c_84 => ?_)
      · replace h := itf c_84 h
        refine lv_aload_n hx hb d_Mo_readMember_105 rfl (lv_at hl 0 rfl) ?_
        refine lv_bipush (v := 125) hx hb d_Mo_readMember_106 (by decide) ?_
        obtain ⟨σ_108, e_108, h⟩ := bd1_some h
        refine Y_callv (va_runV (As := [.int 125]) (rest := []) ⟨hx, hb, hml, hown, hts⟩ (c_Mo_need l K A e_108) (cwV 1 hts (gd_V wd_1064 wd_1066 wp_48 wd_10 wd_1067) rfl rfl rfl dv_Mo_need ⟨Nat.le_of_ble_eq_true rfl, Nat.le_of_ble_eq_true rfl⟩) (Y_pv_0 hK hP hD) rfl rfl hl.1 rfl (lv_room (Nat.le_of_ble_eq_true rfl)) d_Mo_readMember_108 ⟨Nat.le_of_ble_eq_true rfl, Nat.le_of_ble_eq_true rfl⟩) hS (fun H locs hP hD hS => ?_)
        exact hRet _ h _ _ hP hD hS _ _ d_Mo_readMember_111
      · replace h := itp c_84 h
        refine lv_aload_n hx hb d_Mo_readMember_87 rfl (lv_at hl 0 rfl) ?_
        refine lv_bipush (v := 125) hx hb d_Mo_readMember_88 (by decide) ?_
        obtain ⟨v_90, e_90, h⟩ := bd1_some h
        refine Y_calli (va_runV (As := [.int 125]) (rest := []) ⟨hx, hb, hml, hown, hts⟩ (c_Mo_is l K A e_90) (cwV 1 hts (gd_V wd_1072 wd_1074 wp_50 wd_10 wd_1075) rfl rfl rfl dv_Mo_is ⟨Nat.le_of_ble_eq_true rfl, Nat.le_of_ble_eq_true rfl⟩) (Y_pv_0 hK hP hD) rfl rfl hl.1 rfl (lv_room (Nat.le_of_ble_eq_true rfl)) d_Mo_readMember_90 ⟨Nat.le_of_ble_eq_true rfl, Nat.le_of_ble_eq_true rfl⟩) hS (fun H locs hP hD hS => ?_)
        refine lv_if_ne (tgt := 105) hx hb d_Mo_readMember_93 (by decide) (fun c_93 => ?_) (fun c_93 => ?_)
        · replace h := itf c_93 h
          refine lv_aload_n hx hb d_Mo_readMember_105 rfl (lv_at hl 0 rfl) ?_
          refine lv_bipush (v := 125) hx hb d_Mo_readMember_106 (by decide) ?_
          obtain ⟨σ_108, e_108, h⟩ := bd1_some h
          refine Y_callv (va_runV (As := [.int 125]) (rest := []) ⟨hx, hb, hml, hown, hts⟩ (c_Mo_need l K A e_108) (cwV 1 hts (gd_V wd_1064 wd_1066 wp_48 wd_10 wd_1067) rfl rfl rfl dv_Mo_need ⟨Nat.le_of_ble_eq_true rfl, Nat.le_of_ble_eq_true rfl⟩) (Y_pv_0 hK hP hD) rfl rfl hl.1 rfl (lv_room (Nat.le_of_ble_eq_true rfl)) d_Mo_readMember_108 ⟨Nat.le_of_ble_eq_true rfl, Nat.le_of_ble_eq_true rfl⟩) hS (fun H locs hP hD hS => ?_)
          exact hRet _ h _ _ hP hD hS _ _ d_Mo_readMember_111
        · replace h := itp c_93 h
          refine lv_aload_n hx hb d_Mo_readMember_96 rfl (lv_at hl 0 rfl) ?_
          refine lv_iload_n hx hb d_Mo_readMember_97 rfl (lv_at hl 1 rfl) ?_
          refine lv_iload_n hx hb d_Mo_readMember_98 rfl (lv_at hl 2 rfl) ?_
          obtain ⟨σ_99, e_99, h⟩ := bd1_some h
          refine Y_callv (va_runV (As := [.int x1, .int x2]) (rest := []) ⟨hx, hb, hml, hown, hts⟩ (c_Mo_statement l K A e_99) (cwV 2 hts (gd_V wd_1092 wd_1094 wp_55 wd_10 wd_1095) rfl rfl rfl dv_Mo_statement ⟨Nat.le_of_ble_eq_true rfl, Nat.le_of_ble_eq_true rfl⟩) (Y_pv_0 hK hP hD) rfl rfl hl.1 rfl (lv_room (Nat.le_of_ble_eq_true rfl)) d_Mo_readMember_99 ⟨Nat.le_of_ble_eq_true rfl, Nat.le_of_ble_eq_true rfl⟩) hS (fun H locs hP hD hS => ?_)
          refine lv_goto (tgt := 80) hx hb d_Mo_readMember_102 (by decide) ?_
          exact ih _ _ h _ _ hP hD hS ls (lv_sub hl [0, 1, 2] rfl)
  refine lv_aload_n hx hb d_Mo_readMember_0 rfl (lv_at hl 0 rfl) ?_
  refine lv_iload_n hx hb d_Mo_readMember_1 rfl (lv_at hl 1 rfl) ?_
  refine lv_iconst (v := (-1)) hx hb d_Mo_readMember_2 (by decide) ?_
  obtain ⟨σ_3, e_3, h⟩ := bd1_some h
  refine Y_callv (va_runV (As := [.int x1, .int (-1)]) (rest := []) ⟨hx, hb, hml, hown, hts⟩ (c_Mo_typeWord l K A e_3) (cwV 2 hts (gd_V wd_1084 wd_1086 wp_53 wd_10 wd_1087) rfl rfl rfl dv_Mo_typeWord ⟨Nat.le_of_ble_eq_true rfl, Nat.le_of_ble_eq_true rfl⟩) (Y_pv_0 hK hP hD) rfl rfl hl.1 rfl (lv_room (Nat.le_of_ble_eq_true rfl)) d_Mo_readMember_3 ⟨Nat.le_of_ble_eq_true rfl, Nat.le_of_ble_eq_true rfl⟩) hS (fun H locs hP hD hS => ?_)
  refine lv_aload_n hx hb d_Mo_readMember_6 rfl (lv_at hl 0 rfl) ?_
  refine gf_Mo_135 hx hb hg hown hK hP d_Mo_readMember_7 ?_
  refine lv_istore_n (lv' := [(2, .int (σ_3.1 4)), (0, .ref (A 0)), (1, .int x1)]) hx hb d_Mo_readMember_10 rfl hl (by decide) rfl (fun ls hl => ?_)
  refine lv_aload_n hx hb d_Mo_readMember_11 rfl (lv_at hl 1 rfl) ?_
  refine lv_iconst (v := 5) hx hb d_Mo_readMember_12 (by decide) ?_
  refine lv_iload_n hx hb d_Mo_readMember_13 rfl (lv_at hl 2 rfl) ?_
  refine lv_iconst (v := (-1)) hx hb d_Mo_readMember_14 (by decide) ?_
  obtain ⟨σ_15, e_15, h⟩ := bd1_some h
  refine Y_callv (va_runV (As := [.int 5, .int x1, .int (-1)]) (rest := []) ⟨hx, hb, hml, hown, hts⟩ (c_Mo_name l K A e_15) (cwV 3 hts (gd_V wd_1076 wd_1078 wp_51 wd_10 wd_1079) rfl rfl rfl dv_Mo_name ⟨Nat.le_of_ble_eq_true rfl, Nat.le_of_ble_eq_true rfl⟩) (Y_pv_0 hK hP hD) rfl rfl hl.1 rfl (lv_room (Nat.le_of_ble_eq_true rfl)) d_Mo_readMember_15 ⟨Nat.le_of_ble_eq_true rfl, Nat.le_of_ble_eq_true rfl⟩) hS (fun H locs hP hD hS => ?_)
  refine lv_aload_n hx hb d_Mo_readMember_18 rfl (lv_at hl 1 rfl) ?_
  refine gf_Mo_131 hx hb hg hown hK hP d_Mo_readMember_19 ?_
  refine lv_if_ne (tgt := 34) hx hb d_Mo_readMember_22 (by decide) (fun c_22 => ?_) (fun c_22 => ?_)
  · replace h := itf c_22 h
    exact hRet _ h _ _ hP hD hS _ _ d_Mo_readMember_34
  · replace h := itp c_22 h
    refine lv_aload_n hx hb d_Mo_readMember_25 rfl (lv_at hl 1 rfl) ?_
    refine lv_bipush (v := 59) hx hb d_Mo_readMember_26 (by decide) ?_
    obtain ⟨v_28, σ_28, e_28, h⟩ := bd2_some h
    refine Y_calli (va_runV (As := [.int 59]) (rest := []) ⟨hx, hb, hml, hown, hts⟩ (c_Mo_take l K A e_28) (cwV 1 hts (gd_V wd_1068 wd_1070 wp_49 wd_10 wd_1071) rfl rfl rfl dv_Mo_take ⟨Nat.le_of_ble_eq_true rfl, Nat.le_of_ble_eq_true rfl⟩) (Y_pv_0 hK hP hD) rfl rfl hl.1 rfl (lv_room (Nat.le_of_ble_eq_true rfl)) d_Mo_readMember_28 ⟨Nat.le_of_ble_eq_true rfl, Nat.le_of_ble_eq_true rfl⟩) hS (fun H locs hP hD hS => ?_)
    refine lv_if_eq (tgt := 35) hx hb d_Mo_readMember_31 (by decide) (fun c_31 => ?_) (fun c_31 => ?_)
    · replace h := itp c_31 h
      refine lv_aload_n hx hb d_Mo_readMember_35 rfl (lv_at hl 1 rfl) ?_
      refine lv_bipush (v := 40) hx hb d_Mo_readMember_36 (by decide) ?_
      obtain ⟨v_38, e_38, h⟩ := bd1_some h
      refine Y_calli (va_runV (As := [.int 40]) (rest := []) ⟨hx, hb, hml, hown, hts⟩ (c_Mo_is l K A e_38) (cwV 1 hts (gd_V wd_1072 wd_1074 wp_50 wd_10 wd_1075) rfl rfl rfl dv_Mo_is ⟨Nat.le_of_ble_eq_true rfl, Nat.le_of_ble_eq_true rfl⟩) (Y_pv_0 hK hP hD) rfl rfl hl.1 rfl (lv_room (Nat.le_of_ble_eq_true rfl)) d_Mo_readMember_38 ⟨Nat.le_of_ble_eq_true rfl, Nat.le_of_ble_eq_true rfl⟩) hS (fun H locs hP hD hS => ?_)
      refine lv_if_ne (tgt := 50) hx hb d_Mo_readMember_41 (by decide) (fun c_41 => ?_) (fun c_41 => ?_)
      · replace h := itf c_41 h
        refine lv_aload_n hx hb d_Mo_readMember_50 rfl (lv_at hl 1 rfl) ?_
        refine gf_Mo_29 hx hb hg hown hK hP d_Mo_readMember_51 ?_
        refine lv_iload_n hx hb d_Mo_readMember_54 rfl (lv_at hl 0 rfl) ?_
        refine lv_bipush (v := 6) hx hb d_Mo_readMember_55 (by decide) ?_
        obtain ⟨i_57, h⟩ := itn h
        refine Ywa_7 hx hb hK hP hD hS i_57 d_Mo_readMember_57 (fun H locs hP hD hS => ?_)
        refine lv_aload_n hx hb d_Mo_readMember_58 rfl (lv_at hl 1 rfl) ?_
        refine lv_dup hx hb d_Mo_readMember_59 rfl ?_
        refine gf_Mo_135 hx hb hg hown hK hP d_Mo_readMember_60 ?_
        refine lv_iconst (v := 1) hx hb d_Mo_readMember_63 (by decide) ?_
        refine lv_iadd hx hb d_Mo_readMember_64 ?_
        refine pf_Mo_135 hx hb hg hown hK hP hD hS d_Mo_readMember_65 (fun H locs hP hD hS => ?_)
        refine lv_aload_n hx hb d_Mo_readMember_68 rfl (lv_at hl 1 rfl) ?_
        refine lv_iload_n hx hb d_Mo_readMember_69 rfl (lv_at hl 2 rfl) ?_
        refine lv_iload_n hx hb d_Mo_readMember_70 rfl (lv_at hl 0 rfl) ?_
        obtain ⟨σ_71, e_71, h⟩ := bd1_some h
        refine Y_callv (va_runV (As := [.int x1, .int (σ_3.1 4)]) (rest := []) ⟨hx, hb, hml, hown, hts⟩ (c_Mo_parameters l K A e_71) (cwV 2 hts (gd_V wd_1088 wd_1090 wp_54 wd_10 wd_1091) rfl rfl rfl dv_Mo_parameters ⟨Nat.le_of_ble_eq_true rfl, Nat.le_of_ble_eq_true rfl⟩) (Y_pv_0 hK hP hD) rfl rfl hl.1 rfl (lv_room (Nat.le_of_ble_eq_true rfl)) d_Mo_readMember_71 ⟨Nat.le_of_ble_eq_true rfl, Nat.le_of_ble_eq_true rfl⟩) hS (fun H locs hP hD hS => ?_)
        refine lv_aload_n hx hb d_Mo_readMember_74 rfl (lv_at hl 1 rfl) ?_
        refine lv_bipush (v := 123) hx hb d_Mo_readMember_75 (by decide) ?_
        obtain ⟨σ_77, e_77, h⟩ := bd1_some h
        refine Y_callv (va_runV (As := [.int 123]) (rest := []) ⟨hx, hb, hml, hown, hts⟩ (c_Mo_need l K A e_77) (cwV 1 hts (gd_V wd_1064 wd_1066 wp_48 wd_10 wd_1067) rfl rfl rfl dv_Mo_need ⟨Nat.le_of_ble_eq_true rfl, Nat.le_of_ble_eq_true rfl⟩) (Y_pv_0 hK hP hD) rfl rfl hl.1 rfl (lv_room (Nat.le_of_ble_eq_true rfl)) d_Mo_readMember_77 ⟨Nat.le_of_ble_eq_true rfl, Nat.le_of_ble_eq_true rfl⟩) hS (fun H locs hP hD hS => ?_)
        exact L_80  FU _ _ h _ _ hP hD hS ls (lv_sub hl [1, 2, 0] rfl)
      · replace h := itp c_41 h
        refine lv_aload_n hx hb d_Mo_readMember_44 rfl (lv_at hl 1 rfl) ?_
        refine lv_iconst (v := 1) hx hb d_Mo_readMember_45 (by decide) ?_
        refine pf_Mo_131 hx hb hg hown hK hP hD hS d_Mo_readMember_46 rfl rfl (fun H locs hP hD hS => ?_)
        exact hRet _ h _ _ hP hD hS _ _ d_Mo_readMember_49
    · replace h := itf c_31 h
      exact hRet _ h _ _ hP hD hS _ _ d_Mo_readMember_34
def p_Mo_file_L99 (k5 : Sto → Option Sto) : Nat → Sto → Option Sto
  | 0, _ => none
  | n + 1, σ =>
    (if (σ.1 5) = 0 then
        bd1 (p_Mo_is σ 125) fun v_109 =>
        (if v_109 = 0 then
          bd1 (p_Mo_readMember σ (σ.1 6)) fun σ_120 =>
          p_Mo_file_L99 k5 n σ_120
        else
          bd1 (p_Mo_need σ 125) fun σ_129 =>
          k5 (sS σ_129 6 ((σ_129.1 6) + 1)))
      else
        bd1 (p_Mo_need σ 125) fun σ_129 =>
        k5 (sS σ_129 6 ((σ_129.1 6) + 1)))
def p_Mo_file_L5 : Nat → Sto → Option Sto
  | 0, _ => none
  | n + 1, σ =>
    (if (σ.1 5) = 0 then
        if inR (σ.1 4) 124 then (if (σ.2.1 3 ((σ.1 4).toNatClampNeg)) = 0 then
          some σ
        else
          bd1 (p_Mo_need σ 4) fun σ_26 =>
          if inR (σ_26.1 6) 40 then bd1 (p_Mo_name (sA σ_26 11 ((σ_26.1 6).toNatClampNeg) (σ_26.1 4)) 1 ((sA σ_26 11 ((σ_26.1 6).toNatClampNeg) (σ_26.1 4)).1 6) (-1)) fun σ_49 =>
          if inR (σ_49.1 6) 40 then bd2 (p_Mo_take (sA σ_49 12 ((σ_49.1 6).toNatClampNeg) (-1)) 5) fun v_64 σ_64 =>
          (if v_64 = 0 then
            bd1 (p_Mo_need σ_64 123) fun σ_96 =>
            p_Mo_file_L99 (p_Mo_file_L5 n) FU σ_96
          else
            if inR (σ_64.1 6) 40 then bd1 (p_Mo_name (sA σ_64 12 ((σ_64.1 6).toNatClampNeg) (σ_64.1 4)) 3 ((sA σ_64 12 ((σ_64.1 6).toNatClampNeg) (σ_64.1 4)).1 6) (-1)) fun σ_90 =>
            bd1 (p_Mo_need σ_90 123) fun σ_96 =>
            p_Mo_file_L99 (p_Mo_file_L5 n) FU σ_96 else none) else none else none) else none
      else
        some σ)
def p_Mo_file (σ : Sto) : Option Sto :=
  p_Mo_file_L5 FU (sS σ 6 0)
abbrev w_Mo_file : List Cond := Cond.code y_Mo_file b_Mo_file 1 none :: Tg
abbrev r_Mo_file : Room := { frames := 7, cells := 0, slots := 0, locals := 158 }
theorem dv_Mo_file : y_Mo_file.cls = "LanguageServerModel" ∧ y_Mo_file.cls ≠ "java/lang/invoke/MethodHandle" ∧ y_Mo_file.cls ≠ "java/lang/invoke/VarHandle" ∧ (parseMethodDescriptor y_Mo_file.desc).map (fun d => d.parameters.length) = some 0 := by decide +kernel
set_option maxHeartbeats 4000000 in
set_option maxRecDepth 100000 in
theorem c_Mo_file (l : Launch) (K : Kst) (A : Nat → Nat) {σ : Sto} {ss : Sto} (h : p_Mo_file σ = some ss) : Met l y_Mo_file w_Mo_file r_Mo_file (va_Pc [.ref (A 0)] (YB K A σ)) (YQv K A ss) 0 0 (YF A) := by
  refine Met.ofW (cc := b_Mo_file) (maxL := 1) (ret := none) (by decide) rfl ?_
  intro p e s m args below meth c s₁ B hml hv
  obtain ⟨rfl, hP, hK, hD⟩ := hv
  have hx := B.exec
  have hb := B.bytes
  have hr := B.returns
  have hts := atoms_spec (ws := w_Mo_file) B.pre
  have hg : ∀ w ∈ Tg, w.before _ s = true := fun w q => hts w (List.mem_cons_of_mem _ q)
  have hown : s.vm.findClass "LanguageServerModel" = some m.cls := findClass_of_methodNamed B.named
  have hlocks := B.notSynchronized
  have hS : va_S (YF A) s.heap s.heap [] := va_S.rf
  have hl := lv_entry ([.ref (A 0)]) (n := 1) (Nat.le_of_ble_eq_true rfl)
  rw [lg_entry_eq]
  generalize (lg_sl ([.ref (A 0)]) ++ List.replicate (1 - (lg_sl ([.ref (A 0)])).length) Slot.unset).toArray = ls at hl ⊢
  have hl : lv_has ls 1 [(0, .ref (A 0))] := hl
  generalize hargs : ([.ref (A 0)] : List Value).toArray = args at hg hts ⊢
  obtain ⟨Q, hQ⟩ : ∃ Q, Q = MQ below (YQv K A ss) args s 0 0 (YF A) := ⟨_, rfl⟩
  rw [← hQ]
  have hRet : ∀ (σ : Sto), some σ = some ss → ∀ (H : Heap) (locs : List Loc), va_P K.1 vwCl (wY K A σ) H → va_D (YF A) (wY K A σ) → va_S (YF A) s.heap H locs → ∀ (pc : Nat) (ls : Array Slot), decode b_Mo_file pc = .ok (.return_, 1) → W p l e (headSpec w_Mo_file r_Mo_file).room s m args below meth c H locs 0 0 Q (F0 m pc ls []) := by
    intro σ h H locs hP hD hS pc ls hd
    cases h
    subst hQ
    exact W.vret hx hb hr (fun t ht hW => ⟨⟨(), rfl, trivial, by rw [ht]; exact hP, RK.warm hW hK, hD⟩, hS.F ht⟩) hS.2.2 hd
  clear hQ
  unfold p_Mo_file at h
  have L_99 : ∀ (k5 : Sto → Option Sto) (hk5 : ∀ (σ : Sto), k5 σ = some ss → ∀ (H : Heap) (locs : List Loc), va_P K.1 vwCl (wY K A σ) H → va_D (YF A) (wY K A σ) → va_S (YF A) s.heap H locs → ∀ ls : Array Slot, lv_has ls 1 [(0, .ref (A 0))] → W p l e (headSpec w_Mo_file r_Mo_file).room s m args below meth c H locs 0 0 Q (F0 m 5 ls [])) (n : Nat) (σ : Sto), p_Mo_file_L99 k5 n σ = some ss → ∀ (H : Heap) (locs : List Loc), va_P K.1 vwCl (wY K A σ) H → va_D (YF A) (wY K A σ) → va_S (YF A) s.heap H locs → ∀ ls : Array Slot, lv_has ls 1 [(0, .ref (A 0))] → W p l e (headSpec w_Mo_file r_Mo_file).room s m args below meth c H locs 0 0 Q (F0 m 99 ls []) := by
    intro k5 hk5
    intro n
    induction n with
    | zero => intro _ h; cases h
    | succ n ih =>
      intro σ h H locs hP hD hS ls hl
      rw [p_Mo_file_L99] at h
      refine lv_aload_n hx hb d_Mo_file_99 rfl (lv_at hl 0 rfl) ?_
      refine gf_Mo_131 hx hb hg hown hK hP d_Mo_file_100 ?_
      refine lv_if_ne (tgt := 126) hx hb d_Mo_file_103 (by decide) (fun c_103 => ?_) (fun c_103 => ?_)
      · replace h := itf c_103 h
        refine lv_aload_n hx hb d_Mo_file_126 rfl (lv_at hl 0 rfl) ?_
        refine lv_bipush (v := 125) hx hb d_Mo_file_127 (by decide) ?_
        obtain ⟨σ_129, e_129, h⟩ := bd1_some h
        refine Y_callv (va_runV (As := [.int 125]) (rest := []) ⟨hx, hb, hml, hown, hts⟩ (c_Mo_need l K A e_129) (cwV 1 hts (gd_V wd_1064 wd_1066 wp_48 wd_10 wd_1067) rfl rfl rfl dv_Mo_need ⟨Nat.le_of_ble_eq_true rfl, Nat.le_of_ble_eq_true rfl⟩) (Y_pv_0 hK hP hD) rfl rfl hl.1 rfl (lv_room (Nat.le_of_ble_eq_true rfl)) d_Mo_file_129 ⟨Nat.le_of_ble_eq_true rfl, Nat.le_of_ble_eq_true rfl⟩) hS (fun H locs hP hD hS => ?_)
        refine lv_aload_n hx hb d_Mo_file_132 rfl (lv_at hl 0 rfl) ?_
        refine lv_dup hx hb d_Mo_file_133 rfl ?_
        refine gf_Mo_180 hx hb hg hown hK hP d_Mo_file_134 ?_
        refine lv_iconst (v := 1) hx hb d_Mo_file_137 (by decide) ?_
        refine lv_iadd hx hb d_Mo_file_138 ?_
        refine pf_Mo_180 hx hb hg hown hK hP hD hS d_Mo_file_139 (fun H locs hP hD hS => ?_)
        refine lv_goto (tgt := 5) hx hb d_Mo_file_142 (by decide) ?_
        exact hk5 _ h _ _ hP hD hS ls (lv_sub hl [0] rfl)
      · replace h := itp c_103 h
        refine lv_aload_n hx hb d_Mo_file_106 rfl (lv_at hl 0 rfl) ?_
        refine lv_bipush (v := 125) hx hb d_Mo_file_107 (by decide) ?_
        obtain ⟨v_109, e_109, h⟩ := bd1_some h
        refine Y_calli (va_runV (As := [.int 125]) (rest := []) ⟨hx, hb, hml, hown, hts⟩ (c_Mo_is l K A e_109) (cwV 1 hts (gd_V wd_1072 wd_1074 wp_50 wd_10 wd_1075) rfl rfl rfl dv_Mo_is ⟨Nat.le_of_ble_eq_true rfl, Nat.le_of_ble_eq_true rfl⟩) (Y_pv_0 hK hP hD) rfl rfl hl.1 rfl (lv_room (Nat.le_of_ble_eq_true rfl)) d_Mo_file_109 ⟨Nat.le_of_ble_eq_true rfl, Nat.le_of_ble_eq_true rfl⟩) hS (fun H locs hP hD hS => ?_)
        refine lv_if_ne (tgt := 126) hx hb d_Mo_file_112 (by decide) (fun c_112 => ?_) (fun c_112 => ?_)
        · replace h := itf c_112 h
          refine lv_aload_n hx hb d_Mo_file_126 rfl (lv_at hl 0 rfl) ?_
          refine lv_bipush (v := 125) hx hb d_Mo_file_127 (by decide) ?_
          obtain ⟨σ_129, e_129, h⟩ := bd1_some h
          refine Y_callv (va_runV (As := [.int 125]) (rest := []) ⟨hx, hb, hml, hown, hts⟩ (c_Mo_need l K A e_129) (cwV 1 hts (gd_V wd_1064 wd_1066 wp_48 wd_10 wd_1067) rfl rfl rfl dv_Mo_need ⟨Nat.le_of_ble_eq_true rfl, Nat.le_of_ble_eq_true rfl⟩) (Y_pv_0 hK hP hD) rfl rfl hl.1 rfl (lv_room (Nat.le_of_ble_eq_true rfl)) d_Mo_file_129 ⟨Nat.le_of_ble_eq_true rfl, Nat.le_of_ble_eq_true rfl⟩) hS (fun H locs hP hD hS => ?_)
          refine lv_aload_n hx hb d_Mo_file_132 rfl (lv_at hl 0 rfl) ?_
          refine lv_dup hx hb d_Mo_file_133 rfl ?_
          refine gf_Mo_180 hx hb hg hown hK hP d_Mo_file_134 ?_
          refine lv_iconst (v := 1) hx hb d_Mo_file_137 (by decide) ?_
          refine lv_iadd hx hb d_Mo_file_138 ?_
          refine pf_Mo_180 hx hb hg hown hK hP hD hS d_Mo_file_139 (fun H locs hP hD hS => ?_)
          refine lv_goto (tgt := 5) hx hb d_Mo_file_142 (by decide) ?_
          exact hk5 _ h _ _ hP hD hS ls (lv_sub hl [0] rfl)
        · replace h := itp c_112 h
          refine lv_aload_n hx hb d_Mo_file_115 rfl (lv_at hl 0 rfl) ?_
          refine lv_aload_n hx hb d_Mo_file_116 rfl (lv_at hl 0 rfl) ?_
          refine gf_Mo_180 hx hb hg hown hK hP d_Mo_file_117 ?_
          obtain ⟨σ_120, e_120, h⟩ := bd1_some h
          refine Y_callv (va_runV (As := [.int (σ.1 6)]) (rest := []) ⟨hx, hb, hml, hown, hts⟩ (c_Mo_readMember l K A e_120) (cwV 1 hts (gd_V wd_1080 wd_1082 wp_52 wd_10 wd_1083) rfl rfl rfl dv_Mo_readMember ⟨Nat.le_of_ble_eq_true rfl, Nat.le_of_ble_eq_true rfl⟩) (Y_pv_0 hK hP hD) rfl rfl hl.1 rfl (lv_room (Nat.le_of_ble_eq_true rfl)) d_Mo_file_120 ⟨Nat.le_of_ble_eq_true rfl, Nat.le_of_ble_eq_true rfl⟩) hS (fun H locs hP hD hS => ?_)
          refine lv_goto (tgt := 99) hx hb d_Mo_file_123 (by decide) ?_
          exact ih _ h _ _ hP hD hS ls (lv_sub hl [0] rfl)
  have L_5 : ∀ (n : Nat) (σ : Sto), p_Mo_file_L5 n σ = some ss → ∀ (H : Heap) (locs : List Loc), va_P K.1 vwCl (wY K A σ) H → va_D (YF A) (wY K A σ) → va_S (YF A) s.heap H locs → ∀ ls : Array Slot, lv_has ls 1 [(0, .ref (A 0))] → W p l e (headSpec w_Mo_file r_Mo_file).room s m args below meth c H locs 0 0 Q (F0 m 5 ls []) := by
    intro n
    induction n with
    | zero => intro _ h; cases h
    | succ n ih =>
      intro σ h H locs hP hD hS ls hl
      rw [p_Mo_file_L5] at h
      refine lv_aload_n hx hb d_Mo_file_5 rfl (lv_at hl 0 rfl) ?_
      refine gf_Mo_131 hx hb hg hown hK hP d_Mo_file_6 ?_
      refine lv_if_ne (tgt := 145) hx hb d_Mo_file_9 (by decide) (fun c_9 => ?_) (fun c_9 => ?_)
      · replace h := itf c_9 h
        exact hRet _ h _ _ hP hD hS _ _ d_Mo_file_145
      · replace h := itp c_9 h
        refine lv_aload_n hx hb d_Mo_file_12 rfl (lv_at hl 0 rfl) ?_
        refine gf_Mo_16 hx hb hg hown hK hP d_Mo_file_13 ?_
        refine lv_aload_n hx hb d_Mo_file_16 rfl (lv_at hl 0 rfl) ?_
        refine gf_Mo_135 hx hb hg hown hK hP d_Mo_file_17 ?_
        obtain ⟨i_20, h⟩ := itn h
        refine Yra_3 hx hb hK hP i_20 d_Mo_file_20 ?_
        refine lv_if_eq (tgt := 145) hx hb d_Mo_file_21 (by decide) (fun c_21 => ?_) (fun c_21 => ?_)
        · replace h := itp c_21 h
          exact hRet _ h _ _ hP hD hS _ _ d_Mo_file_145
        · replace h := itf c_21 h
          refine lv_aload_n hx hb d_Mo_file_24 rfl (lv_at hl 0 rfl) ?_
          refine lv_iconst (v := 4) hx hb d_Mo_file_25 (by decide) ?_
          obtain ⟨σ_26, e_26, h⟩ := bd1_some h
          refine Y_callv (va_runV (As := [.int 4]) (rest := []) ⟨hx, hb, hml, hown, hts⟩ (c_Mo_need l K A e_26) (cwV 1 hts (gd_V wd_1064 wd_1066 wp_48 wd_10 wd_1067) rfl rfl rfl dv_Mo_need ⟨Nat.le_of_ble_eq_true rfl, Nat.le_of_ble_eq_true rfl⟩) (Y_pv_0 hK hP hD) rfl rfl hl.1 rfl (lv_room (Nat.le_of_ble_eq_true rfl)) d_Mo_file_26 ⟨Nat.le_of_ble_eq_true rfl, Nat.le_of_ble_eq_true rfl⟩) hS (fun H locs hP hD hS => ?_)
          refine lv_aload_n hx hb d_Mo_file_29 rfl (lv_at hl 0 rfl) ?_
          refine gf_Mo_41 hx hb hg hown hK hP d_Mo_file_30 ?_
          refine lv_aload_n hx hb d_Mo_file_33 rfl (lv_at hl 0 rfl) ?_
          refine gf_Mo_180 hx hb hg hown hK hP d_Mo_file_34 ?_
          refine lv_aload_n hx hb d_Mo_file_37 rfl (lv_at hl 0 rfl) ?_
          refine gf_Mo_135 hx hb hg hown hK hP d_Mo_file_38 ?_
          obtain ⟨i_41, h⟩ := itn h
          refine Ywa_11 hx hb hK hP hD hS i_41 d_Mo_file_41 (fun H locs hP hD hS => ?_)
          refine lv_aload_n hx hb d_Mo_file_42 rfl (lv_at hl 0 rfl) ?_
          refine lv_iconst (v := 1) hx hb d_Mo_file_43 (by decide) ?_
          refine lv_aload_n hx hb d_Mo_file_44 rfl (lv_at hl 0 rfl) ?_
          refine gf_Mo_180 hx hb hg hown hK hP d_Mo_file_45 ?_
          refine lv_iconst (v := (-1)) hx hb d_Mo_file_48 (by decide) ?_
          obtain ⟨σ_49, e_49, h⟩ := bd1_some h
          refine Y_callv (va_runV (As := [.int 1, .int ((sA σ_26 11 ((σ_26.1 6).toNatClampNeg) (σ_26.1 4)).1 6), .int (-1)]) (rest := []) ⟨hx, hb, hml, hown, hts⟩ (c_Mo_name l K A e_49) (cwV 3 hts (gd_V wd_1076 wd_1078 wp_51 wd_10 wd_1079) rfl rfl rfl dv_Mo_name ⟨Nat.le_of_ble_eq_true rfl, Nat.le_of_ble_eq_true rfl⟩) (Y_pv_0 hK hP hD) rfl rfl hl.1 rfl (lv_room (Nat.le_of_ble_eq_true rfl)) d_Mo_file_49 ⟨Nat.le_of_ble_eq_true rfl, Nat.le_of_ble_eq_true rfl⟩) hS (fun H locs hP hD hS => ?_)
          refine lv_aload_n hx hb d_Mo_file_52 rfl (lv_at hl 0 rfl) ?_
          refine gf_Mo_44 hx hb hg hown hK hP d_Mo_file_53 ?_
          refine lv_aload_n hx hb d_Mo_file_56 rfl (lv_at hl 0 rfl) ?_
          refine gf_Mo_180 hx hb hg hown hK hP d_Mo_file_57 ?_
          refine lv_iconst (v := (-1)) hx hb d_Mo_file_60 (by decide) ?_
          obtain ⟨i_61, h⟩ := itn h
          refine Ywa_12 hx hb hK hP hD hS i_61 d_Mo_file_61 (fun H locs hP hD hS => ?_)
          refine lv_aload_n hx hb d_Mo_file_62 rfl (lv_at hl 0 rfl) ?_
          refine lv_iconst (v := 5) hx hb d_Mo_file_63 (by decide) ?_
          obtain ⟨v_64, σ_64, e_64, h⟩ := bd2_some h
          refine Y_calli (va_runV (As := [.int 5]) (rest := []) ⟨hx, hb, hml, hown, hts⟩ (c_Mo_take l K A e_64) (cwV 1 hts (gd_V wd_1068 wd_1070 wp_49 wd_10 wd_1071) rfl rfl rfl dv_Mo_take ⟨Nat.le_of_ble_eq_true rfl, Nat.le_of_ble_eq_true rfl⟩) (Y_pv_0 hK hP hD) rfl rfl hl.1 rfl (lv_room (Nat.le_of_ble_eq_true rfl)) d_Mo_file_64 ⟨Nat.le_of_ble_eq_true rfl, Nat.le_of_ble_eq_true rfl⟩) hS (fun H locs hP hD hS => ?_)
          refine lv_if_eq (tgt := 93) hx hb d_Mo_file_67 (by decide) (fun c_67 => ?_) (fun c_67 => ?_)
          · replace h := itp c_67 h
            refine lv_aload_n hx hb d_Mo_file_93 rfl (lv_at hl 0 rfl) ?_
            refine lv_bipush (v := 123) hx hb d_Mo_file_94 (by decide) ?_
            obtain ⟨σ_96, e_96, h⟩ := bd1_some h
            refine Y_callv (va_runV (As := [.int 123]) (rest := []) ⟨hx, hb, hml, hown, hts⟩ (c_Mo_need l K A e_96) (cwV 1 hts (gd_V wd_1064 wd_1066 wp_48 wd_10 wd_1067) rfl rfl rfl dv_Mo_need ⟨Nat.le_of_ble_eq_true rfl, Nat.le_of_ble_eq_true rfl⟩) (Y_pv_0 hK hP hD) rfl rfl hl.1 rfl (lv_room (Nat.le_of_ble_eq_true rfl)) d_Mo_file_96 ⟨Nat.le_of_ble_eq_true rfl, Nat.le_of_ble_eq_true rfl⟩) hS (fun H locs hP hD hS => ?_)
            exact L_99 _ ih FU _ h _ _ hP hD hS ls (lv_sub hl [0] rfl)
          · replace h := itf c_67 h
            refine lv_aload_n hx hb d_Mo_file_70 rfl (lv_at hl 0 rfl) ?_
            refine gf_Mo_44 hx hb hg hown hK hP d_Mo_file_71 ?_
            refine lv_aload_n hx hb d_Mo_file_74 rfl (lv_at hl 0 rfl) ?_
            refine gf_Mo_180 hx hb hg hown hK hP d_Mo_file_75 ?_
            refine lv_aload_n hx hb d_Mo_file_78 rfl (lv_at hl 0 rfl) ?_
            refine gf_Mo_135 hx hb hg hown hK hP d_Mo_file_79 ?_
            obtain ⟨i_82, h⟩ := itn h
            refine Ywa_12 hx hb hK hP hD hS i_82 d_Mo_file_82 (fun H locs hP hD hS => ?_)
            refine lv_aload_n hx hb d_Mo_file_83 rfl (lv_at hl 0 rfl) ?_
            refine lv_iconst (v := 3) hx hb d_Mo_file_84 (by decide) ?_
            refine lv_aload_n hx hb d_Mo_file_85 rfl (lv_at hl 0 rfl) ?_
            refine gf_Mo_180 hx hb hg hown hK hP d_Mo_file_86 ?_
            refine lv_iconst (v := (-1)) hx hb d_Mo_file_89 (by decide) ?_
            obtain ⟨σ_90, e_90, h⟩ := bd1_some h
            refine Y_callv (va_runV (As := [.int 3, .int ((sA σ_64 12 ((σ_64.1 6).toNatClampNeg) (σ_64.1 4)).1 6), .int (-1)]) (rest := []) ⟨hx, hb, hml, hown, hts⟩ (c_Mo_name l K A e_90) (cwV 3 hts (gd_V wd_1076 wd_1078 wp_51 wd_10 wd_1079) rfl rfl rfl dv_Mo_name ⟨Nat.le_of_ble_eq_true rfl, Nat.le_of_ble_eq_true rfl⟩) (Y_pv_0 hK hP hD) rfl rfl hl.1 rfl (lv_room (Nat.le_of_ble_eq_true rfl)) d_Mo_file_90 ⟨Nat.le_of_ble_eq_true rfl, Nat.le_of_ble_eq_true rfl⟩) hS (fun H locs hP hD hS => ?_)
            refine lv_aload_n hx hb d_Mo_file_93 rfl (lv_at hl 0 rfl) ?_
            refine lv_bipush (v := 123) hx hb d_Mo_file_94 (by decide) ?_
            obtain ⟨σ_96, e_96, h⟩ := bd1_some h
            refine Y_callv (va_runV (As := [.int 123]) (rest := []) ⟨hx, hb, hml, hown, hts⟩ (c_Mo_need l K A e_96) (cwV 1 hts (gd_V wd_1064 wd_1066 wp_48 wd_10 wd_1067) rfl rfl rfl dv_Mo_need ⟨Nat.le_of_ble_eq_true rfl, Nat.le_of_ble_eq_true rfl⟩) (Y_pv_0 hK hP hD) rfl rfl hl.1 rfl (lv_room (Nat.le_of_ble_eq_true rfl)) d_Mo_file_96 ⟨Nat.le_of_ble_eq_true rfl, Nat.le_of_ble_eq_true rfl⟩) hS (fun H locs hP hD hS => ?_)
            exact L_99 _ ih FU _ h _ _ hP hD hS ls (lv_sub hl [0] rfl)
  refine lv_aload_n hx hb d_Mo_file_0 rfl (lv_at hl 0 rfl) ?_
  refine lv_iconst (v := 0) hx hb d_Mo_file_1 (by decide) ?_
  refine pf_Mo_180 hx hb hg hown hK hP hD hS d_Mo_file_2 (fun H locs hP hD hS => ?_)
  exact L_5  FU _ h _ _ hP hD hS ls (lv_sub hl [0] rfl)
def p_Mo_classOf_L2 (σ : Sto) (x1 : Int32) : Nat → Int32 → Option Int32
  | 0, _ => none
  | n + 1, x2 =>
    (if (σ.1 6) ≤ x2 then
        some (-2)
      else
        if inR x2 40 then if inR (σ.2.1 11 x2.toNatClampNeg) 124 then if inR x1 124 then (if (lg_cmp (σ.2.2 ((σ.2.1 11 x2.toNatClampNeg).toNatClampNeg)) (σ.2.2 x1.toNatClampNeg)) = 0 then
          some x2
        else
          p_Mo_classOf_L2 σ x1 n (x2 + 1)) else none else none else none)
def p_Mo_classOf (σ : Sto) (x1 : Int32) : Option Int32 :=
  p_Mo_classOf_L2 σ x1 FU 0
abbrev w_Mo_classOf : List Cond := Cond.code y_Mo_classOf b_Mo_classOf 3 (some .int) :: Tg
abbrev r_Mo_classOf : Room := { frames := 0, cells := 0, slots := 0, locals := 0 }
theorem dv_Mo_classOf : y_Mo_classOf.cls = "LanguageServerModel" ∧ y_Mo_classOf.cls ≠ "java/lang/invoke/MethodHandle" ∧ y_Mo_classOf.cls ≠ "java/lang/invoke/VarHandle" ∧ (parseMethodDescriptor y_Mo_classOf.desc).map (fun d => d.parameters.length) = some 1 := by decide +kernel
set_option maxHeartbeats 4000000 in
set_option maxRecDepth 100000 in
theorem c_Mo_classOf (l : Launch) (K : Kst) (A : Nat → Nat) {σ : Sto} {x1 : Int32} {rr : Int32} (h : p_Mo_classOf σ x1 = some rr) : Met l y_Mo_classOf w_Mo_classOf r_Mo_classOf (va_Pc [.ref (A 0), .int x1] (YB K A σ)) (YQi K A rr σ) 0 0 (YF A) := by
  refine Met.ofW (cc := b_Mo_classOf) (maxL := 3) (ret := (some .int)) (by decide) rfl ?_
  intro p e s m args below meth c s₁ B hml hv
  obtain ⟨rfl, hP, hK, hD⟩ := hv
  have hx := B.exec
  have hb := B.bytes
  have hr := B.returns
  have hts := atoms_spec (ws := w_Mo_classOf) B.pre
  have hg : ∀ w ∈ Tg, w.before _ s = true := fun w q => hts w (List.mem_cons_of_mem _ q)
  have hown : s.vm.findClass "LanguageServerModel" = some m.cls := findClass_of_methodNamed B.named
  have hlocks := B.notSynchronized
  have hS : va_S (YF A) s.heap s.heap [] := va_S.rf
  have hl := lv_entry ([.ref (A 0), .int x1]) (n := 3) (Nat.le_of_ble_eq_true rfl)
  rw [lg_entry_eq]
  generalize (lg_sl ([.ref (A 0), .int x1]) ++ List.replicate (3 - (lg_sl ([.ref (A 0), .int x1])).length) Slot.unset).toArray = ls at hl ⊢
  have hl : lv_has ls 3 [(0, .ref (A 0)), (1, .int x1)] := hl
  generalize hargs : ([.ref (A 0), .int x1] : List Value).toArray = args at hg hts ⊢
  obtain ⟨Q, hQ⟩ : ∃ Q, Q = MQ below (YQi K A rr σ) args s 0 0 (YF A) := ⟨_, rfl⟩
  rw [← hQ]
  have hRet : ∀ (v : Int32), some v = some rr → ∀ (H : Heap) (locs : List Loc), va_P K.1 vwCl (wY K A σ) H → va_D (YF A) (wY K A σ) → va_S (YF A) s.heap H locs → ∀ (pc : Nat) (ls : Array Slot), decode b_Mo_classOf pc = .ok (.ireturn, 1) → W p l e (headSpec w_Mo_classOf r_Mo_classOf).room s m args below meth c H locs 0 0 Q (F0 m pc ls [.int v]) := by
    intro v h H locs hP hD hS pc ls hd
    cases h
    subst hQ
    exact W.iret hx hb hr (fun t ht hW => ⟨⟨_, (), rfl, rfl, by rw [ht]; exact hP, RK.warm hW hK, hD⟩, hS.F ht⟩) hS.2.2 hd
  clear hQ
  unfold p_Mo_classOf at h
  have L_2 : ∀ (n : Nat) (x2 : Int32), p_Mo_classOf_L2 σ x1 n x2 = some rr → ∀ (H : Heap) (locs : List Loc), va_P K.1 vwCl (wY K A σ) H → va_D (YF A) (wY K A σ) → va_S (YF A) s.heap H locs → ∀ ls : Array Slot, lv_has ls 3 [(0, .ref (A 0)), (1, .int x1), (2, .int x2)] → W p l e (headSpec w_Mo_classOf r_Mo_classOf).room s m args below meth c H locs 0 0 Q (F0 m 2 ls []) := by
    intro n
    induction n with
    | zero => intro _ h; cases h
    | succ n ih =>
      intro x2 h H locs hP hD hS ls hl
      rw [p_Mo_classOf_L2] at h
      refine lv_iload_n hx hb d_Mo_classOf_2 rfl (lv_at hl 2 rfl) ?_
      refine lv_aload_n hx hb d_Mo_classOf_3 rfl (lv_at hl 0 rfl) ?_
      refine gf_Mo_180 hx hb hg hown hK hP d_Mo_classOf_4 ?_
      refine lv_icmp_ge (tgt := 39) hx hb d_Mo_classOf_7 (by decide) (fun c_7 => ?_) (fun c_7 => ?_)
      · replace h := itp c_7 h
        refine lv_bipush (v := (-2)) hx hb d_Mo_classOf_39 (by decide) ?_
        exact hRet _ h _ _ hP hD hS _ _ d_Mo_classOf_41
      · replace h := itf c_7 h
        refine lv_aload_n hx hb d_Mo_classOf_10 rfl (lv_at hl 0 rfl) ?_
        refine gf_Mo_19 hx hb hg hown hK hP d_Mo_classOf_11 ?_
        refine lv_aload_n hx hb d_Mo_classOf_14 rfl (lv_at hl 0 rfl) ?_
        refine gf_Mo_41 hx hb hg hown hK hP d_Mo_classOf_15 ?_
        refine lv_iload_n hx hb d_Mo_classOf_18 rfl (lv_at hl 2 rfl) ?_
        obtain ⟨i_19, h⟩ := itn h
        refine Yra_11 hx hb hK hP i_19 d_Mo_classOf_19 ?_
        obtain ⟨i_20, h⟩ := itn h
        refine Yra_4 hx hb hK hP i_20 d_Mo_classOf_20 ?_
        refine lv_aload_n hx hb d_Mo_classOf_21 rfl (lv_at hl 0 rfl) ?_
        refine gf_Mo_19 hx hb hg hown hK hP d_Mo_classOf_22 ?_
        refine lv_iload_n hx hb d_Mo_classOf_25 rfl (lv_at hl 1 rfl) ?_
        obtain ⟨i_26, h⟩ := itn h
        refine Yra_4 hx hb hK hP i_26 d_Mo_classOf_26 ?_
        refine W.lcmp hx hb d_Mo_classOf_27 ?_
        refine lv_if_ne (tgt := 33) hx hb d_Mo_classOf_28 (by decide) (fun c_28 => ?_) (fun c_28 => ?_)
        · replace h := itf c_28 h
          refine lv_iinc (v := x2 + 1) (lv' := [(2, .int (x2 + 1)), (0, .ref (A 0)), (1, .int x1)]) hx hb d_Mo_classOf_33 hl (k := 2) rfl (by first | rfl | decide) (by decide) rfl (fun ls hl => ?_)
          refine lv_goto (tgt := 2) hx hb d_Mo_classOf_36 (by decide) ?_
          exact ih _ h _ _ hP hD hS ls (lv_sub hl [1, 2, 0] rfl)
        · replace h := itp c_28 h
          refine lv_iload_n hx hb d_Mo_classOf_31 rfl (lv_at hl 2 rfl) ?_
          exact hRet _ h _ _ hP hD hS _ _ d_Mo_classOf_32
  refine lv_iconst (v := 0) hx hb d_Mo_classOf_0 (by decide) ?_
  refine lv_istore_n (lv' := [(2, .int 0), (0, .ref (A 0)), (1, .int x1)]) hx hb d_Mo_classOf_1 rfl hl (by decide) rfl (fun ls hl => ?_)
  exact L_2  FU _ h _ _ hP hD hS ls (lv_sub hl [1, 2, 0] rfl)
def p_Mo_above (σ : Sto) (x1 : Int32) : Option Int32 :=
  if inR x1 40 then (if (0 : Int32) ≤ (σ.2.1 12 x1.toNatClampNeg) then
      if inR x1 40 then bd1 (p_Mo_classOf σ (σ.2.1 12 x1.toNatClampNeg)) fun v_18 =>
      (if v_18 = (-2) then
        some (-1)
      else
        some v_18) else none
    else
      some (-1)) else none
abbrev w_Mo_above : List Cond := Cond.code y_Mo_above b_Mo_above 3 (some .int) :: Tg
abbrev r_Mo_above : Room := { frames := 1, cells := 0, slots := 0, locals := 22 }
theorem dv_Mo_above : y_Mo_above.cls = "LanguageServerModel" ∧ y_Mo_above.cls ≠ "java/lang/invoke/MethodHandle" ∧ y_Mo_above.cls ≠ "java/lang/invoke/VarHandle" ∧ (parseMethodDescriptor y_Mo_above.desc).map (fun d => d.parameters.length) = some 1 := by decide +kernel
set_option maxHeartbeats 4000000 in
set_option maxRecDepth 100000 in
theorem c_Mo_above (l : Launch) (K : Kst) (A : Nat → Nat) {σ : Sto} {x1 : Int32} {rr : Int32} (h : p_Mo_above σ x1 = some rr) : Met l y_Mo_above w_Mo_above r_Mo_above (va_Pc [.ref (A 0), .int x1] (YB K A σ)) (YQi K A rr σ) 0 0 (YF A) := by
  refine Met.ofW (cc := b_Mo_above) (maxL := 3) (ret := (some .int)) (by decide) rfl ?_
  intro p e s m args below meth c s₁ B hml hv
  obtain ⟨rfl, hP, hK, hD⟩ := hv
  have hx := B.exec
  have hb := B.bytes
  have hr := B.returns
  have hts := atoms_spec (ws := w_Mo_above) B.pre
  have hg : ∀ w ∈ Tg, w.before _ s = true := fun w q => hts w (List.mem_cons_of_mem _ q)
  have hown : s.vm.findClass "LanguageServerModel" = some m.cls := findClass_of_methodNamed B.named
  have hlocks := B.notSynchronized
  have hS : va_S (YF A) s.heap s.heap [] := va_S.rf
  have hl := lv_entry ([.ref (A 0), .int x1]) (n := 3) (Nat.le_of_ble_eq_true rfl)
  rw [lg_entry_eq]
  generalize (lg_sl ([.ref (A 0), .int x1]) ++ List.replicate (3 - (lg_sl ([.ref (A 0), .int x1])).length) Slot.unset).toArray = ls at hl ⊢
  have hl : lv_has ls 3 [(0, .ref (A 0)), (1, .int x1)] := hl
  generalize hargs : ([.ref (A 0), .int x1] : List Value).toArray = args at hg hts ⊢
  obtain ⟨Q, hQ⟩ : ∃ Q, Q = MQ below (YQi K A rr σ) args s 0 0 (YF A) := ⟨_, rfl⟩
  rw [← hQ]
  have hRet : ∀ (v : Int32), some v = some rr → ∀ (H : Heap) (locs : List Loc), va_P K.1 vwCl (wY K A σ) H → va_D (YF A) (wY K A σ) → va_S (YF A) s.heap H locs → ∀ (pc : Nat) (ls : Array Slot), decode b_Mo_above pc = .ok (.ireturn, 1) → W p l e (headSpec w_Mo_above r_Mo_above).room s m args below meth c H locs 0 0 Q (F0 m pc ls [.int v]) := by
    intro v h H locs hP hD hS pc ls hd
    cases h
    subst hQ
    exact W.iret hx hb hr (fun t ht hW => ⟨⟨_, (), rfl, rfl, by rw [ht]; exact hP, RK.warm hW hK, hD⟩, hS.F ht⟩) hS.2.2 hd
  clear hQ
  unfold p_Mo_above at h
  refine lv_aload_n hx hb d_Mo_above_0 rfl (lv_at hl 0 rfl) ?_
  refine gf_Mo_44 hx hb hg hown hK hP d_Mo_above_1 ?_
  refine lv_iload_n hx hb d_Mo_above_4 rfl (lv_at hl 1 rfl) ?_
  obtain ⟨i_5, h⟩ := itn h
  refine Yra_12 hx hb hK hP i_5 d_Mo_above_5 ?_
  refine lv_if_ge (tgt := 11) hx hb d_Mo_above_6 (by decide) (fun c_6 => ?_) (fun c_6 => ?_)
  · replace h := itp c_6 h
    refine lv_aload_n hx hb d_Mo_above_11 rfl (lv_at hl 0 rfl) ?_
    refine lv_aload_n hx hb d_Mo_above_12 rfl (lv_at hl 0 rfl) ?_
    refine gf_Mo_44 hx hb hg hown hK hP d_Mo_above_13 ?_
    refine lv_iload_n hx hb d_Mo_above_16 rfl (lv_at hl 1 rfl) ?_
    obtain ⟨i_17, h⟩ := itn h
    refine Yra_12 hx hb hK hP i_17 d_Mo_above_17 ?_
    obtain ⟨v_18, e_18, h⟩ := bd1_some h
    refine Y_calli (va_runV (As := [.int (σ.2.1 12 x1.toNatClampNeg)]) (rest := []) ⟨hx, hb, hml, hown, hts⟩ (c_Mo_classOf l K A e_18) (cwV 1 hts (gd_V wd_1120 wd_1122 wp_62 wd_10 wd_1123) rfl rfl rfl dv_Mo_classOf ⟨Nat.le_of_ble_eq_true rfl, Nat.le_of_ble_eq_true rfl⟩) (Y_pv_0 hK hP hD) rfl rfl hl.1 rfl (lv_room (Nat.le_of_ble_eq_true rfl)) d_Mo_above_18 ⟨Nat.le_of_ble_eq_true rfl, Nat.le_of_ble_eq_true rfl⟩) hS (fun H locs hP hD hS => ?_)
    refine lv_istore_n (lv' := [(2, .int v_18), (0, .ref (A 0)), (1, .int x1)]) hx hb d_Mo_above_21 rfl hl (by decide) rfl (fun ls hl => ?_)
    refine lv_iload_n hx hb d_Mo_above_22 rfl (lv_at hl 0 rfl) ?_
    refine lv_bipush (v := (-2)) hx hb d_Mo_above_23 (by decide) ?_
    refine lv_icmp_ne (tgt := 32) hx hb d_Mo_above_25 (by decide) (fun c_25 => ?_) (fun c_25 => ?_)
    · replace h := itf c_25 h
      refine lv_iload_n hx hb d_Mo_above_32 rfl (lv_at hl 0 rfl) ?_
      exact hRet _ h _ _ hP hD hS _ _ d_Mo_above_33
    · replace h := itp c_25 h
      refine lv_iconst (v := (-1)) hx hb d_Mo_above_28 (by decide) ?_
      refine lv_goto (tgt := 33) hx hb d_Mo_above_29 (by decide) ?_
      exact hRet _ h _ _ hP hD hS _ _ d_Mo_above_33
  · replace h := itf c_6 h
    refine lv_iconst (v := (-1)) hx hb d_Mo_above_9 (by decide) ?_
    exact hRet _ h _ _ hP hD hS _ _ d_Mo_above_10
def p_Mo_circles_L8 (σ : Sto) (x1 : Int32) : Nat → Int32 → Int32 → Option Int32
  | 0, _, _ => none
  | n + 1, x2, x3 =>
    (if (40 : Int32) ≤ x3 then
        some 0
      else
        (if x2 < 0 then
          some 0
        else
          (if x2 = x1 then
            some 1
          else
            bd1 (p_Mo_above σ x2) fun v_27 =>
            p_Mo_circles_L8 σ x1 n v_27 (x3 + 1))))
def p_Mo_circles (σ : Sto) (x1 : Int32) : Option Int32 :=
  bd1 (p_Mo_above σ x1) fun v_2 =>
    p_Mo_circles_L8 σ x1 FU v_2 0
abbrev w_Mo_circles : List Cond := Cond.code y_Mo_circles b_Mo_circles 4 (some .boolean) :: Tg
abbrev r_Mo_circles : Room := { frames := 2, cells := 0, slots := 0, locals := 44 }
theorem dv_Mo_circles : y_Mo_circles.cls = "LanguageServerModel" ∧ y_Mo_circles.cls ≠ "java/lang/invoke/MethodHandle" ∧ y_Mo_circles.cls ≠ "java/lang/invoke/VarHandle" ∧ (parseMethodDescriptor y_Mo_circles.desc).map (fun d => d.parameters.length) = some 1 := by decide +kernel
set_option maxHeartbeats 4000000 in
set_option maxRecDepth 100000 in
theorem c_Mo_circles (l : Launch) (K : Kst) (A : Nat → Nat) {σ : Sto} {x1 : Int32} {rr : Int32} (h : p_Mo_circles σ x1 = some rr) : Met l y_Mo_circles w_Mo_circles r_Mo_circles (va_Pc [.ref (A 0), .int x1] (YB K A σ)) (YQi K A rr σ) 0 0 (YF A) := by
  refine Met.ofW (cc := b_Mo_circles) (maxL := 4) (ret := (some .boolean)) (by decide) rfl ?_
  intro p e s m args below meth c s₁ B hml hv
  obtain ⟨rfl, hP, hK, hD⟩ := hv
  have hx := B.exec
  have hb := B.bytes
  have hr := B.returns
  have hts := atoms_spec (ws := w_Mo_circles) B.pre
  have hg : ∀ w ∈ Tg, w.before _ s = true := fun w q => hts w (List.mem_cons_of_mem _ q)
  have hown : s.vm.findClass "LanguageServerModel" = some m.cls := findClass_of_methodNamed B.named
  have hlocks := B.notSynchronized
  have hS : va_S (YF A) s.heap s.heap [] := va_S.rf
  have hl := lv_entry ([.ref (A 0), .int x1]) (n := 4) (Nat.le_of_ble_eq_true rfl)
  rw [lg_entry_eq]
  generalize (lg_sl ([.ref (A 0), .int x1]) ++ List.replicate (4 - (lg_sl ([.ref (A 0), .int x1])).length) Slot.unset).toArray = ls at hl ⊢
  have hl : lv_has ls 4 [(0, .ref (A 0)), (1, .int x1)] := hl
  generalize hargs : ([.ref (A 0), .int x1] : List Value).toArray = args at hg hts ⊢
  obtain ⟨Q, hQ⟩ : ∃ Q, Q = MQ below (YQi K A rr σ) args s 0 0 (YF A) := ⟨_, rfl⟩
  rw [← hQ]
  have hRet : ∀ (v : Int32), (narrow .boolean (.int v) = .int v) → some v = some rr → ∀ (H : Heap) (locs : List Loc), va_P K.1 vwCl (wY K A σ) H → va_D (YF A) (wY K A σ) → va_S (YF A) s.heap H locs → ∀ (pc : Nat) (ls : Array Slot), decode b_Mo_circles pc = .ok (.ireturn, 1) → W p l e (headSpec w_Mo_circles r_Mo_circles).room s m args below meth c H locs 0 0 Q (F0 m pc ls [.int v]) := by
    intro v hn h H locs hP hD hS pc ls hd
    cases h
    subst hQ
    exact W.zret hx hb hr hn (fun t ht hW => ⟨⟨_, (), rfl, rfl, by rw [ht]; exact hP, RK.warm hW hK, hD⟩, hS.F ht⟩) hS.2.2 hd
  clear hQ
  unfold p_Mo_circles at h
  have L_8 : ∀ (n : Nat) (x2 : Int32) (x3 : Int32), p_Mo_circles_L8 σ x1 n x2 x3 = some rr → ∀ (H : Heap) (locs : List Loc), va_P K.1 vwCl (wY K A σ) H → va_D (YF A) (wY K A σ) → va_S (YF A) s.heap H locs → ∀ ls : Array Slot, lv_has ls 4 [(0, .ref (A 0)), (1, .int x1), (2, .int x2), (3, .int x3)] → W p l e (headSpec w_Mo_circles r_Mo_circles).room s m args below meth c H locs 0 0 Q (F0 m 8 ls []) := by
    intro n
    induction n with
    | zero => intro _ _ h; cases h
    | succ n ih =>
      intro x2 x3 h H locs hP hD hS ls hl
      rw [p_Mo_circles_L8] at h
      refine lv_iload_n hx hb d_Mo_circles_8 rfl (lv_at hl 3 rfl) ?_
      refine lv_bipush (v := 40) hx hb d_Mo_circles_9 (by decide) ?_
      refine lv_icmp_ge (tgt := 37) hx hb d_Mo_circles_11 (by decide) (fun c_11 => ?_) (fun c_11 => ?_)
      · replace h := itp c_11 h
        refine lv_iconst (v := 0) hx hb d_Mo_circles_37 (by decide) ?_
        exact hRet _ rfl h _ _ hP hD hS _ _ d_Mo_circles_38
      · replace h := itf c_11 h
        refine lv_iload_n hx hb d_Mo_circles_14 rfl (lv_at hl 2 rfl) ?_
        refine lv_if_lt (tgt := 37) hx hb d_Mo_circles_15 (by decide) (fun c_15 => ?_) (fun c_15 => ?_)
        · replace h := itp c_15 h
          refine lv_iconst (v := 0) hx hb d_Mo_circles_37 (by decide) ?_
          exact hRet _ rfl h _ _ hP hD hS _ _ d_Mo_circles_38
        · replace h := itf c_15 h
          refine lv_iload_n hx hb d_Mo_circles_18 rfl (lv_at hl 2 rfl) ?_
          refine lv_iload_n hx hb d_Mo_circles_19 rfl (lv_at hl 1 rfl) ?_
          refine lv_icmp_ne (tgt := 25) hx hb d_Mo_circles_20 (by decide) (fun c_20 => ?_) (fun c_20 => ?_)
          · replace h := itf c_20 h
            refine lv_aload_n hx hb d_Mo_circles_25 rfl (lv_at hl 0 rfl) ?_
            refine lv_iload_n hx hb d_Mo_circles_26 rfl (lv_at hl 2 rfl) ?_
            obtain ⟨v_27, e_27, h⟩ := bd1_some h
            refine Y_calli (va_runV (As := [.int x2]) (rest := []) ⟨hx, hb, hml, hown, hts⟩ (c_Mo_above l K A e_27) (cwV 1 hts (gd_V wd_1132 wd_1134 wp_65 wd_10 wd_1135) rfl rfl rfl dv_Mo_above ⟨Nat.le_of_ble_eq_true rfl, Nat.le_of_ble_eq_true rfl⟩) (Y_pv_0 hK hP hD) rfl rfl hl.1 rfl (lv_room (Nat.le_of_ble_eq_true rfl)) d_Mo_circles_27 ⟨Nat.le_of_ble_eq_true rfl, Nat.le_of_ble_eq_true rfl⟩) hS (fun H locs hP hD hS => ?_)
            refine lv_istore_n (lv' := [(2, .int v_27), (0, .ref (A 0)), (1, .int x1), (3, .int x3)]) hx hb d_Mo_circles_30 rfl hl (by decide) rfl (fun ls hl => ?_)
            refine lv_iinc (v := x3 + 1) (lv' := [(3, .int (x3 + 1)), (2, .int v_27), (0, .ref (A 0)), (1, .int x1)]) hx hb d_Mo_circles_31 hl (k := 3) rfl (by first | rfl | decide) (by decide) rfl (fun ls hl => ?_)
            refine lv_goto (tgt := 8) hx hb d_Mo_circles_34 (by decide) ?_
            exact ih _ _ h _ _ hP hD hS ls (lv_sub hl [2, 3, 1, 0] rfl)
          · replace h := itp c_20 h
            refine lv_iconst (v := 1) hx hb d_Mo_circles_23 (by decide) ?_
            exact hRet _ rfl h _ _ hP hD hS _ _ d_Mo_circles_24
  refine lv_aload_n hx hb d_Mo_circles_0 rfl (lv_at hl 0 rfl) ?_
  refine lv_iload_n hx hb d_Mo_circles_1 rfl (lv_at hl 1 rfl) ?_
  obtain ⟨v_2, e_2, h⟩ := bd1_some h
  refine Y_calli (va_runV (As := [.int x1]) (rest := []) ⟨hx, hb, hml, hown, hts⟩ (c_Mo_above l K A e_2) (cwV 1 hts (gd_V wd_1132 wd_1134 wp_65 wd_10 wd_1135) rfl rfl rfl dv_Mo_above ⟨Nat.le_of_ble_eq_true rfl, Nat.le_of_ble_eq_true rfl⟩) (Y_pv_0 hK hP hD) rfl rfl hl.1 rfl (lv_room (Nat.le_of_ble_eq_true rfl)) d_Mo_circles_2 ⟨Nat.le_of_ble_eq_true rfl, Nat.le_of_ble_eq_true rfl⟩) hS (fun H locs hP hD hS => ?_)
  refine lv_istore_n (lv' := [(2, .int v_2), (0, .ref (A 0)), (1, .int x1)]) hx hb d_Mo_circles_5 rfl hl (by decide) rfl (fun ls hl => ?_)
  refine lv_iconst (v := 0) hx hb d_Mo_circles_6 (by decide) ?_
  refine lv_istore_n (lv' := [(3, .int 0), (2, .int v_2), (0, .ref (A 0)), (1, .int x1)]) hx hb d_Mo_circles_7 rfl hl (by decide) rfl (fun ls hl => ?_)
  exact L_8  FU _ _ h _ _ hP hD hS ls (lv_sub hl [2, 3, 1, 0] rfl)
def p_Mo_parent (σ : Sto) (x1 : Int32) : Option Int32 :=
  bd1 (p_Mo_circles σ x1) fun v_2 =>
    (if v_2 = 0 then
      bd1 (p_Mo_above σ x1) fun v_14 =>
      some v_14
    else
      some (-1))
abbrev w_Mo_parent : List Cond := Cond.code y_Mo_parent b_Mo_parent 2 (some .int) :: Tg
abbrev r_Mo_parent : Room := { frames := 3, cells := 0, slots := 0, locals := 67 }
theorem dv_Mo_parent : y_Mo_parent.cls = "LanguageServerModel" ∧ y_Mo_parent.cls ≠ "java/lang/invoke/MethodHandle" ∧ y_Mo_parent.cls ≠ "java/lang/invoke/VarHandle" ∧ (parseMethodDescriptor y_Mo_parent.desc).map (fun d => d.parameters.length) = some 1 := by decide +kernel
set_option maxHeartbeats 4000000 in
set_option maxRecDepth 100000 in
theorem c_Mo_parent (l : Launch) (K : Kst) (A : Nat → Nat) {σ : Sto} {x1 : Int32} {rr : Int32} (h : p_Mo_parent σ x1 = some rr) : Met l y_Mo_parent w_Mo_parent r_Mo_parent (va_Pc [.ref (A 0), .int x1] (YB K A σ)) (YQi K A rr σ) 0 0 (YF A) := by
  refine Met.ofW (cc := b_Mo_parent) (maxL := 2) (ret := (some .int)) (by decide) rfl ?_
  intro p e s m args below meth c s₁ B hml hv
  obtain ⟨rfl, hP, hK, hD⟩ := hv
  have hx := B.exec
  have hb := B.bytes
  have hr := B.returns
  have hts := atoms_spec (ws := w_Mo_parent) B.pre
  have hg : ∀ w ∈ Tg, w.before _ s = true := fun w q => hts w (List.mem_cons_of_mem _ q)
  have hown : s.vm.findClass "LanguageServerModel" = some m.cls := findClass_of_methodNamed B.named
  have hlocks := B.notSynchronized
  have hS : va_S (YF A) s.heap s.heap [] := va_S.rf
  have hl := lv_entry ([.ref (A 0), .int x1]) (n := 2) (Nat.le_of_ble_eq_true rfl)
  rw [lg_entry_eq]
  generalize (lg_sl ([.ref (A 0), .int x1]) ++ List.replicate (2 - (lg_sl ([.ref (A 0), .int x1])).length) Slot.unset).toArray = ls at hl ⊢
  have hl : lv_has ls 2 [(0, .ref (A 0)), (1, .int x1)] := hl
  generalize hargs : ([.ref (A 0), .int x1] : List Value).toArray = args at hg hts ⊢
  obtain ⟨Q, hQ⟩ : ∃ Q, Q = MQ below (YQi K A rr σ) args s 0 0 (YF A) := ⟨_, rfl⟩
  rw [← hQ]
  have hRet : ∀ (v : Int32), some v = some rr → ∀ (H : Heap) (locs : List Loc), va_P K.1 vwCl (wY K A σ) H → va_D (YF A) (wY K A σ) → va_S (YF A) s.heap H locs → ∀ (pc : Nat) (ls : Array Slot), decode b_Mo_parent pc = .ok (.ireturn, 1) → W p l e (headSpec w_Mo_parent r_Mo_parent).room s m args below meth c H locs 0 0 Q (F0 m pc ls [.int v]) := by
    intro v h H locs hP hD hS pc ls hd
    cases h
    subst hQ
    exact W.iret hx hb hr (fun t ht hW => ⟨⟨_, (), rfl, rfl, by rw [ht]; exact hP, RK.warm hW hK, hD⟩, hS.F ht⟩) hS.2.2 hd
  clear hQ
  unfold p_Mo_parent at h
  refine lv_aload_n hx hb d_Mo_parent_0 rfl (lv_at hl 0 rfl) ?_
  refine lv_iload_n hx hb d_Mo_parent_1 rfl (lv_at hl 1 rfl) ?_
  obtain ⟨v_2, e_2, h⟩ := bd1_some h
  refine Y_calli (va_runV (As := [.int x1]) (rest := []) ⟨hx, hb, hml, hown, hts⟩ (c_Mo_circles l K A e_2) (cwV 1 hts (gd_V wd_1128 wd_1130 wp_64 wd_10 wd_1131) rfl rfl rfl dv_Mo_circles ⟨Nat.le_of_ble_eq_true rfl, Nat.le_of_ble_eq_true rfl⟩) (Y_pv_0 hK hP hD) rfl rfl hl.1 rfl (lv_room (Nat.le_of_ble_eq_true rfl)) d_Mo_parent_2 ⟨Nat.le_of_ble_eq_true rfl, Nat.le_of_ble_eq_true rfl⟩) hS (fun H locs hP hD hS => ?_)
  refine lv_if_eq (tgt := 12) hx hb d_Mo_parent_5 (by decide) (fun c_5 => ?_) (fun c_5 => ?_)
  · replace h := itp c_5 h
    refine lv_aload_n hx hb d_Mo_parent_12 rfl (lv_at hl 0 rfl) ?_
    refine lv_iload_n hx hb d_Mo_parent_13 rfl (lv_at hl 1 rfl) ?_
    obtain ⟨v_14, e_14, h⟩ := bd1_some h
    refine Y_calli (va_runV (As := [.int x1]) (rest := []) ⟨hx, hb, hml, hown, hts⟩ (c_Mo_above l K A e_14) (cwV 1 hts (gd_V wd_1132 wd_1134 wp_65 wd_10 wd_1135) rfl rfl rfl dv_Mo_above ⟨Nat.le_of_ble_eq_true rfl, Nat.le_of_ble_eq_true rfl⟩) (Y_pv_0 hK hP hD) rfl rfl hl.1 rfl (lv_room (Nat.le_of_ble_eq_true rfl)) d_Mo_parent_14 ⟨Nat.le_of_ble_eq_true rfl, Nat.le_of_ble_eq_true rfl⟩) hS (fun H locs hP hD hS => ?_)
    exact hRet _ h _ _ hP hD hS _ _ d_Mo_parent_17
  · replace h := itf c_5 h
    refine lv_iconst (v := (-1)) hx hb d_Mo_parent_8 (by decide) ?_
    refine lv_goto (tgt := 17) hx hb d_Mo_parent_9 (by decide) ?_
    exact hRet _ h _ _ hP hD hS _ _ d_Mo_parent_17
def p_Mo_declares (x0 : Int32) : Option Int32 :=
  (if x0 = 5 then
      some 1
    else
      (if x0 = 6 then
        some 1
      else
        some 0))
abbrev w_Mo_declares : List Cond := Cond.code y_Mo_declares b_Mo_declares 1 (some .boolean) :: Tg
abbrev r_Mo_declares : Room := { frames := 0, cells := 0, slots := 0, locals := 0 }
theorem ds_Mo_declares : y_Mo_declares.cls ≠ "java/lang/invoke/MethodHandle" ∧ y_Mo_declares.cls ≠ "java/lang/invoke/VarHandle" ∧ (parseMethodDescriptor y_Mo_declares.desc).map (fun d => d.parameters.length) = some 1 := by decide +kernel
set_option maxHeartbeats 4000000 in
set_option maxRecDepth 100000 in
theorem c_Mo_declares (l : Launch) {x0 : Int32} {rr : Int32} (h : p_Mo_declares x0 = some rr) : Met l y_Mo_declares w_Mo_declares r_Mo_declares (va_Pc [.int x0] KN) (PQi rr) 0 0 PF := by
  refine Met.ofW (cc := b_Mo_declares) (maxL := 1) (ret := (some .boolean)) (by decide) rfl ?_
  intro p e s m args below meth c s₁ B hml hv
  obtain ⟨rfl, hk⟩ := hv
  have hx := B.exec
  have hb := B.bytes
  have hr := B.returns
  have hts := atoms_spec (ws := w_Mo_declares) B.pre
  have hg : ∀ w ∈ Tg, w.before _ s = true := fun w q => hts w (List.mem_cons_of_mem _ q)
  have hown : s.vm.findClass "LanguageServerModel" = some m.cls := findClass_of_methodNamed B.named
  have hlocks := B.notSynchronized
  have hS : va_S (PF) s.heap s.heap [] := va_S.rf
  have hl := lv_entry ([.int x0]) (n := 1) (Nat.le_of_ble_eq_true rfl)
  rw [lg_entry_eq]
  generalize (lg_sl ([.int x0]) ++ List.replicate (1 - (lg_sl ([.int x0])).length) Slot.unset).toArray = ls at hl ⊢
  have hl : lv_has ls 1 [(0, .int x0)] := hl
  generalize hargs : ([.int x0] : List Value).toArray = args at hg hts ⊢
  obtain ⟨Q, hQ⟩ : ∃ Q, Q = MQ below (PQi rr) args s 0 0 (PF) := ⟨_, rfl⟩
  rw [← hQ]
  have hRet : ∀ (v : Int32), (narrow .boolean (.int v) = .int v) → some v = some rr → ∀ (H : Heap) (locs : List Loc), va_S (PF) s.heap H locs → ∀ (pc : Nat) (ls : Array Slot), decode b_Mo_declares pc = .ok (.ireturn, 1) → W p l e (headSpec w_Mo_declares r_Mo_declares).room s m args below meth c H locs 0 0 Q (F0 m pc ls [.int v]) := by
    intro v hn h H locs hS pc ls hd
    cases h
    subst hQ
    exact W.zret hx hb hr hn (fun t ht hW => ⟨⟨_, (), rfl, rfl, trivial⟩, hS.F ht⟩) hS.2.2 hd
  clear hQ
  unfold p_Mo_declares at h
  refine lv_iload_n hx hb d_Mo_declares_0 rfl (lv_at hl 0 rfl) ?_
  refine lv_iconst (v := 5) hx hb d_Mo_declares_1 (by decide) ?_
  refine lv_icmp_eq (tgt := 11) hx hb d_Mo_declares_2 (by decide) (fun c_2 => ?_) (fun c_2 => ?_)
  · replace h := itp c_2 h
    refine lv_iconst (v := 1) hx hb d_Mo_declares_11 (by decide) ?_
    refine lv_goto (tgt := 16) hx hb d_Mo_declares_12 (by decide) ?_
    exact hRet _ rfl h _ _ hS _ _ d_Mo_declares_16
  · replace h := itf c_2 h
    refine lv_iload_n hx hb d_Mo_declares_5 rfl (lv_at hl 0 rfl) ?_
    refine lv_bipush (v := 6) hx hb d_Mo_declares_6 (by decide) ?_
    refine lv_icmp_ne (tgt := 15) hx hb d_Mo_declares_8 (by decide) (fun c_8 => ?_) (fun c_8 => ?_)
    · replace h := itf c_8 h
      refine lv_iconst (v := 0) hx hb d_Mo_declares_15 (by decide) ?_
      exact hRet _ rfl h _ _ hS _ _ d_Mo_declares_16
    · replace h := itp c_8 h
      refine lv_iconst (v := 1) hx hb d_Mo_declares_11 (by decide) ?_
      refine lv_goto (tgt := 16) hx hb d_Mo_declares_12 (by decide) ?_
      exact hRet _ rfl h _ _ hS _ _ d_Mo_declares_16
def p_Mo_find_L11 (σ : Sto) (x1 : Int32) (x2 : Int64) (k3 : Int32 → Option Int32) : Nat → Int32 → Int32 → Option Int32
  | 0, _, _ => none
  | n + 1, x4, x5 =>
    (if (σ.1 3) ≤ x5 then
        bd1 (p_Mo_parent σ x4) fun v_69 =>
        k3 v_69
      else
        if inR x5 124 then bd1 (p_Mo_declares (σ.2.1 7 x5.toNatClampNeg)) fun v_27 =>
        (if v_27 = 0 then
          p_Mo_find_L11 σ x1 x2 k3 n x4 (x5 + 1)
        else
          if inR x5 124 then (if (σ.2.1 8 x5.toNatClampNeg) = x4 then
            if inR x5 124 then (if (lg_cmp (σ.2.2 x5.toNatClampNeg) x2) = 0 then
              some x5
            else
              p_Mo_find_L11 σ x1 x2 k3 n x4 (x5 + 1)) else none
          else
            p_Mo_find_L11 σ x1 x2 k3 n x4 (x5 + 1)) else none) else none)
def p_Mo_find_L3 (σ : Sto) (x1 : Int32) (x2 : Int64) : Nat → Int32 → Option Int32
  | 0, _ => none
  | n + 1, x4 =>
    (if x4 < 0 then
        some (-1)
      else
        p_Mo_find_L11 σ x1 x2 (p_Mo_find_L3 σ x1 x2 n) FU x4 0)
def p_Mo_find (σ : Sto) (x1 : Int32) (x2 : Int64) : Option Int32 :=
  p_Mo_find_L3 σ x1 x2 FU x1
abbrev w_Mo_find : List Cond := Cond.code y_Mo_find b_Mo_find 6 (some .int) :: Tg
abbrev r_Mo_find : Room := { frames := 4, cells := 0, slots := 0, locals := 88 }
theorem dv_Mo_find : y_Mo_find.cls = "LanguageServerModel" ∧ y_Mo_find.cls ≠ "java/lang/invoke/MethodHandle" ∧ y_Mo_find.cls ≠ "java/lang/invoke/VarHandle" ∧ (parseMethodDescriptor y_Mo_find.desc).map (fun d => d.parameters.length) = some 2 := by decide +kernel
set_option maxHeartbeats 4000000 in
set_option maxRecDepth 100000 in
theorem c_Mo_find (l : Launch) (K : Kst) (A : Nat → Nat) {σ : Sto} {x1 : Int32} {x2 : Int64} {rr : Int32} (h : p_Mo_find σ x1 x2 = some rr) : Met l y_Mo_find w_Mo_find r_Mo_find (va_Pc [.ref (A 0), .int x1, .long x2] (YB K A σ)) (YQi K A rr σ) 0 0 (YF A) := by
  refine Met.ofW (cc := b_Mo_find) (maxL := 6) (ret := (some .int)) (by decide) rfl ?_
  intro p e s m args below meth c s₁ B hml hv
  obtain ⟨rfl, hP, hK, hD⟩ := hv
  have hx := B.exec
  have hb := B.bytes
  have hr := B.returns
  have hts := atoms_spec (ws := w_Mo_find) B.pre
  have hg : ∀ w ∈ Tg, w.before _ s = true := fun w q => hts w (List.mem_cons_of_mem _ q)
  have hown : s.vm.findClass "LanguageServerModel" = some m.cls := findClass_of_methodNamed B.named
  have hlocks := B.notSynchronized
  have hS : va_S (YF A) s.heap s.heap [] := va_S.rf
  have hl := lv_entry ([.ref (A 0), .int x1, .long x2]) (n := 6) (Nat.le_of_ble_eq_true rfl)
  rw [lg_entry_eq]
  generalize (lg_sl ([.ref (A 0), .int x1, .long x2]) ++ List.replicate (6 - (lg_sl ([.ref (A 0), .int x1, .long x2])).length) Slot.unset).toArray = ls at hl ⊢
  have hl : lv_has ls 6 [(0, .ref (A 0)), (1, .int x1), (2, .long x2)] := hl
  generalize hargs : ([.ref (A 0), .int x1, .long x2] : List Value).toArray = args at hg hts ⊢
  obtain ⟨Q, hQ⟩ : ∃ Q, Q = MQ below (YQi K A rr σ) args s 0 0 (YF A) := ⟨_, rfl⟩
  rw [← hQ]
  have hRet : ∀ (v : Int32), some v = some rr → ∀ (H : Heap) (locs : List Loc), va_P K.1 vwCl (wY K A σ) H → va_D (YF A) (wY K A σ) → va_S (YF A) s.heap H locs → ∀ (pc : Nat) (ls : Array Slot), decode b_Mo_find pc = .ok (.ireturn, 1) → W p l e (headSpec w_Mo_find r_Mo_find).room s m args below meth c H locs 0 0 Q (F0 m pc ls [.int v]) := by
    intro v h H locs hP hD hS pc ls hd
    cases h
    subst hQ
    exact W.iret hx hb hr (fun t ht hW => ⟨⟨_, (), rfl, rfl, by rw [ht]; exact hP, RK.warm hW hK, hD⟩, hS.F ht⟩) hS.2.2 hd
  clear hQ
  unfold p_Mo_find at h
  have L_11 : ∀ (k3 : Int32 → Option Int32) (hk3 : ∀ (x4 : Int32), k3 x4 = some rr → ∀ (H : Heap) (locs : List Loc), va_P K.1 vwCl (wY K A σ) H → va_D (YF A) (wY K A σ) → va_S (YF A) s.heap H locs → ∀ ls : Array Slot, lv_has ls 6 [(0, .ref (A 0)), (2, .long x2), (4, .int x4)] → W p l e (headSpec w_Mo_find r_Mo_find).room s m args below meth c H locs 0 0 Q (F0 m 3 ls [])) (n : Nat) (x4 : Int32) (x5 : Int32), p_Mo_find_L11 σ x1 x2 k3 n x4 x5 = some rr → ∀ (H : Heap) (locs : List Loc), va_P K.1 vwCl (wY K A σ) H → va_D (YF A) (wY K A σ) → va_S (YF A) s.heap H locs → ∀ ls : Array Slot, lv_has ls 6 [(0, .ref (A 0)), (2, .long x2), (4, .int x4), (5, .int x5)] → W p l e (headSpec w_Mo_find r_Mo_find).room s m args below meth c H locs 0 0 Q (F0 m 11 ls []) := by
    intro k3 hk3
    intro n
    induction n with
    | zero => intro _ _ h; cases h
    | succ n ih =>
      intro x4 x5 h H locs hP hD hS ls hl
      rw [p_Mo_find_L11] at h
      refine lv_iload hx hb d_Mo_find_11 (lv_at hl 3 rfl) ?_
      refine lv_aload_n hx hb d_Mo_find_13 rfl (lv_at hl 0 rfl) ?_
      refine gf_Mo_118 hx hb hg hown hK hP d_Mo_find_14 ?_
      refine lv_icmp_ge (tgt := 66) hx hb d_Mo_find_17 (by decide) (fun c_17 => ?_) (fun c_17 => ?_)
      · replace h := itp c_17 h
        refine lv_aload_n hx hb d_Mo_find_66 rfl (lv_at hl 0 rfl) ?_
        refine lv_iload hx hb d_Mo_find_67 (lv_at hl 2 rfl) ?_
        obtain ⟨v_69, e_69, h⟩ := bd1_some h
        refine Y_calli (va_runV (As := [.int x4]) (rest := []) ⟨hx, hb, hml, hown, hts⟩ (c_Mo_parent l K A e_69) (cwV 1 hts (gd_V wd_1171 wd_1173 wp_74 wd_10 wd_1174) rfl rfl rfl dv_Mo_parent ⟨Nat.le_of_ble_eq_true rfl, Nat.le_of_ble_eq_true rfl⟩) (Y_pv_0 hK hP hD) rfl rfl hl.1 rfl (lv_room (Nat.le_of_ble_eq_true rfl)) d_Mo_find_69 ⟨Nat.le_of_ble_eq_true rfl, Nat.le_of_ble_eq_true rfl⟩) hS (fun H locs hP hD hS => ?_)
        refine lv_istore (lv' := [(4, .int v_69), (0, .ref (A 0)), (2, .long x2), (5, .int x5)]) hx hb d_Mo_find_72 hl (by decide) rfl (fun ls hl => ?_)
        refine lv_goto (tgt := 3) hx hb d_Mo_find_74 (by decide) ?_
        exact hk3 _ h _ _ hP hD hS ls (lv_sub hl [1, 2, 0] rfl)
      · replace h := itf c_17 h
        refine lv_aload_n hx hb d_Mo_find_20 rfl (lv_at hl 0 rfl) ?_
        refine gf_Mo_29 hx hb hg hown hK hP d_Mo_find_21 ?_
        refine lv_iload hx hb d_Mo_find_24 (lv_at hl 3 rfl) ?_
        obtain ⟨i_26, h⟩ := itn h
        refine Yra_7 hx hb hK hP i_26 d_Mo_find_26 ?_
        obtain ⟨v_27, e_27, h⟩ := bd1_some h
        refine R_cpi (va_runS (As := [.int (σ.2.1 7 x5.toNatClampNeg)]) (rest := []) ⟨hx, hb, hml, hown, hts⟩ (c_Mo_declares l e_27) (va_cwS 1 hts (gd_S wd_1136 wd_1137 wd_10 wd_1138) rfl rfl rfl ds_Mo_declares ⟨Nat.le_of_ble_eq_true rfl, Nat.le_of_ble_eq_true rfl⟩) (P_ps hK.2) rfl rfl hl.1 rfl (lv_room (Nat.le_of_ble_eq_true rfl)) d_Mo_find_27 ⟨Nat.le_of_ble_eq_true rfl, Nat.le_of_ble_eq_true rfl⟩) hP hD hS (fun H locs hP hD hS => ?_)
        refine lv_if_eq (tgt := 60) hx hb d_Mo_find_30 (by decide) (fun c_30 => ?_) (fun c_30 => ?_)
        · replace h := itp c_30 h
          refine lv_iinc (v := x5 + 1) (lv' := [(5, .int (x5 + 1)), (0, .ref (A 0)), (2, .long x2), (4, .int x4)]) hx hb d_Mo_find_60 hl (k := 3) rfl (by first | rfl | decide) (by decide) rfl (fun ls hl => ?_)
          refine lv_goto (tgt := 11) hx hb d_Mo_find_63 (by decide) ?_
          exact ih _ _ h _ _ hP hD hS ls (lv_sub hl [1, 2, 3, 0] rfl)
        · replace h := itf c_30 h
          refine lv_aload_n hx hb d_Mo_find_33 rfl (lv_at hl 0 rfl) ?_
          refine gf_Mo_32 hx hb hg hown hK hP d_Mo_find_34 ?_
          refine lv_iload hx hb d_Mo_find_37 (lv_at hl 3 rfl) ?_
          obtain ⟨i_39, h⟩ := itn h
          refine Yra_8 hx hb hK hP i_39 d_Mo_find_39 ?_
          refine lv_iload hx hb d_Mo_find_40 (lv_at hl 2 rfl) ?_
          refine lv_icmp_ne (tgt := 60) hx hb d_Mo_find_42 (by decide) (fun c_42 => ?_) (fun c_42 => ?_)
          · replace h := itf c_42 h
            refine lv_iinc (v := x5 + 1) (lv' := [(5, .int (x5 + 1)), (0, .ref (A 0)), (2, .long x2), (4, .int x4)]) hx hb d_Mo_find_60 hl (k := 3) rfl (by first | rfl | decide) (by decide) rfl (fun ls hl => ?_)
            refine lv_goto (tgt := 11) hx hb d_Mo_find_63 (by decide) ?_
            exact ih _ _ h _ _ hP hD hS ls (lv_sub hl [1, 2, 3, 0] rfl)
          · replace h := itp c_42 h
            refine lv_aload_n hx hb d_Mo_find_45 rfl (lv_at hl 0 rfl) ?_
            refine gf_Mo_19 hx hb hg hown hK hP d_Mo_find_46 ?_
            refine lv_iload hx hb d_Mo_find_49 (lv_at hl 3 rfl) ?_
            obtain ⟨i_51, h⟩ := itn h
            refine Yra_4 hx hb hK hP i_51 d_Mo_find_51 ?_
            refine lv_lload_n hx hb d_Mo_find_52 rfl (lv_at hl 1 rfl) ?_
            refine W.lcmp hx hb d_Mo_find_53 ?_
            refine lv_if_ne (tgt := 60) hx hb d_Mo_find_54 (by decide) (fun c_54 => ?_) (fun c_54 => ?_)
            · replace h := itf c_54 h
              refine lv_iinc (v := x5 + 1) (lv' := [(5, .int (x5 + 1)), (0, .ref (A 0)), (2, .long x2), (4, .int x4)]) hx hb d_Mo_find_60 hl (k := 3) rfl (by first | rfl | decide) (by decide) rfl (fun ls hl => ?_)
              refine lv_goto (tgt := 11) hx hb d_Mo_find_63 (by decide) ?_
              exact ih _ _ h _ _ hP hD hS ls (lv_sub hl [1, 2, 3, 0] rfl)
            · replace h := itp c_54 h
              refine lv_iload hx hb d_Mo_find_57 (lv_at hl 3 rfl) ?_
              exact hRet _ h _ _ hP hD hS _ _ d_Mo_find_59
  have L_3 : ∀ (n : Nat) (x4 : Int32), p_Mo_find_L3 σ x1 x2 n x4 = some rr → ∀ (H : Heap) (locs : List Loc), va_P K.1 vwCl (wY K A σ) H → va_D (YF A) (wY K A σ) → va_S (YF A) s.heap H locs → ∀ ls : Array Slot, lv_has ls 6 [(0, .ref (A 0)), (2, .long x2), (4, .int x4)] → W p l e (headSpec w_Mo_find r_Mo_find).room s m args below meth c H locs 0 0 Q (F0 m 3 ls []) := by
    intro n
    induction n with
    | zero => intro _ h; cases h
    | succ n ih =>
      intro x4 h H locs hP hD hS ls hl
      rw [p_Mo_find_L3] at h
      refine lv_iload hx hb d_Mo_find_3 (lv_at hl 2 rfl) ?_
      refine lv_if_lt (tgt := 77) hx hb d_Mo_find_5 (by decide) (fun c_5 => ?_) (fun c_5 => ?_)
      · replace h := itp c_5 h
        refine lv_iconst (v := (-1)) hx hb d_Mo_find_77 (by decide) ?_
        exact hRet _ h _ _ hP hD hS _ _ d_Mo_find_78
      · replace h := itf c_5 h
        refine lv_iconst (v := 0) hx hb d_Mo_find_8 (by decide) ?_
        refine lv_istore (lv' := [(5, .int 0), (0, .ref (A 0)), (2, .long x2), (4, .int x4)]) hx hb d_Mo_find_9 hl (by decide) rfl (fun ls hl => ?_)
        exact L_11 _ ih FU _ _ h _ _ hP hD hS ls (lv_sub hl [1, 2, 3, 0] rfl)
  refine lv_iload_n hx hb d_Mo_find_0 rfl (lv_at hl 1 rfl) ?_
  refine lv_istore (lv' := [(4, .int x1), (0, .ref (A 0)), (1, .int x1), (2, .long x2)]) hx hb d_Mo_find_1 hl (by decide) rfl (fun ls hl => ?_)
  exact L_3  FU _ h _ _ hP hD hS ls (lv_sub hl [1, 3, 0] rfl)
def p_Mo_declared (σ : Sto) (x1 : Int32) : Option Int32 :=
  if inR (x1 - 1) 124 then (if (σ.2.1 3 ((x1 - 1).toNatClampNeg)) = 3 then
      some (-1)
    else
      bd1 (p_Mo_classOf σ (x1 - 1)) fun v_20 =>
      some v_20) else none
abbrev w_Mo_declared : List Cond := Cond.code y_Mo_declared b_Mo_declared 2 (some .int) :: Tg
abbrev r_Mo_declared : Room := { frames := 1, cells := 0, slots := 0, locals := 22 }
theorem dv_Mo_declared : y_Mo_declared.cls = "LanguageServerModel" ∧ y_Mo_declared.cls ≠ "java/lang/invoke/MethodHandle" ∧ y_Mo_declared.cls ≠ "java/lang/invoke/VarHandle" ∧ (parseMethodDescriptor y_Mo_declared.desc).map (fun d => d.parameters.length) = some 1 := by decide +kernel
set_option maxHeartbeats 4000000 in
set_option maxRecDepth 100000 in
theorem c_Mo_declared (l : Launch) (K : Kst) (A : Nat → Nat) {σ : Sto} {x1 : Int32} {rr : Int32} (h : p_Mo_declared σ x1 = some rr) : Met l y_Mo_declared w_Mo_declared r_Mo_declared (va_Pc [.ref (A 0), .int x1] (YB K A σ)) (YQi K A rr σ) 0 0 (YF A) := by
  refine Met.ofW (cc := b_Mo_declared) (maxL := 2) (ret := (some .int)) (by decide) rfl ?_
  intro p e s m args below meth c s₁ B hml hv
  obtain ⟨rfl, hP, hK, hD⟩ := hv
  have hx := B.exec
  have hb := B.bytes
  have hr := B.returns
  have hts := atoms_spec (ws := w_Mo_declared) B.pre
  have hg : ∀ w ∈ Tg, w.before _ s = true := fun w q => hts w (List.mem_cons_of_mem _ q)
  have hown : s.vm.findClass "LanguageServerModel" = some m.cls := findClass_of_methodNamed B.named
  have hlocks := B.notSynchronized
  have hS : va_S (YF A) s.heap s.heap [] := va_S.rf
  have hl := lv_entry ([.ref (A 0), .int x1]) (n := 2) (Nat.le_of_ble_eq_true rfl)
  rw [lg_entry_eq]
  generalize (lg_sl ([.ref (A 0), .int x1]) ++ List.replicate (2 - (lg_sl ([.ref (A 0), .int x1])).length) Slot.unset).toArray = ls at hl ⊢
  have hl : lv_has ls 2 [(0, .ref (A 0)), (1, .int x1)] := hl
  generalize hargs : ([.ref (A 0), .int x1] : List Value).toArray = args at hg hts ⊢
  obtain ⟨Q, hQ⟩ : ∃ Q, Q = MQ below (YQi K A rr σ) args s 0 0 (YF A) := ⟨_, rfl⟩
  rw [← hQ]
  have hRet : ∀ (v : Int32), some v = some rr → ∀ (H : Heap) (locs : List Loc), va_P K.1 vwCl (wY K A σ) H → va_D (YF A) (wY K A σ) → va_S (YF A) s.heap H locs → ∀ (pc : Nat) (ls : Array Slot), decode b_Mo_declared pc = .ok (.ireturn, 1) → W p l e (headSpec w_Mo_declared r_Mo_declared).room s m args below meth c H locs 0 0 Q (F0 m pc ls [.int v]) := by
    intro v h H locs hP hD hS pc ls hd
    cases h
    subst hQ
    exact W.iret hx hb hr (fun t ht hW => ⟨⟨_, (), rfl, rfl, by rw [ht]; exact hP, RK.warm hW hK, hD⟩, hS.F ht⟩) hS.2.2 hd
  clear hQ
  unfold p_Mo_declared at h
  refine lv_aload_n hx hb d_Mo_declared_0 rfl (lv_at hl 0 rfl) ?_
  refine gf_Mo_16 hx hb hg hown hK hP d_Mo_declared_1 ?_
  refine lv_iload_n hx hb d_Mo_declared_4 rfl (lv_at hl 1 rfl) ?_
  refine lv_iconst (v := 1) hx hb d_Mo_declared_5 (by decide) ?_
  refine lv_isub hx hb d_Mo_declared_6 ?_
  obtain ⟨i_7, h⟩ := itn h
  refine Yra_3 hx hb hK hP i_7 d_Mo_declared_7 ?_
  refine lv_iconst (v := 3) hx hb d_Mo_declared_8 (by decide) ?_
  refine lv_icmp_ne (tgt := 16) hx hb d_Mo_declared_9 (by decide) (fun c_9 => ?_) (fun c_9 => ?_)
  · replace h := itf c_9 h
    refine lv_aload_n hx hb d_Mo_declared_16 rfl (lv_at hl 0 rfl) ?_
    refine lv_iload_n hx hb d_Mo_declared_17 rfl (lv_at hl 1 rfl) ?_
    refine lv_iconst (v := 1) hx hb d_Mo_declared_18 (by decide) ?_
    refine lv_isub hx hb d_Mo_declared_19 ?_
    obtain ⟨v_20, e_20, h⟩ := bd1_some h
    refine Y_calli (va_runV (As := [.int (x1 - 1)]) (rest := []) ⟨hx, hb, hml, hown, hts⟩ (c_Mo_classOf l K A e_20) (cwV 1 hts (gd_V wd_1120 wd_1122 wp_62 wd_10 wd_1123) rfl rfl rfl dv_Mo_classOf ⟨Nat.le_of_ble_eq_true rfl, Nat.le_of_ble_eq_true rfl⟩) (Y_pv_0 hK hP hD) rfl rfl hl.1 rfl (lv_room (Nat.le_of_ble_eq_true rfl)) d_Mo_declared_20 ⟨Nat.le_of_ble_eq_true rfl, Nat.le_of_ble_eq_true rfl⟩) hS (fun H locs hP hD hS => ?_)
    exact hRet _ h _ _ hP hD hS _ _ d_Mo_declared_23
  · replace h := itp c_9 h
    refine lv_iconst (v := (-1)) hx hb d_Mo_declared_12 (by decide) ?_
    refine lv_goto (tgt := 23) hx hb d_Mo_declared_13 (by decide) ?_
    exact hRet _ h _ _ hP hD hS _ _ d_Mo_declared_23
def p_Mo_local_b29 (σ : Sto) (x1 : Int32) (x2 : Int32) (k2 : Int32 → Option Int32) (x3 : Int32) : Option Int32 :=
  if inR x3 124 then if inR x1 124 then (if (σ.2.1 9 x3.toNatClampNeg) = (σ.2.1 9 x1.toNatClampNeg) then
      if inR x3 124 then if inR x1 124 then (if (σ.2.1 8 x3.toNatClampNeg) = (σ.2.1 8 x1.toNatClampNeg) then
        if inR x3 124 then if inR x1 124 then (if (lg_cmp (σ.2.2 x3.toNatClampNeg) (σ.2.2 x1.toNatClampNeg)) = 0 then
          some x3
        else
          k2 (x3 + 1)) else none else none
      else
        k2 (x3 + 1)) else none else none
    else
      k2 (x3 + 1)) else none else none
def p_Mo_local_L2 (σ : Sto) (x1 : Int32) (x2 : Int32) : Nat → Int32 → Option Int32
  | 0, _ => none
  | n + 1, x3 =>
    (if x2 ≤ x3 then
        some (-1)
      else
        if inR x3 124 then (if (σ.2.1 7 x3.toNatClampNeg) = 7 then
          p_Mo_local_b29 σ x1 x2 (p_Mo_local_L2 σ x1 x2 n) x3
        else
          if inR x3 124 then (if (σ.2.1 7 x3.toNatClampNeg) = 8 then
            p_Mo_local_b29 σ x1 x2 (p_Mo_local_L2 σ x1 x2 n) x3
          else
            p_Mo_local_L2 σ x1 x2 n (x3 + 1)) else none) else none)
def p_Mo_local (σ : Sto) (x1 : Int32) (x2 : Int32) : Option Int32 :=
  p_Mo_local_L2 σ x1 x2 FU 0
abbrev w_Mo_locl : List Cond := Cond.code y_Mo_locl b_Mo_locl 4 (some .int) :: Tg
abbrev r_Mo_locl : Room := { frames := 0, cells := 0, slots := 0, locals := 0 }
theorem dv_Mo_locl : y_Mo_locl.cls = "LanguageServerModel" ∧ y_Mo_locl.cls ≠ "java/lang/invoke/MethodHandle" ∧ y_Mo_locl.cls ≠ "java/lang/invoke/VarHandle" ∧ (parseMethodDescriptor y_Mo_locl.desc).map (fun d => d.parameters.length) = some 2 := by decide +kernel
set_option maxHeartbeats 4000000 in
set_option maxRecDepth 100000 in
theorem c_Mo_locl (l : Launch) (K : Kst) (A : Nat → Nat) {σ : Sto} {x1 : Int32} {x2 : Int32} {rr : Int32} (h : p_Mo_local σ x1 x2 = some rr) : Met l y_Mo_locl w_Mo_locl r_Mo_locl (va_Pc [.ref (A 0), .int x1, .int x2] (YB K A σ)) (YQi K A rr σ) 0 0 (YF A) := by
  refine Met.ofW (cc := b_Mo_locl) (maxL := 4) (ret := (some .int)) (by decide) rfl ?_
  intro p e s m args below meth c s₁ B hml hv
  obtain ⟨rfl, hP, hK, hD⟩ := hv
  have hx := B.exec
  have hb := B.bytes
  have hr := B.returns
  have hts := atoms_spec (ws := w_Mo_locl) B.pre
  have hg : ∀ w ∈ Tg, w.before _ s = true := fun w q => hts w (List.mem_cons_of_mem _ q)
  have hown : s.vm.findClass "LanguageServerModel" = some m.cls := findClass_of_methodNamed B.named
  have hlocks := B.notSynchronized
  have hS : va_S (YF A) s.heap s.heap [] := va_S.rf
  have hl := lv_entry ([.ref (A 0), .int x1, .int x2]) (n := 4) (Nat.le_of_ble_eq_true rfl)
  rw [lg_entry_eq]
  generalize (lg_sl ([.ref (A 0), .int x1, .int x2]) ++ List.replicate (4 - (lg_sl ([.ref (A 0), .int x1, .int x2])).length) Slot.unset).toArray = ls at hl ⊢
  have hl : lv_has ls 4 [(0, .ref (A 0)), (1, .int x1), (2, .int x2)] := hl
  generalize hargs : ([.ref (A 0), .int x1, .int x2] : List Value).toArray = args at hg hts ⊢
  obtain ⟨Q, hQ⟩ : ∃ Q, Q = MQ below (YQi K A rr σ) args s 0 0 (YF A) := ⟨_, rfl⟩
  rw [← hQ]
  have hRet : ∀ (v : Int32), some v = some rr → ∀ (H : Heap) (locs : List Loc), va_P K.1 vwCl (wY K A σ) H → va_D (YF A) (wY K A σ) → va_S (YF A) s.heap H locs → ∀ (pc : Nat) (ls : Array Slot), decode b_Mo_locl pc = .ok (.ireturn, 1) → W p l e (headSpec w_Mo_locl r_Mo_locl).room s m args below meth c H locs 0 0 Q (F0 m pc ls [.int v]) := by
    intro v h H locs hP hD hS pc ls hd
    cases h
    subst hQ
    exact W.iret hx hb hr (fun t ht hW => ⟨⟨_, (), rfl, rfl, by rw [ht]; exact hP, RK.warm hW hK, hD⟩, hS.F ht⟩) hS.2.2 hd
  clear hQ
  unfold p_Mo_local at h
  have J_29 : ∀ (k2 : Int32 → Option Int32) (hk2 : ∀ (x3 : Int32), k2 x3 = some rr → ∀ (H : Heap) (locs : List Loc), va_P K.1 vwCl (wY K A σ) H → va_D (YF A) (wY K A σ) → va_S (YF A) s.heap H locs → ∀ ls : Array Slot, lv_has ls 4 [(0, .ref (A 0)), (1, .int x1), (2, .int x2), (3, .int x3)] → W p l e (headSpec w_Mo_locl r_Mo_locl).room s m args below meth c H locs 0 0 Q (F0 m 2 ls [])) (x3 : Int32), p_Mo_local_b29 σ x1 x2 k2 x3 = some rr → ∀ (H : Heap) (locs : List Loc), va_P K.1 vwCl (wY K A σ) H → va_D (YF A) (wY K A σ) → va_S (YF A) s.heap H locs → ∀ ls : Array Slot, lv_has ls 4 [(0, .ref (A 0)), (1, .int x1), (2, .int x2), (3, .int x3)] → W p l e (headSpec w_Mo_locl r_Mo_locl).room s m args below meth c H locs 0 0 Q (F0 m 29 ls []) := by
    intro k2 hk2 x3 h H locs hP hD hS ls hl
    rw [p_Mo_local_b29] at h
    refine lv_aload_n hx hb d_Mo_locl_29 rfl (lv_at hl 0 rfl) ?_
    refine gf_Mo_35 hx hb hg hown hK hP d_Mo_locl_30 ?_
    refine lv_iload_n hx hb d_Mo_locl_33 rfl (lv_at hl 3 rfl) ?_
    obtain ⟨i_34, h⟩ := itn h
    refine Yra_9 hx hb hK hP i_34 d_Mo_locl_34 ?_
    refine lv_aload_n hx hb d_Mo_locl_35 rfl (lv_at hl 0 rfl) ?_
    refine gf_Mo_35 hx hb hg hown hK hP d_Mo_locl_36 ?_
    refine lv_iload_n hx hb d_Mo_locl_39 rfl (lv_at hl 1 rfl) ?_
    obtain ⟨i_40, h⟩ := itn h
    refine Yra_9 hx hb hK hP i_40 d_Mo_locl_40 ?_
    refine lv_icmp_ne (tgt := 77) hx hb d_Mo_locl_41 (by decide) (fun c_41 => ?_) (fun c_41 => ?_)
    · replace h := itf c_41 h
      refine lv_iinc (v := x3 + 1) (lv' := [(3, .int (x3 + 1)), (0, .ref (A 0)), (1, .int x1), (2, .int x2)]) hx hb d_Mo_locl_77 hl (k := 3) rfl (by first | rfl | decide) (by decide) rfl (fun ls hl => ?_)
      refine lv_goto (tgt := 2) hx hb d_Mo_locl_80 (by decide) ?_
      exact hk2 _ h _ _ hP hD hS ls (lv_sub hl [1, 2, 3, 0] rfl)
    · replace h := itp c_41 h
      refine lv_aload_n hx hb d_Mo_locl_44 rfl (lv_at hl 0 rfl) ?_
      refine gf_Mo_32 hx hb hg hown hK hP d_Mo_locl_45 ?_
      refine lv_iload_n hx hb d_Mo_locl_48 rfl (lv_at hl 3 rfl) ?_
      obtain ⟨i_49, h⟩ := itn h
      refine Yra_8 hx hb hK hP i_49 d_Mo_locl_49 ?_
      refine lv_aload_n hx hb d_Mo_locl_50 rfl (lv_at hl 0 rfl) ?_
      refine gf_Mo_32 hx hb hg hown hK hP d_Mo_locl_51 ?_
      refine lv_iload_n hx hb d_Mo_locl_54 rfl (lv_at hl 1 rfl) ?_
      obtain ⟨i_55, h⟩ := itn h
      refine Yra_8 hx hb hK hP i_55 d_Mo_locl_55 ?_
      refine lv_icmp_ne (tgt := 77) hx hb d_Mo_locl_56 (by decide) (fun c_56 => ?_) (fun c_56 => ?_)
      · replace h := itf c_56 h
        refine lv_iinc (v := x3 + 1) (lv' := [(3, .int (x3 + 1)), (0, .ref (A 0)), (1, .int x1), (2, .int x2)]) hx hb d_Mo_locl_77 hl (k := 3) rfl (by first | rfl | decide) (by decide) rfl (fun ls hl => ?_)
        refine lv_goto (tgt := 2) hx hb d_Mo_locl_80 (by decide) ?_
        exact hk2 _ h _ _ hP hD hS ls (lv_sub hl [1, 2, 3, 0] rfl)
      · replace h := itp c_56 h
        refine lv_aload_n hx hb d_Mo_locl_59 rfl (lv_at hl 0 rfl) ?_
        refine gf_Mo_19 hx hb hg hown hK hP d_Mo_locl_60 ?_
        refine lv_iload_n hx hb d_Mo_locl_63 rfl (lv_at hl 3 rfl) ?_
        obtain ⟨i_64, h⟩ := itn h
        refine Yra_4 hx hb hK hP i_64 d_Mo_locl_64 ?_
        refine lv_aload_n hx hb d_Mo_locl_65 rfl (lv_at hl 0 rfl) ?_
        refine gf_Mo_19 hx hb hg hown hK hP d_Mo_locl_66 ?_
        refine lv_iload_n hx hb d_Mo_locl_69 rfl (lv_at hl 1 rfl) ?_
        obtain ⟨i_70, h⟩ := itn h
        refine Yra_4 hx hb hK hP i_70 d_Mo_locl_70 ?_
        refine W.lcmp hx hb d_Mo_locl_71 ?_
        refine lv_if_ne (tgt := 77) hx hb d_Mo_locl_72 (by decide) (fun c_72 => ?_) (fun c_72 => ?_)
        · replace h := itf c_72 h
          refine lv_iinc (v := x3 + 1) (lv' := [(3, .int (x3 + 1)), (0, .ref (A 0)), (1, .int x1), (2, .int x2)]) hx hb d_Mo_locl_77 hl (k := 3) rfl (by first | rfl | decide) (by decide) rfl (fun ls hl => ?_)
          refine lv_goto (tgt := 2) hx hb d_Mo_locl_80 (by decide) ?_
          exact hk2 _ h _ _ hP hD hS ls (lv_sub hl [1, 2, 3, 0] rfl)
        · replace h := itp c_72 h
          refine lv_iload_n hx hb d_Mo_locl_75 rfl (lv_at hl 3 rfl) ?_
          exact hRet _ h _ _ hP hD hS _ _ d_Mo_locl_76
  have L_2 : ∀ (n : Nat) (x3 : Int32), p_Mo_local_L2 σ x1 x2 n x3 = some rr → ∀ (H : Heap) (locs : List Loc), va_P K.1 vwCl (wY K A σ) H → va_D (YF A) (wY K A σ) → va_S (YF A) s.heap H locs → ∀ ls : Array Slot, lv_has ls 4 [(0, .ref (A 0)), (1, .int x1), (2, .int x2), (3, .int x3)] → W p l e (headSpec w_Mo_locl r_Mo_locl).room s m args below meth c H locs 0 0 Q (F0 m 2 ls []) := by
    intro n
    induction n with
    | zero => intro _ h; cases h
    | succ n ih =>
      intro x3 h H locs hP hD hS ls hl
      rw [p_Mo_local_L2] at h
      refine lv_iload_n hx hb d_Mo_locl_2 rfl (lv_at hl 3 rfl) ?_
      refine lv_iload_n hx hb d_Mo_locl_3 rfl (lv_at hl 2 rfl) ?_
      refine lv_icmp_ge (tgt := 83) hx hb d_Mo_locl_4 (by decide) (fun c_4 => ?_) (fun c_4 => ?_)
      · replace h := itp c_4 h
        refine lv_iconst (v := (-1)) hx hb d_Mo_locl_83 (by decide) ?_
        exact hRet _ h _ _ hP hD hS _ _ d_Mo_locl_84
      · replace h := itf c_4 h
        refine lv_aload_n hx hb d_Mo_locl_7 rfl (lv_at hl 0 rfl) ?_
        refine gf_Mo_29 hx hb hg hown hK hP d_Mo_locl_8 ?_
        refine lv_iload_n hx hb d_Mo_locl_11 rfl (lv_at hl 3 rfl) ?_
        obtain ⟨i_12, h⟩ := itn h
        refine Yra_7 hx hb hK hP i_12 d_Mo_locl_12 ?_
        refine lv_bipush (v := 7) hx hb d_Mo_locl_13 (by decide) ?_
        refine lv_icmp_eq (tgt := 29) hx hb d_Mo_locl_15 (by decide) (fun c_15 => ?_) (fun c_15 => ?_)
        · replace h := itp c_15 h
          exact J_29 _ ih _ h _ _ hP hD hS ls (lv_sub hl [0, 1, 2, 3] rfl)
        · replace h := itf c_15 h
          refine lv_aload_n hx hb d_Mo_locl_18 rfl (lv_at hl 0 rfl) ?_
          refine gf_Mo_29 hx hb hg hown hK hP d_Mo_locl_19 ?_
          refine lv_iload_n hx hb d_Mo_locl_22 rfl (lv_at hl 3 rfl) ?_
          obtain ⟨i_23, h⟩ := itn h
          refine Yra_7 hx hb hK hP i_23 d_Mo_locl_23 ?_
          refine lv_bipush (v := 8) hx hb d_Mo_locl_24 (by decide) ?_
          refine lv_icmp_ne (tgt := 77) hx hb d_Mo_locl_26 (by decide) (fun c_26 => ?_) (fun c_26 => ?_)
          · replace h := itf c_26 h
            refine lv_iinc (v := x3 + 1) (lv' := [(3, .int (x3 + 1)), (0, .ref (A 0)), (1, .int x1), (2, .int x2)]) hx hb d_Mo_locl_77 hl (k := 3) rfl (by first | rfl | decide) (by decide) rfl (fun ls hl => ?_)
            refine lv_goto (tgt := 2) hx hb d_Mo_locl_80 (by decide) ?_
            exact ih _ h _ _ hP hD hS ls (lv_sub hl [1, 2, 3, 0] rfl)
          · replace h := itp c_26 h
            exact J_29 _ ih _ h _ _ hP hD hS ls (lv_sub hl [0, 1, 2, 3] rfl)
  refine lv_iconst (v := 0) hx hb d_Mo_locl_0 (by decide) ?_
  refine lv_istore_n (lv' := [(3, .int 0), (0, .ref (A 0)), (1, .int x1), (2, .int x2)]) hx hb d_Mo_locl_1 rfl hl (by decide) rfl (fun ls hl => ?_)
  exact L_2  FU _ h _ _ hP hD hS ls (lv_sub hl [1, 2, 3, 0] rfl)
def p_Mo_note (σ : Sto) (x1 : Int32) (x2 : Int32) : Option Sto :=
  if inR x1 124 then if inR x1 124 then some (sA σ 13 x1.toNatClampNeg ((σ.2.1 13 x1.toNatClampNeg) ||| ((1 : Int32) <<< (x2 &&& 31)))) else none else none
abbrev w_Mo_note : List Cond := Cond.code y_Mo_note b_Mo_note 3 none :: Tg
abbrev r_Mo_note : Room := { frames := 0, cells := 0, slots := 0, locals := 0 }
theorem dv_Mo_note : y_Mo_note.cls = "LanguageServerModel" ∧ y_Mo_note.cls ≠ "java/lang/invoke/MethodHandle" ∧ y_Mo_note.cls ≠ "java/lang/invoke/VarHandle" ∧ (parseMethodDescriptor y_Mo_note.desc).map (fun d => d.parameters.length) = some 2 := by decide +kernel
set_option maxHeartbeats 4000000 in
set_option maxRecDepth 100000 in
theorem c_Mo_note (l : Launch) (K : Kst) (A : Nat → Nat) {σ : Sto} {x1 : Int32} {x2 : Int32} {ss : Sto} (h : p_Mo_note σ x1 x2 = some ss) : Met l y_Mo_note w_Mo_note r_Mo_note (va_Pc [.ref (A 0), .int x1, .int x2] (YB K A σ)) (YQv K A ss) 0 0 (YF A) := by
  refine Met.ofW (cc := b_Mo_note) (maxL := 3) (ret := none) (by decide) rfl ?_
  intro p e s m args below meth c s₁ B hml hv
  obtain ⟨rfl, hP, hK, hD⟩ := hv
  have hx := B.exec
  have hb := B.bytes
  have hr := B.returns
  have hts := atoms_spec (ws := w_Mo_note) B.pre
  have hg : ∀ w ∈ Tg, w.before _ s = true := fun w q => hts w (List.mem_cons_of_mem _ q)
  have hown : s.vm.findClass "LanguageServerModel" = some m.cls := findClass_of_methodNamed B.named
  have hlocks := B.notSynchronized
  have hS : va_S (YF A) s.heap s.heap [] := va_S.rf
  have hl := lv_entry ([.ref (A 0), .int x1, .int x2]) (n := 3) (Nat.le_of_ble_eq_true rfl)
  rw [lg_entry_eq]
  generalize (lg_sl ([.ref (A 0), .int x1, .int x2]) ++ List.replicate (3 - (lg_sl ([.ref (A 0), .int x1, .int x2])).length) Slot.unset).toArray = ls at hl ⊢
  have hl : lv_has ls 3 [(0, .ref (A 0)), (1, .int x1), (2, .int x2)] := hl
  generalize hargs : ([.ref (A 0), .int x1, .int x2] : List Value).toArray = args at hg hts ⊢
  obtain ⟨Q, hQ⟩ : ∃ Q, Q = MQ below (YQv K A ss) args s 0 0 (YF A) := ⟨_, rfl⟩
  rw [← hQ]
  have hRet : ∀ (σ : Sto), some σ = some ss → ∀ (H : Heap) (locs : List Loc), va_P K.1 vwCl (wY K A σ) H → va_D (YF A) (wY K A σ) → va_S (YF A) s.heap H locs → ∀ (pc : Nat) (ls : Array Slot), decode b_Mo_note pc = .ok (.return_, 1) → W p l e (headSpec w_Mo_note r_Mo_note).room s m args below meth c H locs 0 0 Q (F0 m pc ls []) := by
    intro σ h H locs hP hD hS pc ls hd
    cases h
    subst hQ
    exact W.vret hx hb hr (fun t ht hW => ⟨⟨(), rfl, trivial, by rw [ht]; exact hP, RK.warm hW hK, hD⟩, hS.F ht⟩) hS.2.2 hd
  clear hQ
  unfold p_Mo_note at h
  refine lv_aload_n hx hb d_Mo_note_0 rfl (lv_at hl 0 rfl) ?_
  refine gf_Mo_47 hx hb hg hown hK hP d_Mo_note_1 ?_
  refine lv_iload_n hx hb d_Mo_note_4 rfl (lv_at hl 1 rfl) ?_
  refine lv_dup2_11 hx hb d_Mo_note_5 rfl rfl ?_
  obtain ⟨i_6, h⟩ := itn h
  refine Yra_13 hx hb hK hP i_6 d_Mo_note_6 ?_
  refine lv_iconst (v := 1) hx hb d_Mo_note_7 (by decide) ?_
  refine lv_iload_n hx hb d_Mo_note_8 rfl (lv_at hl 2 rfl) ?_
  refine lv_ishl hx hb d_Mo_note_9 ?_
  refine lv_ior hx hb d_Mo_note_10 ?_
  obtain ⟨i_11, h⟩ := itn h
  refine Ywa_13 hx hb hK hP hD hS i_11 d_Mo_note_11 (fun H locs hP hD hS => ?_)
  exact hRet _ h _ _ hP hD hS _ _ d_Mo_note_12
