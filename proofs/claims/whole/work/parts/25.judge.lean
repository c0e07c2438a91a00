def p_Judge_enter (σ : Sto) (x1 : Int32) (x2 : Int32) : Option Sto :=
  (if x2 = 1 then
      if inR x1 121 then some (sS σ 13 (σ.2.1 12 x1.toNatClampNeg)) else none
    else (if x2 = 3 then
      some (sS σ 14 x1)
    else (if x2 = 5 then
      some (sS σ 15 x1)
    else (if x2 = 8 then
      bd1 (p_Outline_typeNamed σ x1) fun v_93 =>
      if inR (σ.1 12) 9 then some (sA σ 27 ((σ.1 12).toNatClampNeg) v_93) else none
    else some σ))))
abbrev w_Judge_enter : List Cond := Cond.code y_Judge_enter b_Judge_enter 3 none :: Tg
abbrev r_Judge_enter : Room := { frames := 1, cells := 0, slots := 0, locals := 21 }
theorem dv_Judge_enter : y_Judge_enter.cls = "LanguageServer$Judge" ∧ y_Judge_enter.cls ≠ "java/lang/invoke/MethodHandle" ∧ y_Judge_enter.cls ≠ "java/lang/invoke/VarHandle" ∧ (parseMethodDescriptor y_Judge_enter.desc).map (fun d => d.parameters.length) = some 2 := by decide +kernel
set_option maxHeartbeats 4000000 in
set_option maxRecDepth 100000 in
theorem c_Judge_enter (l : Launch) (K : Kst) (A : Nat → Nat) {σ : Sto} {x1 : Int32} {x2 : Int32} {ss : Sto} (h : p_Judge_enter σ x1 x2 = some ss) : Met l y_Judge_enter w_Judge_enter r_Judge_enter (va_Pc [.ref (A 22), .int x1, .int x2] (RB K A σ)) (RQv K A ss) 0 0 (RF A) := by
  refine Met.ofW (cc := b_Judge_enter) (maxL := 3) (ret := none) (by decide) rfl ?_
  intro p e s m args below meth c s₁ B hml hv
  obtain ⟨rfl, hP, hK, hD⟩ := hv
  have hx := B.exec
  have hb := B.bytes
  have hr := B.returns
  have hts := atoms_spec (ws := w_Judge_enter) B.pre
  have hg : ∀ w ∈ Tg, w.before _ s = true := fun w q => hts w (List.mem_cons_of_mem _ q)
  have hown : s.vm.findClass "LanguageServer$Judge" = some m.cls := findClass_of_methodNamed B.named
  have hlocks := B.notSynchronized
  have hS : va_S (RF A) s.heap s.heap [] := va_S.rf
  have hl := lv_entry ([.ref (A 22), .int x1, .int x2]) (n := 3) (Nat.le_of_ble_eq_true rfl)
  rw [lg_entry_eq]
  generalize (lg_sl ([.ref (A 22), .int x1, .int x2]) ++ List.replicate (3 - (lg_sl ([.ref (A 22), .int x1, .int x2])).length) Slot.unset).toArray = ls at hl ⊢
  have hl : lv_has ls 3 [(0, .ref (A 22)), (1, .int x1), (2, .int x2)] := hl
  generalize hargs : ([.ref (A 22), .int x1, .int x2] : List Value).toArray = args at hg hts ⊢
  obtain ⟨Q, hQ⟩ : ∃ Q, Q = MQ below (RQv K A ss) args s 0 0 (RF A) := ⟨_, rfl⟩
  rw [← hQ]
  have hRet : ∀ (σ : Sto), some σ = some ss → ∀ (H : Heap) (locs : List Loc), va_P K.1 vwCl (wR K A σ) H → va_D (RF A) (wR K A σ) → va_S (RF A) s.heap H locs → ∀ (pc : Nat) (ls : Array Slot), decode b_Judge_enter pc = .ok (.return_, 1) → W p l e (headSpec w_Judge_enter r_Judge_enter).room s m args below meth c H locs 0 0 Q (F0 m pc ls []) := by
    intro σ h H locs hP hD hS pc ls hd
    cases h
    subst hQ
    exact W.vret hx hb hr (fun t ht hW => ⟨⟨(), rfl, trivial, by rw [ht]; exact hP, RK.warm hW hK, hD⟩, hS.F ht⟩) hS.2.2 hd
  clear hQ
  unfold p_Judge_enter at h
  refine lv_iload_n hx hb d_Judge_enter_0 rfl (lv_at hl 2 rfl) ?_
  by_cases c_1_0 : x2 = 1
  · replace h := itp c_1_0 h
    refine lv_tableIn (off := 47) (tgt := 48) hx hb d_Judge_enter_1 (by rw [c_1_0]; decide) (by rw [c_1_0]; decide) (by rw [c_1_0]; first | done | rfl | decide) (by decide) ?_
    refine lv_aload_n hx hb d_Judge_enter_48 rfl (lv_at hl 0 rfl) ?_
    refine lv_aload_n hx hb d_Judge_enter_49 rfl (lv_at hl 0 rfl) ?_
    refine gf_Judge_35 hx hb hg hown hK hP d_Judge_enter_50 ?_
    refine gf_Judge_70 hx hb hg hown hK hP d_Judge_enter_53 ?_
    refine lv_iload_n hx hb d_Judge_enter_56 rfl (lv_at hl 1 rfl) ?_
    obtain ⟨i_57, h⟩ := itn h
    refine ra_12 hx hb hK hP i_57 d_Judge_enter_57 ?_
    refine pf_Judge_73 hx hb hg hown hK hP hD hS d_Judge_enter_58 (fun H locs hP hD hS => ?_)
    refine lv_goto (tgt := 100) hx hb d_Judge_enter_61 (by decide) ?_
    exact hRet _ h _ _ hP hD hS _ _ d_Judge_enter_100
  replace h := itf c_1_0 h
  by_cases c_1_1 : x2 = 3
  · replace h := itp c_1_1 h
    refine lv_tableIn (off := 63) (tgt := 64) hx hb d_Judge_enter_1 (by rw [c_1_1]; decide) (by rw [c_1_1]; decide) (by rw [c_1_1]; first | done | rfl | decide) (by decide) ?_
    refine lv_aload_n hx hb d_Judge_enter_64 rfl (lv_at hl 0 rfl) ?_
    refine lv_iload_n hx hb d_Judge_enter_65 rfl (lv_at hl 1 rfl) ?_
    refine pf_Judge_76 hx hb hg hown hK hP hD hS d_Judge_enter_66 (fun H locs hP hD hS => ?_)
    refine lv_goto (tgt := 100) hx hb d_Judge_enter_69 (by decide) ?_
    exact hRet _ h _ _ hP hD hS _ _ d_Judge_enter_100
  replace h := itf c_1_1 h
  by_cases c_1_2 : x2 = 5
  · replace h := itp c_1_2 h
    refine lv_tableIn (off := 71) (tgt := 72) hx hb d_Judge_enter_1 (by rw [c_1_2]; decide) (by rw [c_1_2]; decide) (by rw [c_1_2]; first | done | rfl | decide) (by decide) ?_
    refine lv_aload_n hx hb d_Judge_enter_72 rfl (lv_at hl 0 rfl) ?_
    refine lv_iload_n hx hb d_Judge_enter_73 rfl (lv_at hl 1 rfl) ?_
    refine pf_Judge_79 hx hb hg hown hK hP hD hS d_Judge_enter_74 (fun H locs hP hD hS => ?_)
    refine lv_goto (tgt := 100) hx hb d_Judge_enter_77 (by decide) ?_
    exact hRet _ h _ _ hP hD hS _ _ d_Judge_enter_100
  replace h := itf c_1_2 h
  by_cases c_1_3 : x2 = 8
  · replace h := itp c_1_3 h
    refine lv_tableIn (off := 79) (tgt := 80) hx hb d_Judge_enter_1 (by rw [c_1_3]; decide) (by rw [c_1_3]; decide) (by rw [c_1_3]; first | done | rfl | decide) (by decide) ?_
    refine lv_aload_n hx hb d_Judge_enter_80 rfl (lv_at hl 0 rfl) ?_
    refine gf_Judge_24 hx hb hg hown hK hP d_Judge_enter_81 ?_
    refine lv_aload_n hx hb d_Judge_enter_84 rfl (lv_at hl 0 rfl) ?_
    refine gf_Judge_43 hx hb hg hown hK hP d_Judge_enter_85 ?_
    refine lv_aload_n hx hb d_Judge_enter_88 rfl (lv_at hl 0 rfl) ?_
    refine gf_Judge_35 hx hb hg hown hK hP d_Judge_enter_89 ?_
    refine lv_iload_n hx hb d_Judge_enter_92 rfl (lv_at hl 1 rfl) ?_
    obtain ⟨v_93, e_93, h⟩ := bd1_some h
    refine R_calli (va_runV (As := [.int x1]) (rest := [.int (σ.1 12), .ref (A 27)]) ⟨hx, hb, hml, hown, hts⟩ (c_Outline_typeNamed l K A e_93) (cwV 1 hts (gd_V wd_514 wd_487 wd_488 wd_5 wd_489) rfl rfl rfl dv_Outline_typeNamed ⟨Nat.le_of_ble_eq_true rfl, Nat.le_of_ble_eq_true rfl⟩) (R_pv_8 hK hP hD) rfl rfl hl.1 rfl (lv_room (Nat.le_of_ble_eq_true rfl)) d_Judge_enter_93 ⟨Nat.le_of_ble_eq_true rfl, Nat.le_of_ble_eq_true rfl⟩) hS (fun H locs hP hD hS => ?_)
    obtain ⟨i_96, h⟩ := itn h
    refine wa_27 hx hb hK hP hD hS i_96 d_Judge_enter_96 (fun H locs hP hD hS => ?_)
    refine lv_goto (tgt := 100) hx hb d_Judge_enter_97 (by decide) ?_
    exact hRet _ h _ _ hP hD hS _ _ d_Judge_enter_100
  replace h := itf c_1_3 h
  by_cases g_1_0 : x2 = 2
  · refine lv_tableIn (off := 99) (tgt := 100) hx hb d_Judge_enter_1 (by rw [g_1_0]; decide) (by rw [g_1_0]; decide) (by rw [g_1_0]; first | done | rfl | decide) (by decide) ?_
    exact hRet _ h _ _ hP hD hS _ _ d_Judge_enter_100
  by_cases g_1_1 : x2 = 4
  · refine lv_tableIn (off := 99) (tgt := 100) hx hb d_Judge_enter_1 (by rw [g_1_1]; decide) (by rw [g_1_1]; decide) (by rw [g_1_1]; first | done | rfl | decide) (by decide) ?_
    exact hRet _ h _ _ hP hD hS _ _ d_Judge_enter_100
  by_cases g_1_2 : x2 = 6
  · refine lv_tableIn (off := 99) (tgt := 100) hx hb d_Judge_enter_1 (by rw [g_1_2]; decide) (by rw [g_1_2]; decide) (by rw [g_1_2]; first | done | rfl | decide) (by decide) ?_
    exact hRet _ h _ _ hP hD hS _ _ d_Judge_enter_100
  by_cases g_1_3 : x2 = 7
  · refine lv_tableIn (off := 99) (tgt := 100) hx hb d_Judge_enter_1 (by rw [g_1_3]; decide) (by rw [g_1_3]; decide) (by rw [g_1_3]; first | done | rfl | decide) (by decide) ?_
    exact hRet _ h _ _ hP hD hS _ _ d_Judge_enter_100
  have n_0 := lv_neT c_1_0 (a := 1) rfl
  have n_1 := lv_neT c_1_1 (a := 3) rfl
  have n_2 := lv_neT c_1_2 (a := 5) rfl
  have n_3 := lv_neT c_1_3 (a := 8) rfl
  have n_4 := lv_neT g_1_0 (a := 2) rfl
  have n_5 := lv_neT g_1_1 (a := 4) rfl
  have n_6 := lv_neT g_1_2 (a := 6) rfl
  have n_7 := lv_neT g_1_3 (a := 7) rfl
  refine lv_tableOut (tgt := 100) hx hb d_Judge_enter_1 (by omega) (by decide) ?_
  exact hRet _ h _ _ hP hD hS _ _ d_Judge_enter_100
def p_Judge_useVariable (σ : Sto) (x1 : Int32) : Option (Int32 × Sto) :=
  if inR x1 121 then bd1 (p_Outline_find σ (σ.1 14) (σ.1 16) (σ.2.2 x1.toNatClampNeg) 48) fun v_31 =>
    if inR x1 121 then if inR x1 121 then (if ((sA σ 11 x1.toNatClampNeg v_31).2.1 11 x1.toNatClampNeg) = (-1) then
      some (0, sA σ 11 x1.toNatClampNeg v_31)
    else
      some (1, sA σ 11 x1.toNatClampNeg v_31)) else none else none else none
abbrev w_Judge_useVariable : List Cond := Cond.code y_Judge_useVariable b_Judge_useVariable 2 (some .boolean) :: Tg
abbrev r_Judge_useVariable : Room := { frames := 2, cells := 0, slots := 0, locals := 47 }
theorem dv_Judge_useVariable : y_Judge_useVariable.cls = "LanguageServer$Judge" ∧ y_Judge_useVariable.cls ≠ "java/lang/invoke/MethodHandle" ∧ y_Judge_useVariable.cls ≠ "java/lang/invoke/VarHandle" ∧ (parseMethodDescriptor y_Judge_useVariable.desc).map (fun d => d.parameters.length) = some 1 := by decide +kernel
set_option maxHeartbeats 4000000 in
set_option maxRecDepth 100000 in
theorem c_Judge_useVariable (l : Launch) (K : Kst) (A : Nat → Nat) {σ : Sto} {x1 : Int32} {rr : Int32} {ss : Sto} (h : p_Judge_useVariable σ x1 = some (rr, ss)) : Met l y_Judge_useVariable w_Judge_useVariable r_Judge_useVariable (va_Pc [.ref (A 22), .int x1] (RB K A σ)) (RQi K A rr ss) 0 0 (RF A) := by
  refine Met.ofW (cc := b_Judge_useVariable) (maxL := 2) (ret := (some .boolean)) (by decide) rfl ?_
  intro p e s m args below meth c s₁ B hml hv
  obtain ⟨rfl, hP, hK, hD⟩ := hv
  have hx := B.exec
  have hb := B.bytes
  have hr := B.returns
  have hts := atoms_spec (ws := w_Judge_useVariable) B.pre
  have hg : ∀ w ∈ Tg, w.before _ s = true := fun w q => hts w (List.mem_cons_of_mem _ q)
  have hown : s.vm.findClass "LanguageServer$Judge" = some m.cls := findClass_of_methodNamed B.named
  have hlocks := B.notSynchronized
  have hS : va_S (RF A) s.heap s.heap [] := va_S.rf
  have hl := lv_entry ([.ref (A 22), .int x1]) (n := 2) (Nat.le_of_ble_eq_true rfl)
  rw [lg_entry_eq]
  generalize (lg_sl ([.ref (A 22), .int x1]) ++ List.replicate (2 - (lg_sl ([.ref (A 22), .int x1])).length) Slot.unset).toArray = ls at hl ⊢
  have hl : lv_has ls 2 [(0, .ref (A 22)), (1, .int x1)] := hl
  generalize hargs : ([.ref (A 22), .int x1] : List Value).toArray = args at hg hts ⊢
  obtain ⟨Q, hQ⟩ : ∃ Q, Q = MQ below (RQi K A rr ss) args s 0 0 (RF A) := ⟨_, rfl⟩
  rw [← hQ]
  have hRet : ∀ (v : Int32) (σ : Sto), (narrow .boolean (.int v) = .int v) → some (v, σ) = some (rr, ss) → ∀ (H : Heap) (locs : List Loc), va_P K.1 vwCl (wR K A σ) H → va_D (RF A) (wR K A σ) → va_S (RF A) s.heap H locs → ∀ (pc : Nat) (ls : Array Slot), decode b_Judge_useVariable pc = .ok (.ireturn, 1) → W p l e (headSpec w_Judge_useVariable r_Judge_useVariable).room s m args below meth c H locs 0 0 Q (F0 m pc ls [.int v]) := by
    intro v σ hn h H locs hP hD hS pc ls hd
    cases h
    subst hQ
    exact W.zret hx hb hr hn (fun t ht hW => ⟨⟨_, (), rfl, rfl, by rw [ht]; exact hP, RK.warm hW hK, hD⟩, hS.F ht⟩) hS.2.2 hd
  clear hQ
  unfold p_Judge_useVariable at h
  refine lv_aload_n hx hb d_Judge_useVariable_0 rfl (lv_at hl 0 rfl) ?_
  refine gf_Judge_35 hx hb hg hown hK hP d_Judge_useVariable_1 ?_
  refine gf_Judge_96 hx hb hg hown hK hP d_Judge_useVariable_4 ?_
  refine lv_iload_n hx hb d_Judge_useVariable_7 rfl (lv_at hl 1 rfl) ?_
  refine lv_aload_n hx hb d_Judge_useVariable_8 rfl (lv_at hl 0 rfl) ?_
  refine gf_Judge_35 hx hb hg hown hK hP d_Judge_useVariable_9 ?_
  refine lv_aload_n hx hb d_Judge_useVariable_12 rfl (lv_at hl 0 rfl) ?_
  refine gf_Judge_76 hx hb hg hown hK hP d_Judge_useVariable_13 ?_
  refine lv_aload_n hx hb d_Judge_useVariable_16 rfl (lv_at hl 0 rfl) ?_
  refine gf_Judge_99 hx hb hg hown hK hP d_Judge_useVariable_17 ?_
  refine lv_aload_n hx hb d_Judge_useVariable_20 rfl (lv_at hl 0 rfl) ?_
  refine gf_Judge_31 hx hb hg hown hK hP d_Judge_useVariable_21 ?_
  refine gf_Judge_102 hx hb hg hown hK hP d_Judge_useVariable_24 ?_
  refine lv_iload_n hx hb d_Judge_useVariable_27 rfl (lv_at hl 1 rfl) ?_
  obtain ⟨i_28, h⟩ := itn h
  refine ra_7 hx hb hK hP i_28 d_Judge_useVariable_28 ?_
  refine lv_bipush (v := 48) hx hb d_Judge_useVariable_29 (by decide) ?_
  obtain ⟨v_31, e_31, h⟩ := bd1_some h
  refine R_calli (va_runV (As := [.int (σ.1 14), .int (σ.1 16), .long (σ.2.2 x1.toNatClampNeg), .int 48]) (rest := [.int x1, .ref (A 11)]) ⟨hx, hb, hml, hown, hts⟩ (c_Outline_find l K A e_31) (cwV 4 hts (gd_V wd_523 wd_468 wd_469 wd_5 wd_470) rfl rfl rfl dv_Outline_find ⟨Nat.le_of_ble_eq_true rfl, Nat.le_of_ble_eq_true rfl⟩) (R_pv_8 hK hP hD) rfl rfl hl.1 rfl (lv_room (Nat.le_of_ble_eq_true rfl)) d_Judge_useVariable_31 ⟨Nat.le_of_ble_eq_true rfl, Nat.le_of_ble_eq_true rfl⟩) hS (fun H locs hP hD hS => ?_)
  obtain ⟨i_34, h⟩ := itn h
  refine wa_11 hx hb hK hP hD hS i_34 d_Judge_useVariable_34 (fun H locs hP hD hS => ?_)
  refine lv_aload_n hx hb d_Judge_useVariable_35 rfl (lv_at hl 0 rfl) ?_
  refine gf_Judge_35 hx hb hg hown hK hP d_Judge_useVariable_36 ?_
  refine gf_Judge_96 hx hb hg hown hK hP d_Judge_useVariable_39 ?_
  refine lv_iload_n hx hb d_Judge_useVariable_42 rfl (lv_at hl 1 rfl) ?_
  obtain ⟨i_43, h⟩ := itn h
  refine ra_11 hx hb hK hP i_43 d_Judge_useVariable_43 ?_
  refine lv_iconst (v := (-1)) hx hb d_Judge_useVariable_44 (by decide) ?_
  refine lv_icmp_eq (tgt := 52) hx hb d_Judge_useVariable_45 (by decide) (fun c_45 => ?_) (fun c_45 => ?_)
  · replace h := itp c_45 h
    refine lv_iconst (v := 0) hx hb d_Judge_useVariable_52 (by decide) ?_
    exact hRet _ _ rfl h _ _ hP hD hS _ _ d_Judge_useVariable_53
  · replace h := itf c_45 h
    refine lv_iconst (v := 1) hx hb d_Judge_useVariable_48 (by decide) ?_
    refine lv_goto (tgt := 53) hx hb d_Judge_useVariable_49 (by decide) ?_
    exact hRet _ _ rfl h _ _ hP hD hS _ _ d_Judge_useVariable_53
def p_Judge_useMember (σ : Sto) (x1 : Int32) (x2 : Int32) (x3 : Int32) (x4 : Int32) : Option Sto :=
  (if x2 = (-2) then
      some σ
    else
      if inR x1 121 then bd1 (p_Outline_findMember σ x2 (σ.2.2 x1.toNatClampNeg)) fun v_21 =>
      (if v_21 = (-1) then
        bd1 (p_Complaints_mark σ x1 x4) fun σ_53 =>
        some σ_53
      else
        if inR v_21 121 then (if (σ.2.1 9 v_21.toNatClampNeg) = x3 then
          if inR x1 121 then (if x3 = 3 then
            if inR v_21 121 then if inR x1 121 then (if ((sA σ 11 x1.toNatClampNeg v_21).2.1 10 v_21.toNatClampNeg) = ((sA σ 11 x1.toNatClampNeg v_21).2.1 10 x1.toNatClampNeg) then
              some (sA σ 11 x1.toNatClampNeg v_21)
            else
              bd1 (p_Complaints_mark (sA σ 11 x1.toNatClampNeg v_21) x1 8) fun σ_102 =>
              some σ_102) else none else none
          else
            some (sA σ 11 x1.toNatClampNeg v_21)) else none
        else
          bd1 (p_Complaints_mark σ x1 x4) fun σ_53 =>
          some σ_53) else none) else none)
abbrev w_Judge_useMember : List Cond := Cond.code y_Judge_useMember b_Judge_useMember 6 none :: Tg
abbrev r_Judge_useMember : Room := { frames := 3, cells := 0, slots := 0, locals := 73 }
theorem dv_Judge_useMember : y_Judge_useMember.cls = "LanguageServer$Judge" ∧ y_Judge_useMember.cls ≠ "java/lang/invoke/MethodHandle" ∧ y_Judge_useMember.cls ≠ "java/lang/invoke/VarHandle" ∧ (parseMethodDescriptor y_Judge_useMember.desc).map (fun d => d.parameters.length) = some 4 := by decide +kernel
set_option maxHeartbeats 4000000 in
set_option maxRecDepth 100000 in
theorem c_Judge_useMember (l : Launch) (K : Kst) (A : Nat → Nat) {σ : Sto} {x1 : Int32} {x2 : Int32} {x3 : Int32} {x4 : Int32} {ss : Sto} (h : p_Judge_useMember σ x1 x2 x3 x4 = some ss) : Met l y_Judge_useMember w_Judge_useMember r_Judge_useMember (va_Pc [.ref (A 22), .int x1, .int x2, .int x3, .int x4] (RB K A σ)) (RQv K A ss) 0 0 (RF A) := by
  refine Met.ofW (cc := b_Judge_useMember) (maxL := 6) (ret := none) (by decide) rfl ?_
  intro p e s m args below meth c s₁ B hml hv
  obtain ⟨rfl, hP, hK, hD⟩ := hv
  have hx := B.exec
  have hb := B.bytes
  have hr := B.returns
  have hts := atoms_spec (ws := w_Judge_useMember) B.pre
  have hg : ∀ w ∈ Tg, w.before _ s = true := fun w q => hts w (List.mem_cons_of_mem _ q)
  have hown : s.vm.findClass "LanguageServer$Judge" = some m.cls := findClass_of_methodNamed B.named
  have hlocks := B.notSynchronized
  have hS : va_S (RF A) s.heap s.heap [] := va_S.rf
  have hl := lv_entry ([.ref (A 22), .int x1, .int x2, .int x3, .int x4]) (n := 6) (Nat.le_of_ble_eq_true rfl)
  rw [lg_entry_eq]
  generalize (lg_sl ([.ref (A 22), .int x1, .int x2, .int x3, .int x4]) ++ List.replicate (6 - (lg_sl ([.ref (A 22), .int x1, .int x2, .int x3, .int x4])).length) Slot.unset).toArray = ls at hl ⊢
  have hl : lv_has ls 6 [(0, .ref (A 22)), (1, .int x1), (2, .int x2), (3, .int x3), (4, .int x4)] := hl
  generalize hargs : ([.ref (A 22), .int x1, .int x2, .int x3, .int x4] : List Value).toArray = args at hg hts ⊢
  obtain ⟨Q, hQ⟩ : ∃ Q, Q = MQ below (RQv K A ss) args s 0 0 (RF A) := ⟨_, rfl⟩
  rw [← hQ]
  have hRet : ∀ (σ : Sto), some σ = some ss → ∀ (H : Heap) (locs : List Loc), va_P K.1 vwCl (wR K A σ) H → va_D (RF A) (wR K A σ) → va_S (RF A) s.heap H locs → ∀ (pc : Nat) (ls : Array Slot), decode b_Judge_useMember pc = .ok (.return_, 1) → W p l e (headSpec w_Judge_useMember r_Judge_useMember).room s m args below meth c H locs 0 0 Q (F0 m pc ls []) := by
    intro σ h H locs hP hD hS pc ls hd
    cases h
    subst hQ
    exact W.vret hx hb hr (fun t ht hW => ⟨⟨(), rfl, trivial, by rw [ht]; exact hP, RK.warm hW hK, hD⟩, hS.F ht⟩) hS.2.2 hd
  clear hQ
  unfold p_Judge_useMember at h
  refine lv_iload_n hx hb d_Judge_useMember_0 rfl (lv_at hl 2 rfl) ?_
  refine lv_bipush (v := (-2)) hx hb d_Judge_useMember_1 (by decide) ?_
  refine lv_icmp_ne (tgt := 7) hx hb d_Judge_useMember_3 (by decide) (fun c_3 => ?_) (fun c_3 => ?_)
  · replace h := itf c_3 h
    refine lv_aload_n hx hb d_Judge_useMember_7 rfl (lv_at hl 0 rfl) ?_
    refine gf_Judge_35 hx hb hg hown hK hP d_Judge_useMember_8 ?_
    refine lv_iload_n hx hb d_Judge_useMember_11 rfl (lv_at hl 2 rfl) ?_
    refine lv_aload_n hx hb d_Judge_useMember_12 rfl (lv_at hl 0 rfl) ?_
    refine gf_Judge_31 hx hb hg hown hK hP d_Judge_useMember_13 ?_
    refine gf_Judge_102 hx hb hg hown hK hP d_Judge_useMember_16 ?_
    refine lv_iload_n hx hb d_Judge_useMember_19 rfl (lv_at hl 1 rfl) ?_
    obtain ⟨i_20, h⟩ := itn h
    refine ra_7 hx hb hK hP i_20 d_Judge_useMember_20 ?_
    obtain ⟨v_21, e_21, h⟩ := bd1_some h
    refine R_calli (va_runV (As := [.int x2, .long (σ.2.2 x1.toNatClampNeg)]) (rest := []) ⟨hx, hb, hml, hown, hts⟩ (c_Outline_findMember l K A e_21) (cwV 2 hts (gd_V wd_528 wd_529 wd_530 wd_5 wd_531) rfl rfl rfl dv_Outline_findMember ⟨Nat.le_of_ble_eq_true rfl, Nat.le_of_ble_eq_true rfl⟩) (R_pv_8 hK hP hD) rfl rfl hl.1 rfl (lv_room (Nat.le_of_ble_eq_true rfl)) d_Judge_useMember_21 ⟨Nat.le_of_ble_eq_true rfl, Nat.le_of_ble_eq_true rfl⟩) hS (fun H locs hP hD hS => ?_)
    refine lv_istore (lv' := [(5, .int v_21), (0, .ref (A 22)), (1, .int x1), (2, .int x2), (3, .int x3), (4, .int x4)]) hx hb d_Judge_useMember_24 hl (by decide) rfl (fun ls hl => ?_)
    refine lv_iload hx hb d_Judge_useMember_26 (lv_at hl 0 rfl) ?_
    refine lv_iconst (v := (-1)) hx hb d_Judge_useMember_28 (by decide) ?_
    refine lv_icmp_eq (tgt := 46) hx hb d_Judge_useMember_29 (by decide) (fun c_29 => ?_) (fun c_29 => ?_)
    · replace h := itp c_29 h
      refine lv_aload_n hx hb d_Judge_useMember_46 rfl (lv_at hl 1 rfl) ?_
      refine gf_Judge_39 hx hb hg hown hK hP d_Judge_useMember_47 ?_
      refine lv_iload_n hx hb d_Judge_useMember_50 rfl (lv_at hl 2 rfl) ?_
      refine lv_iload hx hb d_Judge_useMember_51 (lv_at hl 5 rfl) ?_
      obtain ⟨σ_53, e_53, h⟩ := bd1_some h
      refine R_callv (va_runV (As := [.int x1, .int x4]) (rest := []) ⟨hx, hb, hml, hown, hts⟩ (c_Complaints_mark l K A e_53) (cwV 2 hts (gd_V wd_534 wd_475 wd_476 wd_6 wd_477) rfl rfl rfl dv_Complaints_mark ⟨Nat.le_of_ble_eq_true rfl, Nat.le_of_ble_eq_true rfl⟩) (R_pv_16 hK hP hD) rfl rfl hl.1 rfl (lv_room (Nat.le_of_ble_eq_true rfl)) d_Judge_useMember_53 ⟨Nat.le_of_ble_eq_true rfl, Nat.le_of_ble_eq_true rfl⟩) hS (fun H locs hP hD hS => ?_)
      exact hRet _ h _ _ hP hD hS _ _ d_Judge_useMember_56
    · replace h := itf c_29 h
      refine lv_aload_n hx hb d_Judge_useMember_32 rfl (lv_at hl 1 rfl) ?_
      refine gf_Judge_35 hx hb hg hown hK hP d_Judge_useMember_33 ?_
      refine gf_Judge_52 hx hb hg hown hK hP d_Judge_useMember_36 ?_
      refine lv_iload hx hb d_Judge_useMember_39 (lv_at hl 0 rfl) ?_
      obtain ⟨i_41, h⟩ := itn h
      refine ra_9 hx hb hK hP i_41 d_Judge_useMember_41 ?_
      refine lv_iload_n hx hb d_Judge_useMember_42 rfl (lv_at hl 4 rfl) ?_
      refine lv_icmp_eq (tgt := 57) hx hb d_Judge_useMember_43 (by decide) (fun c_43 => ?_) (fun c_43 => ?_)
      · replace h := itp c_43 h
        refine lv_aload_n hx hb d_Judge_useMember_57 rfl (lv_at hl 1 rfl) ?_
        refine gf_Judge_35 hx hb hg hown hK hP d_Judge_useMember_58 ?_
        refine gf_Judge_96 hx hb hg hown hK hP d_Judge_useMember_61 ?_
        refine lv_iload_n hx hb d_Judge_useMember_64 rfl (lv_at hl 2 rfl) ?_
        refine lv_iload hx hb d_Judge_useMember_65 (lv_at hl 0 rfl) ?_
        obtain ⟨i_67, h⟩ := itn h
        refine wa_11 hx hb hK hP hD hS i_67 d_Judge_useMember_67 (fun H locs hP hD hS => ?_)
        refine lv_iload_n hx hb d_Judge_useMember_68 rfl (lv_at hl 4 rfl) ?_
        refine lv_iconst (v := 3) hx hb d_Judge_useMember_69 (by decide) ?_
        refine lv_icmp_ne (tgt := 105) hx hb d_Judge_useMember_70 (by decide) (fun c_70 => ?_) (fun c_70 => ?_)
        · replace h := itf c_70 h
          exact hRet _ h _ _ hP hD hS _ _ d_Judge_useMember_105
        · replace h := itp c_70 h
          refine lv_aload_n hx hb d_Judge_useMember_73 rfl (lv_at hl 1 rfl) ?_
          refine gf_Judge_35 hx hb hg hown hK hP d_Judge_useMember_74 ?_
          refine gf_Judge_119 hx hb hg hown hK hP d_Judge_useMember_77 ?_
          refine lv_iload hx hb d_Judge_useMember_80 (lv_at hl 0 rfl) ?_
          obtain ⟨i_82, h⟩ := itn h
          refine ra_10 hx hb hK hP i_82 d_Judge_useMember_82 ?_
          refine lv_aload_n hx hb d_Judge_useMember_83 rfl (lv_at hl 1 rfl) ?_
          refine gf_Judge_35 hx hb hg hown hK hP d_Judge_useMember_84 ?_
          refine gf_Judge_119 hx hb hg hown hK hP d_Judge_useMember_87 ?_
          refine lv_iload_n hx hb d_Judge_useMember_90 rfl (lv_at hl 2 rfl) ?_
          obtain ⟨i_91, h⟩ := itn h
          refine ra_10 hx hb hK hP i_91 d_Judge_useMember_91 ?_
          refine lv_icmp_eq (tgt := 105) hx hb d_Judge_useMember_92 (by decide) (fun c_92 => ?_) (fun c_92 => ?_)
          · replace h := itp c_92 h
            exact hRet _ h _ _ hP hD hS _ _ d_Judge_useMember_105
          · replace h := itf c_92 h
            refine lv_aload_n hx hb d_Judge_useMember_95 rfl (lv_at hl 1 rfl) ?_
            refine gf_Judge_39 hx hb hg hown hK hP d_Judge_useMember_96 ?_
            refine lv_iload_n hx hb d_Judge_useMember_99 rfl (lv_at hl 2 rfl) ?_
            refine lv_bipush (v := 8) hx hb d_Judge_useMember_100 (by decide) ?_
            obtain ⟨σ_102, e_102, h⟩ := bd1_some h
            refine R_callv (va_runV (As := [.int x1, .int 8]) (rest := []) ⟨hx, hb, hml, hown, hts⟩ (c_Complaints_mark l K A e_102) (cwV 2 hts (gd_V wd_534 wd_475 wd_476 wd_6 wd_477) rfl rfl rfl dv_Complaints_mark ⟨Nat.le_of_ble_eq_true rfl, Nat.le_of_ble_eq_true rfl⟩) (R_pv_16 hK hP hD) rfl rfl hl.1 rfl (lv_room (Nat.le_of_ble_eq_true rfl)) d_Judge_useMember_102 ⟨Nat.le_of_ble_eq_true rfl, Nat.le_of_ble_eq_true rfl⟩) hS (fun H locs hP hD hS => ?_)
            exact hRet _ h _ _ hP hD hS _ _ d_Judge_useMember_105
      · replace h := itf c_43 h
        refine lv_aload_n hx hb d_Judge_useMember_46 rfl (lv_at hl 1 rfl) ?_
        refine gf_Judge_39 hx hb hg hown hK hP d_Judge_useMember_47 ?_
        refine lv_iload_n hx hb d_Judge_useMember_50 rfl (lv_at hl 2 rfl) ?_
        refine lv_iload hx hb d_Judge_useMember_51 (lv_at hl 5 rfl) ?_
        obtain ⟨σ_53, e_53, h⟩ := bd1_some h
        refine R_callv (va_runV (As := [.int x1, .int x4]) (rest := []) ⟨hx, hb, hml, hown, hts⟩ (c_Complaints_mark l K A e_53) (cwV 2 hts (gd_V wd_534 wd_475 wd_476 wd_6 wd_477) rfl rfl rfl dv_Complaints_mark ⟨Nat.le_of_ble_eq_true rfl, Nat.le_of_ble_eq_true rfl⟩) (R_pv_16 hK hP hD) rfl rfl hl.1 rfl (lv_room (Nat.le_of_ble_eq_true rfl)) d_Judge_useMember_53 ⟨Nat.le_of_ble_eq_true rfl, Nat.le_of_ble_eq_true rfl⟩) hS (fun H locs hP hD hS => ?_)
        exact hRet _ h _ _ hP hD hS _ _ d_Judge_useMember_56
  · replace h := itp c_3 h
    exact hRet _ h _ _ hP hD hS _ _ d_Judge_useMember_6
def p_Judge_takeOperand_b123 (x1 : Int32) (x2 : Int32) (σ : Sto) : Option Sto :=
  if inR (σ.1 12) 9 then bd1 (p_Judge_useMember σ x1 (σ.2.1 27 ((σ.1 12).toNatClampNeg)) 3 7) fun σ_137 =>
    bd1 (p_Outline_typeNamed σ_137 x1) fun v_153 =>
    if inR (σ_137.1 12) 9 then some (sA σ_137 27 ((σ_137.1 12).toNatClampNeg) v_153) else none else none
def p_Judge_takeOperand (σ : Sto) (x1 : Int32) (x2 : Int32) : Option Sto :=
  (if x2 = 9 then
      bd2 (p_Judge_useVariable σ x1) fun v_67 σ_67 =>
      (if v_67 = 0 then
        bd1 (p_Judge_useMember σ_67 x1 (σ_67.1 13) 2 6) fun σ_82 =>
        bd1 (p_Outline_typeNamed σ_82 x1) fun v_153 =>
        if inR (σ_82.1 12) 9 then some (sA σ_82 27 ((σ_82.1 12).toNatClampNeg) v_153) else none
      else
        bd1 (p_Outline_typeNamed σ_67 x1) fun v_153 =>
        if inR (σ_67.1 12) 9 then some (sA σ_67 27 ((σ_67.1 12).toNatClampNeg) v_153) else none)
    else (if x2 = 10 then
      bd1 (p_Judge_useMember σ x1 (σ.1 13) 3 6) fun σ_97 =>
      bd1 (p_Outline_typeNamed σ_97 x1) fun v_153 =>
      if inR (σ_97.1 12) 9 then some (sA σ_97 27 ((σ_97.1 12).toNatClampNeg) v_153) else none
    else (if x2 = 11 then
      if inR (σ.1 12) 9 then bd1 (p_Judge_useMember σ x1 (σ.2.1 27 ((σ.1 12).toNatClampNeg)) 2 7) fun σ_117 =>
      bd1 (p_Outline_typeNamed σ_117 x1) fun v_153 =>
      if inR (σ_117.1 12) 9 then some (sA σ_117 27 ((σ_117.1 12).toNatClampNeg) v_153) else none else none
    else (if x2 = 13 then
      if inR (σ.1 12) 9 then some (sA σ 27 ((σ.1 12).toNatClampNeg) (-1)) else none
    else (if x2 = 14 then
      if inR (σ.1 12) 9 then some (sA σ 27 ((σ.1 12).toNatClampNeg) (σ.1 13)) else none
    else p_Judge_takeOperand_b123 x1 x2 σ)))))
abbrev w_Judge_takeOperand : List Cond := Cond.code y_Judge_takeOperand b_Judge_takeOperand 3 none :: Tg
abbrev r_Judge_takeOperand : Room := { frames := 4, cells := 0, slots := 0, locals := 98 }
theorem dv_Judge_takeOperand : y_Judge_takeOperand.cls = "LanguageServer$Judge" ∧ y_Judge_takeOperand.cls ≠ "java/lang/invoke/MethodHandle" ∧ y_Judge_takeOperand.cls ≠ "java/lang/invoke/VarHandle" ∧ (parseMethodDescriptor y_Judge_takeOperand.desc).map (fun d => d.parameters.length) = some 2 := by decide +kernel
set_option maxHeartbeats 4000000 in
set_option maxRecDepth 100000 in
theorem c_Judge_takeOperand (l : Launch) (K : Kst) (A : Nat → Nat) {σ : Sto} {x1 : Int32} {x2 : Int32} {ss : Sto} (h : p_Judge_takeOperand σ x1 x2 = some ss) : Met l y_Judge_takeOperand w_Judge_takeOperand r_Judge_takeOperand (va_Pc [.ref (A 22), .int x1, .int x2] (RB K A σ)) (RQv K A ss) 0 0 (RF A) := by
  refine Met.ofW (cc := b_Judge_takeOperand) (maxL := 3) (ret := none) (by decide) rfl ?_
  intro p e s m args below meth c s₁ B hml hv
  obtain ⟨rfl, hP, hK, hD⟩ := hv
  have hx := B.exec
  have hb := B.bytes
  have hr := B.returns
  have hts := atoms_spec (ws := w_Judge_takeOperand) B.pre
  have hg : ∀ w ∈ Tg, w.before _ s = true := fun w q => hts w (List.mem_cons_of_mem _ q)
  have hown : s.vm.findClass "LanguageServer$Judge" = some m.cls := findClass_of_methodNamed B.named
  have hlocks := B.notSynchronized
  have hS : va_S (RF A) s.heap s.heap [] := va_S.rf
  have hl := lv_entry ([.ref (A 22), .int x1, .int x2]) (n := 3) (Nat.le_of_ble_eq_true rfl)
  rw [lg_entry_eq]
  generalize (lg_sl ([.ref (A 22), .int x1, .int x2]) ++ List.replicate (3 - (lg_sl ([.ref (A 22), .int x1, .int x2])).length) Slot.unset).toArray = ls at hl ⊢
  have hl : lv_has ls 3 [(0, .ref (A 22)), (1, .int x1), (2, .int x2)] := hl
  generalize hargs : ([.ref (A 22), .int x1, .int x2] : List Value).toArray = args at hg hts ⊢
  obtain ⟨Q, hQ⟩ : ∃ Q, Q = MQ below (RQv K A ss) args s 0 0 (RF A) := ⟨_, rfl⟩
  rw [← hQ]
  have hRet : ∀ (σ : Sto), some σ = some ss → ∀ (H : Heap) (locs : List Loc), va_P K.1 vwCl (wR K A σ) H → va_D (RF A) (wR K A σ) → va_S (RF A) s.heap H locs → ∀ (pc : Nat) (ls : Array Slot), decode b_Judge_takeOperand pc = .ok (.return_, 1) → W p l e (headSpec w_Judge_takeOperand r_Judge_takeOperand).room s m args below meth c H locs 0 0 Q (F0 m pc ls []) := by
    intro σ h H locs hP hD hS pc ls hd
    cases h
    subst hQ
    exact W.vret hx hb hr (fun t ht hW => ⟨⟨(), rfl, trivial, by rw [ht]; exact hP, RK.warm hW hK, hD⟩, hS.F ht⟩) hS.2.2 hd
  clear hQ
  unfold p_Judge_takeOperand at h
  have J_123 : ∀ (σ : Sto), p_Judge_takeOperand_b123 x1 x2 σ = some ss → ∀ (H : Heap) (locs : List Loc), va_P K.1 vwCl (wR K A σ) H → va_D (RF A) (wR K A σ) → va_S (RF A) s.heap H locs → ∀ ls : Array Slot, lv_has ls 3 [(0, .ref (A 22)), (1, .int x1)] → W p l e (headSpec w_Judge_takeOperand r_Judge_takeOperand).room s m args below meth c H locs 0 0 Q (F0 m 123 ls []) := by
    intro  σ h H locs hP hD hS ls hl
    rw [p_Judge_takeOperand_b123] at h
    refine lv_aload_n hx hb d_Judge_takeOperand_123 rfl (lv_at hl 0 rfl) ?_
    refine lv_iload_n hx hb d_Judge_takeOperand_124 rfl (lv_at hl 1 rfl) ?_
    refine lv_aload_n hx hb d_Judge_takeOperand_125 rfl (lv_at hl 0 rfl) ?_
    refine gf_Judge_24 hx hb hg hown hK hP d_Judge_takeOperand_126 ?_
    refine lv_aload_n hx hb d_Judge_takeOperand_129 rfl (lv_at hl 0 rfl) ?_
    refine gf_Judge_43 hx hb hg hown hK hP d_Judge_takeOperand_130 ?_
    obtain ⟨i_133, h⟩ := itn h
    refine ra_27 hx hb hK hP i_133 d_Judge_takeOperand_133 ?_
    refine lv_iconst (v := 3) hx hb d_Judge_takeOperand_134 (by decide) ?_
    refine lv_bipush (v := 7) hx hb d_Judge_takeOperand_135 (by decide) ?_
    obtain ⟨σ_137, e_137, h⟩ := bd1_some h
    refine R_callv (va_runV (As := [.int x1, .int (σ.2.1 27 ((σ.1 12).toNatClampNeg)), .int 3, .int 7]) (rest := []) ⟨hx, hb, hml, hown, hts⟩ (c_Judge_useMember l K A e_137) (cwV 4 hts (gd_V wd_524 wd_526 wp_28 wd_9 wd_527) rfl rfl rfl dv_Judge_useMember ⟨Nat.le_of_ble_eq_true rfl, Nat.le_of_ble_eq_true rfl⟩) (R_pv_22 hK hP hD) rfl rfl hl.1 rfl (lv_room (Nat.le_of_ble_eq_true rfl)) d_Judge_takeOperand_137 ⟨Nat.le_of_ble_eq_true rfl, Nat.le_of_ble_eq_true rfl⟩) hS (fun H locs hP hD hS => ?_)
    refine lv_aload_n hx hb d_Judge_takeOperand_140 rfl (lv_at hl 0 rfl) ?_
    refine gf_Judge_24 hx hb hg hown hK hP d_Judge_takeOperand_141 ?_
    refine lv_aload_n hx hb d_Judge_takeOperand_144 rfl (lv_at hl 0 rfl) ?_
    refine gf_Judge_43 hx hb hg hown hK hP d_Judge_takeOperand_145 ?_
    refine lv_aload_n hx hb d_Judge_takeOperand_148 rfl (lv_at hl 0 rfl) ?_
    refine gf_Judge_35 hx hb hg hown hK hP d_Judge_takeOperand_149 ?_
    refine lv_iload_n hx hb d_Judge_takeOperand_152 rfl (lv_at hl 1 rfl) ?_
    obtain ⟨v_153, e_153, h⟩ := bd1_some h
    refine R_calli (va_runV (As := [.int x1]) (rest := [.int (σ_137.1 12), .ref (A 27)]) ⟨hx, hb, hml, hown, hts⟩ (c_Outline_typeNamed l K A e_153) (cwV 1 hts (gd_V wd_514 wd_487 wd_488 wd_5 wd_489) rfl rfl rfl dv_Outline_typeNamed ⟨Nat.le_of_ble_eq_true rfl, Nat.le_of_ble_eq_true rfl⟩) (R_pv_8 hK hP hD) rfl rfl hl.1 rfl (lv_room (Nat.le_of_ble_eq_true rfl)) d_Judge_takeOperand_153 ⟨Nat.le_of_ble_eq_true rfl, Nat.le_of_ble_eq_true rfl⟩) hS (fun H locs hP hD hS => ?_)
    obtain ⟨i_156, h⟩ := itn h
    refine wa_27 hx hb hK hP hD hS i_156 d_Judge_takeOperand_156 (fun H locs hP hD hS => ?_)
    exact hRet _ h _ _ hP hD hS _ _ d_Judge_takeOperand_157
  refine lv_iload_n hx hb d_Judge_takeOperand_0 rfl (lv_at hl 2 rfl) ?_
  by_cases c_1_0 : x2 = 9
  · replace h := itp c_1_0 h
    refine lv_tableIn (off := 64) (tgt := 65) hx hb d_Judge_takeOperand_1 (by rw [c_1_0]; decide) (by rw [c_1_0]; decide) (by rw [c_1_0]; first | done | rfl | decide) (by decide) ?_
    refine lv_aload_n hx hb d_Judge_takeOperand_65 rfl (lv_at hl 0 rfl) ?_
    refine lv_iload_n hx hb d_Judge_takeOperand_66 rfl (lv_at hl 1 rfl) ?_
    obtain ⟨v_67, σ_67, e_67, h⟩ := bd2_some h
    refine R_calli (va_runV (As := [.int x1]) (rest := []) ⟨hx, hb, hml, hown, hts⟩ (c_Judge_useVariable l K A e_67) (cwV 1 hts (gd_V wd_519 wd_521 wp_27 wd_9 wd_522) rfl rfl rfl dv_Judge_useVariable ⟨Nat.le_of_ble_eq_true rfl, Nat.le_of_ble_eq_true rfl⟩) (R_pv_22 hK hP hD) rfl rfl hl.1 rfl (lv_room (Nat.le_of_ble_eq_true rfl)) d_Judge_takeOperand_67 ⟨Nat.le_of_ble_eq_true rfl, Nat.le_of_ble_eq_true rfl⟩) hS (fun H locs hP hD hS => ?_)
    refine lv_if_ne (tgt := 140) hx hb d_Judge_takeOperand_70 (by decide) (fun c_70 => ?_) (fun c_70 => ?_)
    · replace h := itf c_70 h
      refine lv_aload_n hx hb d_Judge_takeOperand_140 rfl (lv_at hl 0 rfl) ?_
      refine gf_Judge_24 hx hb hg hown hK hP d_Judge_takeOperand_141 ?_
      refine lv_aload_n hx hb d_Judge_takeOperand_144 rfl (lv_at hl 0 rfl) ?_
      refine gf_Judge_43 hx hb hg hown hK hP d_Judge_takeOperand_145 ?_
      refine lv_aload_n hx hb d_Judge_takeOperand_148 rfl (lv_at hl 0 rfl) ?_
      refine gf_Judge_35 hx hb hg hown hK hP d_Judge_takeOperand_149 ?_
      refine lv_iload_n hx hb d_Judge_takeOperand_152 rfl (lv_at hl 1 rfl) ?_
      obtain ⟨v_153, e_153, h⟩ := bd1_some h
      refine R_calli (va_runV (As := [.int x1]) (rest := [.int (σ_67.1 12), .ref (A 27)]) ⟨hx, hb, hml, hown, hts⟩ (c_Outline_typeNamed l K A e_153) (cwV 1 hts (gd_V wd_514 wd_487 wd_488 wd_5 wd_489) rfl rfl rfl dv_Outline_typeNamed ⟨Nat.le_of_ble_eq_true rfl, Nat.le_of_ble_eq_true rfl⟩) (R_pv_8 hK hP hD) rfl rfl hl.1 rfl (lv_room (Nat.le_of_ble_eq_true rfl)) d_Judge_takeOperand_153 ⟨Nat.le_of_ble_eq_true rfl, Nat.le_of_ble_eq_true rfl⟩) hS (fun H locs hP hD hS => ?_)
      obtain ⟨i_156, h⟩ := itn h
      refine wa_27 hx hb hK hP hD hS i_156 d_Judge_takeOperand_156 (fun H locs hP hD hS => ?_)
      exact hRet _ h _ _ hP hD hS _ _ d_Judge_takeOperand_157
    · replace h := itp c_70 h
      refine lv_aload_n hx hb d_Judge_takeOperand_73 rfl (lv_at hl 0 rfl) ?_
      refine lv_iload_n hx hb d_Judge_takeOperand_74 rfl (lv_at hl 1 rfl) ?_
      refine lv_aload_n hx hb d_Judge_takeOperand_75 rfl (lv_at hl 0 rfl) ?_
      refine gf_Judge_73 hx hb hg hown hK hP d_Judge_takeOperand_76 ?_
      refine lv_iconst (v := 2) hx hb d_Judge_takeOperand_79 (by decide) ?_
      refine lv_bipush (v := 6) hx hb d_Judge_takeOperand_80 (by decide) ?_
      obtain ⟨σ_82, e_82, h⟩ := bd1_some h
      refine R_callv (va_runV (As := [.int x1, .int (σ_67.1 13), .int 2, .int 6]) (rest := []) ⟨hx, hb, hml, hown, hts⟩ (c_Judge_useMember l K A e_82) (cwV 4 hts (gd_V wd_524 wd_526 wp_28 wd_9 wd_527) rfl rfl rfl dv_Judge_useMember ⟨Nat.le_of_ble_eq_true rfl, Nat.le_of_ble_eq_true rfl⟩) (R_pv_22 hK hP hD) rfl rfl hl.1 rfl (lv_room (Nat.le_of_ble_eq_true rfl)) d_Judge_takeOperand_82 ⟨Nat.le_of_ble_eq_true rfl, Nat.le_of_ble_eq_true rfl⟩) hS (fun H locs hP hD hS => ?_)
      refine lv_goto (tgt := 140) hx hb d_Judge_takeOperand_85 (by decide) ?_
      refine lv_aload_n hx hb d_Judge_takeOperand_140 rfl (lv_at hl 0 rfl) ?_
      refine gf_Judge_24 hx hb hg hown hK hP d_Judge_takeOperand_141 ?_
      refine lv_aload_n hx hb d_Judge_takeOperand_144 rfl (lv_at hl 0 rfl) ?_
      refine gf_Judge_43 hx hb hg hown hK hP d_Judge_takeOperand_145 ?_
      refine lv_aload_n hx hb d_Judge_takeOperand_148 rfl (lv_at hl 0 rfl) ?_
      refine gf_Judge_35 hx hb hg hown hK hP d_Judge_takeOperand_149 ?_
      refine lv_iload_n hx hb d_Judge_takeOperand_152 rfl (lv_at hl 1 rfl) ?_
      obtain ⟨v_153, e_153, h⟩ := bd1_some h
      refine R_calli (va_runV (As := [.int x1]) (rest := [.int (σ_82.1 12), .ref (A 27)]) ⟨hx, hb, hml, hown, hts⟩ (c_Outline_typeNamed l K A e_153) (cwV 1 hts (gd_V wd_514 wd_487 wd_488 wd_5 wd_489) rfl rfl rfl dv_Outline_typeNamed ⟨Nat.le_of_ble_eq_true rfl, Nat.le_of_ble_eq_true rfl⟩) (R_pv_8 hK hP hD) rfl rfl hl.1 rfl (lv_room (Nat.le_of_ble_eq_true rfl)) d_Judge_takeOperand_153 ⟨Nat.le_of_ble_eq_true rfl, Nat.le_of_ble_eq_true rfl⟩) hS (fun H locs hP hD hS => ?_)
      obtain ⟨i_156, h⟩ := itn h
      refine wa_27 hx hb hK hP hD hS i_156 d_Judge_takeOperand_156 (fun H locs hP hD hS => ?_)
      exact hRet _ h _ _ hP hD hS _ _ d_Judge_takeOperand_157
  replace h := itf c_1_0 h
  by_cases c_1_1 : x2 = 10
  · replace h := itp c_1_1 h
    refine lv_tableIn (off := 87) (tgt := 88) hx hb d_Judge_takeOperand_1 (by rw [c_1_1]; decide) (by rw [c_1_1]; decide) (by rw [c_1_1]; first | done | rfl | decide) (by decide) ?_
    refine lv_aload_n hx hb d_Judge_takeOperand_88 rfl (lv_at hl 0 rfl) ?_
    refine lv_iload_n hx hb d_Judge_takeOperand_89 rfl (lv_at hl 1 rfl) ?_
    refine lv_aload_n hx hb d_Judge_takeOperand_90 rfl (lv_at hl 0 rfl) ?_
    refine gf_Judge_73 hx hb hg hown hK hP d_Judge_takeOperand_91 ?_
    refine lv_iconst (v := 3) hx hb d_Judge_takeOperand_94 (by decide) ?_
    refine lv_bipush (v := 6) hx hb d_Judge_takeOperand_95 (by decide) ?_
    obtain ⟨σ_97, e_97, h⟩ := bd1_some h
    refine R_callv (va_runV (As := [.int x1, .int (σ.1 13), .int 3, .int 6]) (rest := []) ⟨hx, hb, hml, hown, hts⟩ (c_Judge_useMember l K A e_97) (cwV 4 hts (gd_V wd_524 wd_526 wp_28 wd_9 wd_527) rfl rfl rfl dv_Judge_useMember ⟨Nat.le_of_ble_eq_true rfl, Nat.le_of_ble_eq_true rfl⟩) (R_pv_22 hK hP hD) rfl rfl hl.1 rfl (lv_room (Nat.le_of_ble_eq_true rfl)) d_Judge_takeOperand_97 ⟨Nat.le_of_ble_eq_true rfl, Nat.le_of_ble_eq_true rfl⟩) hS (fun H locs hP hD hS => ?_)
    refine lv_goto (tgt := 140) hx hb d_Judge_takeOperand_100 (by decide) ?_
    refine lv_aload_n hx hb d_Judge_takeOperand_140 rfl (lv_at hl 0 rfl) ?_
    refine gf_Judge_24 hx hb hg hown hK hP d_Judge_takeOperand_141 ?_
    refine lv_aload_n hx hb d_Judge_takeOperand_144 rfl (lv_at hl 0 rfl) ?_
    refine gf_Judge_43 hx hb hg hown hK hP d_Judge_takeOperand_145 ?_
    refine lv_aload_n hx hb d_Judge_takeOperand_148 rfl (lv_at hl 0 rfl) ?_
    refine gf_Judge_35 hx hb hg hown hK hP d_Judge_takeOperand_149 ?_
    refine lv_iload_n hx hb d_Judge_takeOperand_152 rfl (lv_at hl 1 rfl) ?_
    obtain ⟨v_153, e_153, h⟩ := bd1_some h
    refine R_calli (va_runV (As := [.int x1]) (rest := [.int (σ_97.1 12), .ref (A 27)]) ⟨hx, hb, hml, hown, hts⟩ (c_Outline_typeNamed l K A e_153) (cwV 1 hts (gd_V wd_514 wd_487 wd_488 wd_5 wd_489) rfl rfl rfl dv_Outline_typeNamed ⟨Nat.le_of_ble_eq_true rfl, Nat.le_of_ble_eq_true rfl⟩) (R_pv_8 hK hP hD) rfl rfl hl.1 rfl (lv_room (Nat.le_of_ble_eq_true rfl)) d_Judge_takeOperand_153 ⟨Nat.le_of_ble_eq_true rfl, Nat.le_of_ble_eq_true rfl⟩) hS (fun H locs hP hD hS => ?_)
    obtain ⟨i_156, h⟩ := itn h
    refine wa_27 hx hb hK hP hD hS i_156 d_Judge_takeOperand_156 (fun H locs hP hD hS => ?_)
    exact hRet _ h _ _ hP hD hS _ _ d_Judge_takeOperand_157
  replace h := itf c_1_1 h
  by_cases c_1_2 : x2 = 11
  · replace h := itp c_1_2 h
    refine lv_tableIn (off := 102) (tgt := 103) hx hb d_Judge_takeOperand_1 (by rw [c_1_2]; decide) (by rw [c_1_2]; decide) (by rw [c_1_2]; first | done | rfl | decide) (by decide) ?_
    refine lv_aload_n hx hb d_Judge_takeOperand_103 rfl (lv_at hl 0 rfl) ?_
    refine lv_iload_n hx hb d_Judge_takeOperand_104 rfl (lv_at hl 1 rfl) ?_
    refine lv_aload_n hx hb d_Judge_takeOperand_105 rfl (lv_at hl 0 rfl) ?_
    refine gf_Judge_24 hx hb hg hown hK hP d_Judge_takeOperand_106 ?_
    refine lv_aload_n hx hb d_Judge_takeOperand_109 rfl (lv_at hl 0 rfl) ?_
    refine gf_Judge_43 hx hb hg hown hK hP d_Judge_takeOperand_110 ?_
    obtain ⟨i_113, h⟩ := itn h
    refine ra_27 hx hb hK hP i_113 d_Judge_takeOperand_113 ?_
    refine lv_iconst (v := 2) hx hb d_Judge_takeOperand_114 (by decide) ?_
    refine lv_bipush (v := 7) hx hb d_Judge_takeOperand_115 (by decide) ?_
    obtain ⟨σ_117, e_117, h⟩ := bd1_some h
    refine R_callv (va_runV (As := [.int x1, .int (σ.2.1 27 ((σ.1 12).toNatClampNeg)), .int 2, .int 7]) (rest := []) ⟨hx, hb, hml, hown, hts⟩ (c_Judge_useMember l K A e_117) (cwV 4 hts (gd_V wd_524 wd_526 wp_28 wd_9 wd_527) rfl rfl rfl dv_Judge_useMember ⟨Nat.le_of_ble_eq_true rfl, Nat.le_of_ble_eq_true rfl⟩) (R_pv_22 hK hP hD) rfl rfl hl.1 rfl (lv_room (Nat.le_of_ble_eq_true rfl)) d_Judge_takeOperand_117 ⟨Nat.le_of_ble_eq_true rfl, Nat.le_of_ble_eq_true rfl⟩) hS (fun H locs hP hD hS => ?_)
    refine lv_goto (tgt := 140) hx hb d_Judge_takeOperand_120 (by decide) ?_
    refine lv_aload_n hx hb d_Judge_takeOperand_140 rfl (lv_at hl 0 rfl) ?_
    refine gf_Judge_24 hx hb hg hown hK hP d_Judge_takeOperand_141 ?_
    refine lv_aload_n hx hb d_Judge_takeOperand_144 rfl (lv_at hl 0 rfl) ?_
    refine gf_Judge_43 hx hb hg hown hK hP d_Judge_takeOperand_145 ?_
    refine lv_aload_n hx hb d_Judge_takeOperand_148 rfl (lv_at hl 0 rfl) ?_
    refine gf_Judge_35 hx hb hg hown hK hP d_Judge_takeOperand_149 ?_
    refine lv_iload_n hx hb d_Judge_takeOperand_152 rfl (lv_at hl 1 rfl) ?_
    obtain ⟨v_153, e_153, h⟩ := bd1_some h
    refine R_calli (va_runV (As := [.int x1]) (rest := [.int (σ_117.1 12), .ref (A 27)]) ⟨hx, hb, hml, hown, hts⟩ (c_Outline_typeNamed l K A e_153) (cwV 1 hts (gd_V wd_514 wd_487 wd_488 wd_5 wd_489) rfl rfl rfl dv_Outline_typeNamed ⟨Nat.le_of_ble_eq_true rfl, Nat.le_of_ble_eq_true rfl⟩) (R_pv_8 hK hP hD) rfl rfl hl.1 rfl (lv_room (Nat.le_of_ble_eq_true rfl)) d_Judge_takeOperand_153 ⟨Nat.le_of_ble_eq_true rfl, Nat.le_of_ble_eq_true rfl⟩) hS (fun H locs hP hD hS => ?_)
    obtain ⟨i_156, h⟩ := itn h
    refine wa_27 hx hb hK hP hD hS i_156 d_Judge_takeOperand_156 (fun H locs hP hD hS => ?_)
    exact hRet _ h _ _ hP hD hS _ _ d_Judge_takeOperand_157
  replace h := itf c_1_2 h
  by_cases c_1_3 : x2 = 13
  · replace h := itp c_1_3 h
    refine lv_tableIn (off := 39) (tgt := 40) hx hb d_Judge_takeOperand_1 (by rw [c_1_3]; decide) (by rw [c_1_3]; decide) (by rw [c_1_3]; first | done | rfl | decide) (by decide) ?_
    refine lv_aload_n hx hb d_Judge_takeOperand_40 rfl (lv_at hl 0 rfl) ?_
    refine gf_Judge_24 hx hb hg hown hK hP d_Judge_takeOperand_41 ?_
    refine lv_aload_n hx hb d_Judge_takeOperand_44 rfl (lv_at hl 0 rfl) ?_
    refine gf_Judge_43 hx hb hg hown hK hP d_Judge_takeOperand_45 ?_
    refine lv_iconst (v := (-1)) hx hb d_Judge_takeOperand_48 (by decide) ?_
    obtain ⟨i_49, h⟩ := itn h
    refine wa_27 hx hb hK hP hD hS i_49 d_Judge_takeOperand_49 (fun H locs hP hD hS => ?_)
    exact hRet _ h _ _ hP hD hS _ _ d_Judge_takeOperand_50
  replace h := itf c_1_3 h
  by_cases c_1_4 : x2 = 14
  · replace h := itp c_1_4 h
    refine lv_tableIn (off := 50) (tgt := 51) hx hb d_Judge_takeOperand_1 (by rw [c_1_4]; decide) (by rw [c_1_4]; decide) (by rw [c_1_4]; first | done | rfl | decide) (by decide) ?_
    refine lv_aload_n hx hb d_Judge_takeOperand_51 rfl (lv_at hl 0 rfl) ?_
    refine gf_Judge_24 hx hb hg hown hK hP d_Judge_takeOperand_52 ?_
    refine lv_aload_n hx hb d_Judge_takeOperand_55 rfl (lv_at hl 0 rfl) ?_
    refine gf_Judge_43 hx hb hg hown hK hP d_Judge_takeOperand_56 ?_
    refine lv_aload_n hx hb d_Judge_takeOperand_59 rfl (lv_at hl 0 rfl) ?_
    refine gf_Judge_73 hx hb hg hown hK hP d_Judge_takeOperand_60 ?_
    obtain ⟨i_63, h⟩ := itn h
    refine wa_27 hx hb hK hP hD hS i_63 d_Judge_takeOperand_63 (fun H locs hP hD hS => ?_)
    exact hRet _ h _ _ hP hD hS _ _ d_Judge_takeOperand_64
  replace h := itf c_1_4 h
  by_cases g_1_0 : x2 = 12
  · refine lv_tableIn (off := 122) (tgt := 123) hx hb d_Judge_takeOperand_1 (by rw [g_1_0]; decide) (by rw [g_1_0]; decide) (by rw [g_1_0]; first | done | rfl | decide) (by decide) ?_
    exact J_123  _ h _ _ hP hD hS ls (lv_sub hl [0, 1] rfl)
  have n_0 := lv_neT c_1_0 (a := 9) rfl
  have n_1 := lv_neT c_1_1 (a := 10) rfl
  have n_2 := lv_neT c_1_2 (a := 11) rfl
  have n_3 := lv_neT c_1_3 (a := 13) rfl
  have n_4 := lv_neT c_1_4 (a := 14) rfl
  have n_5 := lv_neT g_1_0 (a := 12) rfl
  refine lv_tableOut (tgt := 123) hx hb d_Judge_takeOperand_1 (by omega) (by decide) ?_
  exact J_123  _ h _ _ hP hD hS ls (lv_sub hl [0, 1] rfl)
def p_Judge_begin (σ : Sto) (x1 : Int32) : Option Sto :=
  if inR (σ.1 12) 9 then if inR ((sA σ 25 ((σ.1 12).toNatClampNeg) x1).1 12) 9 then if inR ((sA (sA σ 25 ((σ.1 12).toNatClampNeg) x1) 26 (((sA σ 25 ((σ.1 12).toNatClampNeg) x1).1 12).toNatClampNeg) x1).1 12) 9 then some (sA (sA (sA σ 25 ((σ.1 12).toNatClampNeg) x1) 26 (((sA σ 25 ((σ.1 12).toNatClampNeg) x1).1 12).toNatClampNeg) x1) 28 (((sA (sA σ 25 ((σ.1 12).toNatClampNeg) x1) 26 (((sA σ 25 ((σ.1 12).toNatClampNeg) x1).1 12).toNatClampNeg) x1).1 12).toNatClampNeg) (vp_nar .boolean 0)) else none else none else none
abbrev w_Judge_begin : List Cond := Cond.code y_Judge_begin b_Judge_begin 2 none :: Tg
abbrev r_Judge_begin : Room := { frames := 0, cells := 0, slots := 0, locals := 0 }
theorem dv_Judge_begin : y_Judge_begin.cls = "LanguageServer$Judge" ∧ y_Judge_begin.cls ≠ "java/lang/invoke/MethodHandle" ∧ y_Judge_begin.cls ≠ "java/lang/invoke/VarHandle" ∧ (parseMethodDescriptor y_Judge_begin.desc).map (fun d => d.parameters.length) = some 1 := by decide +kernel
set_option maxHeartbeats 4000000 in
set_option maxRecDepth 100000 in
theorem c_Judge_begin (l : Launch) (K : Kst) (A : Nat → Nat) {σ : Sto} {x1 : Int32} {ss : Sto} (h : p_Judge_begin σ x1 = some ss) : Met l y_Judge_begin w_Judge_begin r_Judge_begin (va_Pc [.ref (A 22), .int x1] (RB K A σ)) (RQv K A ss) 0 0 (RF A) := by
  refine Met.ofW (cc := b_Judge_begin) (maxL := 2) (ret := none) (by decide) rfl ?_
  intro p e s m args below meth c s₁ B hml hv
  obtain ⟨rfl, hP, hK, hD⟩ := hv
  have hx := B.exec
  have hb := B.bytes
  have hr := B.returns
  have hts := atoms_spec (ws := w_Judge_begin) B.pre
  have hg : ∀ w ∈ Tg, w.before _ s = true := fun w q => hts w (List.mem_cons_of_mem _ q)
  have hown : s.vm.findClass "LanguageServer$Judge" = some m.cls := findClass_of_methodNamed B.named
  have hlocks := B.notSynchronized
  have hS : va_S (RF A) s.heap s.heap [] := va_S.rf
  have hl := lv_entry ([.ref (A 22), .int x1]) (n := 2) (Nat.le_of_ble_eq_true rfl)
  rw [lg_entry_eq]
  generalize (lg_sl ([.ref (A 22), .int x1]) ++ List.replicate (2 - (lg_sl ([.ref (A 22), .int x1])).length) Slot.unset).toArray = ls at hl ⊢
  have hl : lv_has ls 2 [(0, .ref (A 22)), (1, .int x1)] := hl
  generalize hargs : ([.ref (A 22), .int x1] : List Value).toArray = args at hg hts ⊢
  obtain ⟨Q, hQ⟩ : ∃ Q, Q = MQ below (RQv K A ss) args s 0 0 (RF A) := ⟨_, rfl⟩
  rw [← hQ]
  have hRet : ∀ (σ : Sto), some σ = some ss → ∀ (H : Heap) (locs : List Loc), va_P K.1 vwCl (wR K A σ) H → va_D (RF A) (wR K A σ) → va_S (RF A) s.heap H locs → ∀ (pc : Nat) (ls : Array Slot), decode b_Judge_begin pc = .ok (.return_, 1) → W p l e (headSpec w_Judge_begin r_Judge_begin).room s m args below meth c H locs 0 0 Q (F0 m pc ls []) := by
    intro σ h H locs hP hD hS pc ls hd
    cases h
    subst hQ
    exact W.vret hx hb hr (fun t ht hW => ⟨⟨(), rfl, trivial, by rw [ht]; exact hP, RK.warm hW hK, hD⟩, hS.F ht⟩) hS.2.2 hd
  clear hQ
  unfold p_Judge_begin at h
  refine lv_aload_n hx hb d_Judge_begin_0 rfl (lv_at hl 0 rfl) ?_
  refine gf_Judge_18 hx hb hg hown hK hP d_Judge_begin_1 ?_
  refine lv_aload_n hx hb d_Judge_begin_4 rfl (lv_at hl 0 rfl) ?_
  refine gf_Judge_43 hx hb hg hown hK hP d_Judge_begin_5 ?_
  refine lv_iload_n hx hb d_Judge_begin_8 rfl (lv_at hl 1 rfl) ?_
  obtain ⟨i_9, h⟩ := itn h
  refine wa_25 hx hb hK hP hD hS i_9 d_Judge_begin_9 (fun H locs hP hD hS => ?_)
  refine lv_aload_n hx hb d_Judge_begin_10 rfl (lv_at hl 0 rfl) ?_
  refine gf_Judge_21 hx hb hg hown hK hP d_Judge_begin_11 ?_
  refine lv_aload_n hx hb d_Judge_begin_14 rfl (lv_at hl 0 rfl) ?_
  refine gf_Judge_43 hx hb hg hown hK hP d_Judge_begin_15 ?_
  refine lv_iload_n hx hb d_Judge_begin_18 rfl (lv_at hl 1 rfl) ?_
  obtain ⟨i_19, h⟩ := itn h
  refine wa_26 hx hb hK hP hD hS i_19 d_Judge_begin_19 (fun H locs hP hD hS => ?_)
  refine lv_aload_n hx hb d_Judge_begin_20 rfl (lv_at hl 0 rfl) ?_
  refine gf_Judge_27 hx hb hg hown hK hP d_Judge_begin_21 ?_
  refine lv_aload_n hx hb d_Judge_begin_24 rfl (lv_at hl 0 rfl) ?_
  refine gf_Judge_43 hx hb hg hown hK hP d_Judge_begin_25 ?_
  refine lv_iconst (v := 0) hx hb d_Judge_begin_28 (by decide) ?_
  obtain ⟨i_29, h⟩ := itn h
  refine wa_28 hx hb hK hP hD hS i_29 d_Judge_begin_29 (fun H locs hP hD hS => ?_)
  exact hRet _ h _ _ hP hD hS _ _ d_Judge_begin_30
def p_Judge_beginStatement (σ : Sto) (x1 : Int32) : Option Sto :=
  bd1 (p_Judge_begin (sS (sS σ 16 x1) 17 (-2)) x1) fun σ_13 =>
    some σ_13
abbrev w_Judge_beginStatement : List Cond := Cond.code y_Judge_beginStatement b_Judge_beginStatement 2 none :: Tg
abbrev r_Judge_beginStatement : Room := { frames := 1, cells := 0, slots := 0, locals := 21 }
theorem dv_Judge_beginStatement : y_Judge_beginStatement.cls = "LanguageServer$Judge" ∧ y_Judge_beginStatement.cls ≠ "java/lang/invoke/MethodHandle" ∧ y_Judge_beginStatement.cls ≠ "java/lang/invoke/VarHandle" ∧ (parseMethodDescriptor y_Judge_beginStatement.desc).map (fun d => d.parameters.length) = some 1 := by decide +kernel
set_option maxHeartbeats 4000000 in
set_option maxRecDepth 100000 in
theorem c_Judge_beginStatement (l : Launch) (K : Kst) (A : Nat → Nat) {σ : Sto} {x1 : Int32} {ss : Sto} (h : p_Judge_beginStatement σ x1 = some ss) : Met l y_Judge_beginStatement w_Judge_beginStatement r_Judge_beginStatement (va_Pc [.ref (A 22), .int x1] (RB K A σ)) (RQv K A ss) 0 0 (RF A) := by
  refine Met.ofW (cc := b_Judge_beginStatement) (maxL := 2) (ret := none) (by decide) rfl ?_
  intro p e s m args below meth c s₁ B hml hv
  obtain ⟨rfl, hP, hK, hD⟩ := hv
  have hx := B.exec
  have hb := B.bytes
  have hr := B.returns
  have hts := atoms_spec (ws := w_Judge_beginStatement) B.pre
  have hg : ∀ w ∈ Tg, w.before _ s = true := fun w q => hts w (List.mem_cons_of_mem _ q)
  have hown : s.vm.findClass "LanguageServer$Judge" = some m.cls := findClass_of_methodNamed B.named
  have hlocks := B.notSynchronized
  have hS : va_S (RF A) s.heap s.heap [] := va_S.rf
  have hl := lv_entry ([.ref (A 22), .int x1]) (n := 2) (Nat.le_of_ble_eq_true rfl)
  rw [lg_entry_eq]
  generalize (lg_sl ([.ref (A 22), .int x1]) ++ List.replicate (2 - (lg_sl ([.ref (A 22), .int x1])).length) Slot.unset).toArray = ls at hl ⊢
  have hl : lv_has ls 2 [(0, .ref (A 22)), (1, .int x1)] := hl
  generalize hargs : ([.ref (A 22), .int x1] : List Value).toArray = args at hg hts ⊢
  obtain ⟨Q, hQ⟩ : ∃ Q, Q = MQ below (RQv K A ss) args s 0 0 (RF A) := ⟨_, rfl⟩
  rw [← hQ]
  have hRet : ∀ (σ : Sto), some σ = some ss → ∀ (H : Heap) (locs : List Loc), va_P K.1 vwCl (wR K A σ) H → va_D (RF A) (wR K A σ) → va_S (RF A) s.heap H locs → ∀ (pc : Nat) (ls : Array Slot), decode b_Judge_beginStatement pc = .ok (.return_, 1) → W p l e (headSpec w_Judge_beginStatement r_Judge_beginStatement).room s m args below meth c H locs 0 0 Q (F0 m pc ls []) := by
    intro σ h H locs hP hD hS pc ls hd
    cases h
    subst hQ
    exact W.vret hx hb hr (fun t ht hW => ⟨⟨(), rfl, trivial, by rw [ht]; exact hP, RK.warm hW hK, hD⟩, hS.F ht⟩) hS.2.2 hd
  clear hQ
  unfold p_Judge_beginStatement at h
  refine lv_aload_n hx hb d_Judge_beginStatement_0 rfl (lv_at hl 0 rfl) ?_
  refine lv_iload_n hx hb d_Judge_beginStatement_1 rfl (lv_at hl 1 rfl) ?_
  refine pf_Judge_99 hx hb hg hown hK hP hD hS d_Judge_beginStatement_2 (fun H locs hP hD hS => ?_)
  refine lv_aload_n hx hb d_Judge_beginStatement_5 rfl (lv_at hl 0 rfl) ?_
  refine lv_bipush (v := (-2)) hx hb d_Judge_beginStatement_6 (by decide) ?_
  refine pf_Judge_126 hx hb hg hown hK hP hD hS d_Judge_beginStatement_8 (fun H locs hP hD hS => ?_)
  refine lv_aload_n hx hb d_Judge_beginStatement_11 rfl (lv_at hl 0 rfl) ?_
  refine lv_iload_n hx hb d_Judge_beginStatement_12 rfl (lv_at hl 1 rfl) ?_
  obtain ⟨σ_13, e_13, h⟩ := bd1_some h
  refine R_callv (va_runV (As := [.int x1]) (rest := []) ⟨hx, hb, hml, hown, hts⟩ (c_Judge_begin l K A e_13) (cwV 1 hts (gd_V wd_543 wd_545 wp_31 wd_9 wd_546) rfl rfl rfl dv_Judge_begin ⟨Nat.le_of_ble_eq_true rfl, Nat.le_of_ble_eq_true rfl⟩) (R_pv_22 hK hP hD) rfl rfl hl.1 rfl (lv_room (Nat.le_of_ble_eq_true rfl)) d_Judge_beginStatement_13 ⟨Nat.le_of_ble_eq_true rfl, Nat.le_of_ble_eq_true rfl⟩) hS (fun H locs hP hD hS => ?_)
  exact hRet _ h _ _ hP hD hS _ _ d_Judge_beginStatement_16
def p_Judge_checkTarget_b19 (x1 : Int32) (σ : Sto) (s0 : Int32) : Option Sto :=
  if inR (σ.1 12) 9 then (if (σ.2.1 28 ((σ.1 12).toNatClampNeg)) = 0 then
      (if s0 = 9 then
        some σ
      else
        (if s0 = 11 then
          some σ
        else
          if inR (σ.1 12) 9 then bd1 (p_Complaints_mark σ (σ.2.1 25 ((σ.1 12).toNatClampNeg)) 10) fun σ_59 =>
          some σ_59 else none))
    else
      if inR (σ.1 12) 9 then bd1 (p_Complaints_mark σ (σ.2.1 25 ((σ.1 12).toNatClampNeg)) 10) fun σ_59 =>
      some σ_59 else none) else none
def p_Judge_checkTarget (σ : Sto) (x1 : Int32) : Option Sto :=
  (if x1 ≤ 0 then
      p_Judge_checkTarget_b19 x1 σ 0
    else
      if inR (x1 - 1) 121 then p_Judge_checkTarget_b19 x1 σ (σ.2.1 9 ((x1 - 1).toNatClampNeg)) else none)
abbrev w_Judge_checkTarget : List Cond := Cond.code y_Judge_checkTarget b_Judge_checkTarget 3 none :: Tg
abbrev r_Judge_checkTarget : Room := { frames := 1, cells := 0, slots := 0, locals := 22 }
theorem dv_Judge_checkTarget : y_Judge_checkTarget.cls = "LanguageServer$Judge" ∧ y_Judge_checkTarget.cls ≠ "java/lang/invoke/MethodHandle" ∧ y_Judge_checkTarget.cls ≠ "java/lang/invoke/VarHandle" ∧ (parseMethodDescriptor y_Judge_checkTarget.desc).map (fun d => d.parameters.length) = some 1 := by decide +kernel
set_option maxHeartbeats 4000000 in
set_option maxRecDepth 100000 in
theorem c_Judge_checkTarget (l : Launch) (K : Kst) (A : Nat → Nat) {σ : Sto} {x1 : Int32} {ss : Sto} (h : p_Judge_checkTarget σ x1 = some ss) : Met l y_Judge_checkTarget w_Judge_checkTarget r_Judge_checkTarget (va_Pc [.ref (A 22), .int x1] (RB K A σ)) (RQv K A ss) 0 0 (RF A) := by
  refine Met.ofW (cc := b_Judge_checkTarget) (maxL := 3) (ret := none) (by decide) rfl ?_
  intro p e s m args below meth c s₁ B hml hv
  obtain ⟨rfl, hP, hK, hD⟩ := hv
  have hx := B.exec
  have hb := B.bytes
  have hr := B.returns
  have hts := atoms_spec (ws := w_Judge_checkTarget) B.pre
  have hg : ∀ w ∈ Tg, w.before _ s = true := fun w q => hts w (List.mem_cons_of_mem _ q)
  have hown : s.vm.findClass "LanguageServer$Judge" = some m.cls := findClass_of_methodNamed B.named
  have hlocks := B.notSynchronized
  have hS : va_S (RF A) s.heap s.heap [] := va_S.rf
  have hl := lv_entry ([.ref (A 22), .int x1]) (n := 3) (Nat.le_of_ble_eq_true rfl)
  rw [lg_entry_eq]
  generalize (lg_sl ([.ref (A 22), .int x1]) ++ List.replicate (3 - (lg_sl ([.ref (A 22), .int x1])).length) Slot.unset).toArray = ls at hl ⊢
  have hl : lv_has ls 3 [(0, .ref (A 22)), (1, .int x1)] := hl
  generalize hargs : ([.ref (A 22), .int x1] : List Value).toArray = args at hg hts ⊢
  obtain ⟨Q, hQ⟩ : ∃ Q, Q = MQ below (RQv K A ss) args s 0 0 (RF A) := ⟨_, rfl⟩
  rw [← hQ]
  have hRet : ∀ (σ : Sto), some σ = some ss → ∀ (H : Heap) (locs : List Loc), va_P K.1 vwCl (wR K A σ) H → va_D (RF A) (wR K A σ) → va_S (RF A) s.heap H locs → ∀ (pc : Nat) (ls : Array Slot), decode b_Judge_checkTarget pc = .ok (.return_, 1) → W p l e (headSpec w_Judge_checkTarget r_Judge_checkTarget).room s m args below meth c H locs 0 0 Q (F0 m pc ls []) := by
    intro σ h H locs hP hD hS pc ls hd
    cases h
    subst hQ
    exact W.vret hx hb hr (fun t ht hW => ⟨⟨(), rfl, trivial, by rw [ht]; exact hP, RK.warm hW hK, hD⟩, hS.F ht⟩) hS.2.2 hd
  clear hQ
  unfold p_Judge_checkTarget at h
  have J_19 : ∀ (σ : Sto) (s0 : Int32), p_Judge_checkTarget_b19 x1 σ s0 = some ss → ∀ (H : Heap) (locs : List Loc), va_P K.1 vwCl (wR K A σ) H → va_D (RF A) (wR K A σ) → va_S (RF A) s.heap H locs → ∀ ls : Array Slot, lv_has ls 3 [(0, .ref (A 22))] → W p l e (headSpec w_Judge_checkTarget r_Judge_checkTarget).room s m args below meth c H locs 0 0 Q (F0 m 19 ls [.int s0]) := by
    intro  σ s0 h H locs hP hD hS ls hl
    rw [p_Judge_checkTarget_b19] at h
    refine lv_istore_n (lv' := [(2, .int s0), (0, .ref (A 22))]) hx hb d_Judge_checkTarget_19 rfl hl (by decide) rfl (fun ls hl => ?_)
    refine lv_aload_n hx hb d_Judge_checkTarget_20 rfl (lv_at hl 1 rfl) ?_
    refine gf_Judge_27 hx hb hg hown hK hP d_Judge_checkTarget_21 ?_
    refine lv_aload_n hx hb d_Judge_checkTarget_24 rfl (lv_at hl 1 rfl) ?_
    refine gf_Judge_43 hx hb hg hown hK hP d_Judge_checkTarget_25 ?_
    obtain ⟨i_28, h⟩ := itn h
    refine ra_28 hx hb hK hP i_28 d_Judge_checkTarget_28 ?_
    refine lv_if_ne (tgt := 44) hx hb d_Judge_checkTarget_29 (by decide) (fun c_29 => ?_) (fun c_29 => ?_)
    · replace h := itf c_29 h
      refine lv_aload_n hx hb d_Judge_checkTarget_44 rfl (lv_at hl 1 rfl) ?_
      refine gf_Judge_39 hx hb hg hown hK hP d_Judge_checkTarget_45 ?_
      refine lv_aload_n hx hb d_Judge_checkTarget_48 rfl (lv_at hl 1 rfl) ?_
      refine gf_Judge_18 hx hb hg hown hK hP d_Judge_checkTarget_49 ?_
      refine lv_aload_n hx hb d_Judge_checkTarget_52 rfl (lv_at hl 1 rfl) ?_
      refine gf_Judge_43 hx hb hg hown hK hP d_Judge_checkTarget_53 ?_
      obtain ⟨i_56, h⟩ := itn h
      refine ra_25 hx hb hK hP i_56 d_Judge_checkTarget_56 ?_
      refine lv_bipush (v := 10) hx hb d_Judge_checkTarget_57 (by decide) ?_
      obtain ⟨σ_59, e_59, h⟩ := bd1_some h
      refine R_callv (va_runV (As := [.int (σ.2.1 25 ((σ.1 12).toNatClampNeg)), .int 10]) (rest := []) ⟨hx, hb, hml, hown, hts⟩ (c_Complaints_mark l K A e_59) (cwV 2 hts (gd_V wd_534 wd_475 wd_476 wd_6 wd_477) rfl rfl rfl dv_Complaints_mark ⟨Nat.le_of_ble_eq_true rfl, Nat.le_of_ble_eq_true rfl⟩) (R_pv_16 hK hP hD) rfl rfl hl.1 rfl (lv_room (Nat.le_of_ble_eq_true rfl)) d_Judge_checkTarget_59 ⟨Nat.le_of_ble_eq_true rfl, Nat.le_of_ble_eq_true rfl⟩) hS (fun H locs hP hD hS => ?_)
      exact hRet _ h _ _ hP hD hS _ _ d_Judge_checkTarget_62
    · replace h := itp c_29 h
      refine lv_iload_n hx hb d_Judge_checkTarget_32 rfl (lv_at hl 0 rfl) ?_
      refine lv_bipush (v := 9) hx hb d_Judge_checkTarget_33 (by decide) ?_
      refine lv_icmp_eq (tgt := 62) hx hb d_Judge_checkTarget_35 (by decide) (fun c_35 => ?_) (fun c_35 => ?_)
      · replace h := itp c_35 h
        exact hRet _ h _ _ hP hD hS _ _ d_Judge_checkTarget_62
      · replace h := itf c_35 h
        refine lv_iload_n hx hb d_Judge_checkTarget_38 rfl (lv_at hl 0 rfl) ?_
        refine lv_bipush (v := 11) hx hb d_Judge_checkTarget_39 (by decide) ?_
        refine lv_icmp_eq (tgt := 62) hx hb d_Judge_checkTarget_41 (by decide) (fun c_41 => ?_) (fun c_41 => ?_)
        · replace h := itp c_41 h
          exact hRet _ h _ _ hP hD hS _ _ d_Judge_checkTarget_62
        · replace h := itf c_41 h
          refine lv_aload_n hx hb d_Judge_checkTarget_44 rfl (lv_at hl 1 rfl) ?_
          refine gf_Judge_39 hx hb hg hown hK hP d_Judge_checkTarget_45 ?_
          refine lv_aload_n hx hb d_Judge_checkTarget_48 rfl (lv_at hl 1 rfl) ?_
          refine gf_Judge_18 hx hb hg hown hK hP d_Judge_checkTarget_49 ?_
          refine lv_aload_n hx hb d_Judge_checkTarget_52 rfl (lv_at hl 1 rfl) ?_
          refine gf_Judge_43 hx hb hg hown hK hP d_Judge_checkTarget_53 ?_
          obtain ⟨i_56, h⟩ := itn h
          refine ra_25 hx hb hK hP i_56 d_Judge_checkTarget_56 ?_
          refine lv_bipush (v := 10) hx hb d_Judge_checkTarget_57 (by decide) ?_
          obtain ⟨σ_59, e_59, h⟩ := bd1_some h
          refine R_callv (va_runV (As := [.int (σ.2.1 25 ((σ.1 12).toNatClampNeg)), .int 10]) (rest := []) ⟨hx, hb, hml, hown, hts⟩ (c_Complaints_mark l K A e_59) (cwV 2 hts (gd_V wd_534 wd_475 wd_476 wd_6 wd_477) rfl rfl rfl dv_Complaints_mark ⟨Nat.le_of_ble_eq_true rfl, Nat.le_of_ble_eq_true rfl⟩) (R_pv_16 hK hP hD) rfl rfl hl.1 rfl (lv_room (Nat.le_of_ble_eq_true rfl)) d_Judge_checkTarget_59 ⟨Nat.le_of_ble_eq_true rfl, Nat.le_of_ble_eq_true rfl⟩) hS (fun H locs hP hD hS => ?_)
          exact hRet _ h _ _ hP hD hS _ _ d_Judge_checkTarget_62
  refine lv_iload_n hx hb d_Judge_checkTarget_0 rfl (lv_at hl 1 rfl) ?_
  refine lv_if_le (tgt := 18) hx hb d_Judge_checkTarget_1 (by decide) (fun c_1 => ?_) (fun c_1 => ?_)
  · replace h := itp c_1 h
    refine lv_iconst (v := 0) hx hb d_Judge_checkTarget_18 (by decide) ?_
    exact J_19  _ _ h _ _ hP hD hS ls (lv_sub hl [0] rfl)
  · replace h := itf c_1 h
    refine lv_aload_n hx hb d_Judge_checkTarget_4 rfl (lv_at hl 0 rfl) ?_
    refine gf_Judge_35 hx hb hg hown hK hP d_Judge_checkTarget_5 ?_
    refine gf_Judge_52 hx hb hg hown hK hP d_Judge_checkTarget_8 ?_
    refine lv_iload_n hx hb d_Judge_checkTarget_11 rfl (lv_at hl 1 rfl) ?_
    refine lv_iconst (v := 1) hx hb d_Judge_checkTarget_12 (by decide) ?_
    refine lv_isub hx hb d_Judge_checkTarget_13 ?_
    obtain ⟨i_14, h⟩ := itn h
    refine ra_9 hx hb hK hP i_14 d_Judge_checkTarget_14 ?_
    refine lv_goto (tgt := 19) hx hb d_Judge_checkTarget_15 (by decide) ?_
    exact J_19  _ _ h _ _ hP hD hS ls (lv_sub hl [0] rfl)
def p_Judge_want (σ : Sto) (x1 : Int32) (x2 : Int32) (x3 : Int32) : Option Sto :=
  bd1 (p_Outline_isRight σ x2 x3) fun v_6 =>
    (if v_6 = 0 then
      bd1 (p_Complaints_mark σ x1 9) fun σ_19 =>
      some σ_19
    else
      some σ)
abbrev w_Judge_want : List Cond := Cond.code y_Judge_want b_Judge_want 4 none :: Tg
abbrev r_Judge_want : Room := { frames := 1, cells := 0, slots := 0, locals := 24 }
theorem dv_Judge_want : y_Judge_want.cls = "LanguageServer$Judge" ∧ y_Judge_want.cls ≠ "java/lang/invoke/MethodHandle" ∧ y_Judge_want.cls ≠ "java/lang/invoke/VarHandle" ∧ (parseMethodDescriptor y_Judge_want.desc).map (fun d => d.parameters.length) = some 3 := by decide +kernel
set_option maxHeartbeats 4000000 in
set_option maxRecDepth 100000 in
theorem c_Judge_want (l : Launch) (K : Kst) (A : Nat → Nat) {σ : Sto} {x1 : Int32} {x2 : Int32} {x3 : Int32} {ss : Sto} (h : p_Judge_want σ x1 x2 x3 = some ss) : Met l y_Judge_want w_Judge_want r_Judge_want (va_Pc [.ref (A 22), .int x1, .int x2, .int x3] (RB K A σ)) (RQv K A ss) 0 0 (RF A) := by
  refine Met.ofW (cc := b_Judge_want) (maxL := 4) (ret := none) (by decide) rfl ?_
  intro p e s m args below meth c s₁ B hml hv
  obtain ⟨rfl, hP, hK, hD⟩ := hv
  have hx := B.exec
  have hb := B.bytes
  have hr := B.returns
  have hts := atoms_spec (ws := w_Judge_want) B.pre
  have hg : ∀ w ∈ Tg, w.before _ s = true := fun w q => hts w (List.mem_cons_of_mem _ q)
  have hown : s.vm.findClass "LanguageServer$Judge" = some m.cls := findClass_of_methodNamed B.named
  have hlocks := B.notSynchronized
  have hS : va_S (RF A) s.heap s.heap [] := va_S.rf
  have hl := lv_entry ([.ref (A 22), .int x1, .int x2, .int x3]) (n := 4) (Nat.le_of_ble_eq_true rfl)
  rw [lg_entry_eq]
  generalize (lg_sl ([.ref (A 22), .int x1, .int x2, .int x3]) ++ List.replicate (4 - (lg_sl ([.ref (A 22), .int x1, .int x2, .int x3])).length) Slot.unset).toArray = ls at hl ⊢
  have hl : lv_has ls 4 [(0, .ref (A 22)), (1, .int x1), (2, .int x2), (3, .int x3)] := hl
  generalize hargs : ([.ref (A 22), .int x1, .int x2, .int x3] : List Value).toArray = args at hg hts ⊢
  obtain ⟨Q, hQ⟩ : ∃ Q, Q = MQ below (RQv K A ss) args s 0 0 (RF A) := ⟨_, rfl⟩
  rw [← hQ]
  have hRet : ∀ (σ : Sto), some σ = some ss → ∀ (H : Heap) (locs : List Loc), va_P K.1 vwCl (wR K A σ) H → va_D (RF A) (wR K A σ) → va_S (RF A) s.heap H locs → ∀ (pc : Nat) (ls : Array Slot), decode b_Judge_want pc = .ok (.return_, 1) → W p l e (headSpec w_Judge_want r_Judge_want).room s m args below meth c H locs 0 0 Q (F0 m pc ls []) := by
    intro σ h H locs hP hD hS pc ls hd
    cases h
    subst hQ
    exact W.vret hx hb hr (fun t ht hW => ⟨⟨(), rfl, trivial, by rw [ht]; exact hP, RK.warm hW hK, hD⟩, hS.F ht⟩) hS.2.2 hd
  clear hQ
  unfold p_Judge_want at h
  refine lv_aload_n hx hb d_Judge_want_0 rfl (lv_at hl 0 rfl) ?_
  refine gf_Judge_35 hx hb hg hown hK hP d_Judge_want_1 ?_
  refine lv_iload_n hx hb d_Judge_want_4 rfl (lv_at hl 2 rfl) ?_
  refine lv_iload_n hx hb d_Judge_want_5 rfl (lv_at hl 3 rfl) ?_
  obtain ⟨v_6, e_6, h⟩ := bd1_some h
  refine R_calli (va_runV (As := [.int x2, .int x3]) (rest := []) ⟨hx, hb, hml, hown, hts⟩ (c_Outline_isRight l K A e_6) (cwV 2 hts (gd_V wd_559 wd_560 wd_561 wd_5 wd_562) rfl rfl rfl dv_Outline_isRight ⟨Nat.le_of_ble_eq_true rfl, Nat.le_of_ble_eq_true rfl⟩) (R_pv_8 hK hP hD) rfl rfl hl.1 rfl (lv_room (Nat.le_of_ble_eq_true rfl)) d_Judge_want_6 ⟨Nat.le_of_ble_eq_true rfl, Nat.le_of_ble_eq_true rfl⟩) hS (fun H locs hP hD hS => ?_)
  refine lv_if_ne (tgt := 22) hx hb d_Judge_want_9 (by decide) (fun c_9 => ?_) (fun c_9 => ?_)
  · replace h := itf c_9 h
    exact hRet _ h _ _ hP hD hS _ _ d_Judge_want_22
  · replace h := itp c_9 h
    refine lv_aload_n hx hb d_Judge_want_12 rfl (lv_at hl 0 rfl) ?_
    refine gf_Judge_39 hx hb hg hown hK hP d_Judge_want_13 ?_
    refine lv_iload_n hx hb d_Judge_want_16 rfl (lv_at hl 1 rfl) ?_
    refine lv_bipush (v := 9) hx hb d_Judge_want_17 (by decide) ?_
    obtain ⟨σ_19, e_19, h⟩ := bd1_some h
    refine R_callv (va_runV (As := [.int x1, .int 9]) (rest := []) ⟨hx, hb, hml, hown, hts⟩ (c_Complaints_mark l K A e_19) (cwV 2 hts (gd_V wd_534 wd_475 wd_476 wd_6 wd_477) rfl rfl rfl dv_Complaints_mark ⟨Nat.le_of_ble_eq_true rfl, Nat.le_of_ble_eq_true rfl⟩) (R_pv_16 hK hP hD) rfl rfl hl.1 rfl (lv_room (Nat.le_of_ble_eq_true rfl)) d_Judge_want_19 ⟨Nat.le_of_ble_eq_true rfl, Nat.le_of_ble_eq_true rfl⟩) hS (fun H locs hP hD hS => ?_)
    exact hRet _ h _ _ hP hD hS _ _ d_Judge_want_22
def p_Judge_endExpression (σ : Sto) : Option (Int32 × Sto) :=
  if inR (σ.1 12) 9 then (if (σ.2.1 28 ((σ.1 12).toNatClampNeg)) = 0 then
      if inR (σ.1 12) 9 then some (σ.2.1 27 ((σ.1 12).toNatClampNeg), σ) else none
    else
      if inR (σ.1 12) 9 then if inR (σ.1 12) 9 then bd1 (p_Judge_want σ (σ.2.1 26 ((σ.1 12).toNatClampNeg)) (σ.2.1 27 ((σ.1 12).toNatClampNeg)) (-1)) fun σ_42 =>
      some ((-1), σ_42) else none else none) else none
abbrev w_Judge_endExpression : List Cond := Cond.code y_Judge_endExpression b_Judge_endExpression 1 (some .int) :: Tg
abbrev r_Judge_endExpression : Room := { frames := 2, cells := 0, slots := 0, locals := 47 }
theorem dv_Judge_endExpression : y_Judge_endExpression.cls = "LanguageServer$Judge" ∧ y_Judge_endExpression.cls ≠ "java/lang/invoke/MethodHandle" ∧ y_Judge_endExpression.cls ≠ "java/lang/invoke/VarHandle" ∧ (parseMethodDescriptor y_Judge_endExpression.desc).map (fun d => d.parameters.length) = some 0 := by decide +kernel
set_option maxHeartbeats 4000000 in
set_option maxRecDepth 100000 in
theorem c_Judge_endExpression (l : Launch) (K : Kst) (A : Nat → Nat) {σ : Sto} {rr : Int32} {ss : Sto} (h : p_Judge_endExpression σ = some (rr, ss)) : Met l y_Judge_endExpression w_Judge_endExpression r_Judge_endExpression (va_Pc [.ref (A 22)] (RB K A σ)) (RQi K A rr ss) 0 0 (RF A) := by
  refine Met.ofW (cc := b_Judge_endExpression) (maxL := 1) (ret := (some .int)) (by decide) rfl ?_
  intro p e s m args below meth c s₁ B hml hv
  obtain ⟨rfl, hP, hK, hD⟩ := hv
  have hx := B.exec
  have hb := B.bytes
  have hr := B.returns
  have hts := atoms_spec (ws := w_Judge_endExpression) B.pre
  have hg : ∀ w ∈ Tg, w.before _ s = true := fun w q => hts w (List.mem_cons_of_mem _ q)
  have hown : s.vm.findClass "LanguageServer$Judge" = some m.cls := findClass_of_methodNamed B.named
  have hlocks := B.notSynchronized
  have hS : va_S (RF A) s.heap s.heap [] := va_S.rf
  have hl := lv_entry ([.ref (A 22)]) (n := 1) (Nat.le_of_ble_eq_true rfl)
  rw [lg_entry_eq]
  generalize (lg_sl ([.ref (A 22)]) ++ List.replicate (1 - (lg_sl ([.ref (A 22)])).length) Slot.unset).toArray = ls at hl ⊢
  have hl : lv_has ls 1 [(0, .ref (A 22))] := hl
  generalize hargs : ([.ref (A 22)] : List Value).toArray = args at hg hts ⊢
  obtain ⟨Q, hQ⟩ : ∃ Q, Q = MQ below (RQi K A rr ss) args s 0 0 (RF A) := ⟨_, rfl⟩
  rw [← hQ]
  have hRet : ∀ (v : Int32) (σ : Sto), some (v, σ) = some (rr, ss) → ∀ (H : Heap) (locs : List Loc), va_P K.1 vwCl (wR K A σ) H → va_D (RF A) (wR K A σ) → va_S (RF A) s.heap H locs → ∀ (pc : Nat) (ls : Array Slot), decode b_Judge_endExpression pc = .ok (.ireturn, 1) → W p l e (headSpec w_Judge_endExpression r_Judge_endExpression).room s m args below meth c H locs 0 0 Q (F0 m pc ls [.int v]) := by
    intro v σ h H locs hP hD hS pc ls hd
    cases h
    subst hQ
    exact W.iret hx hb hr (fun t ht hW => ⟨⟨_, (), rfl, rfl, by rw [ht]; exact hP, RK.warm hW hK, hD⟩, hS.F ht⟩) hS.2.2 hd
  clear hQ
  unfold p_Judge_endExpression at h
  refine lv_aload_n hx hb d_Judge_endExpression_0 rfl (lv_at hl 0 rfl) ?_
  refine gf_Judge_27 hx hb hg hown hK hP d_Judge_endExpression_1 ?_
  refine lv_aload_n hx hb d_Judge_endExpression_4 rfl (lv_at hl 0 rfl) ?_
  refine gf_Judge_43 hx hb hg hown hK hP d_Judge_endExpression_5 ?_
  obtain ⟨i_8, h⟩ := itn h
  refine ra_28 hx hb hK hP i_8 d_Judge_endExpression_8 ?_
  refine lv_if_ne (tgt := 22) hx hb d_Judge_endExpression_9 (by decide) (fun c_9 => ?_) (fun c_9 => ?_)
  · replace h := itf c_9 h
    refine lv_aload_n hx hb d_Judge_endExpression_22 rfl (lv_at hl 0 rfl) ?_
    refine lv_aload_n hx hb d_Judge_endExpression_23 rfl (lv_at hl 0 rfl) ?_
    refine gf_Judge_21 hx hb hg hown hK hP d_Judge_endExpression_24 ?_
    refine lv_aload_n hx hb d_Judge_endExpression_27 rfl (lv_at hl 0 rfl) ?_
    refine gf_Judge_43 hx hb hg hown hK hP d_Judge_endExpression_28 ?_
    obtain ⟨i_31, h⟩ := itn h
    refine ra_26 hx hb hK hP i_31 d_Judge_endExpression_31 ?_
    refine lv_aload_n hx hb d_Judge_endExpression_32 rfl (lv_at hl 0 rfl) ?_
    refine gf_Judge_24 hx hb hg hown hK hP d_Judge_endExpression_33 ?_
    refine lv_aload_n hx hb d_Judge_endExpression_36 rfl (lv_at hl 0 rfl) ?_
    refine gf_Judge_43 hx hb hg hown hK hP d_Judge_endExpression_37 ?_
    obtain ⟨i_40, h⟩ := itn h
    refine ra_27 hx hb hK hP i_40 d_Judge_endExpression_40 ?_
    refine lv_iconst (v := (-1)) hx hb d_Judge_endExpression_41 (by decide) ?_
    obtain ⟨σ_42, e_42, h⟩ := bd1_some h
    refine R_callv (va_runV (As := [.int (σ.2.1 26 ((σ.1 12).toNatClampNeg)), .int (σ.2.1 27 ((σ.1 12).toNatClampNeg)), .int (-1)]) (rest := []) ⟨hx, hb, hml, hown, hts⟩ (c_Judge_want l K A e_42) (cwV 3 hts (gd_V wd_555 wd_557 wp_34 wd_9 wd_558) rfl rfl rfl dv_Judge_want ⟨Nat.le_of_ble_eq_true rfl, Nat.le_of_ble_eq_true rfl⟩) (R_pv_22 hK hP hD) rfl rfl hl.1 rfl (lv_room (Nat.le_of_ble_eq_true rfl)) d_Judge_endExpression_42 ⟨Nat.le_of_ble_eq_true rfl, Nat.le_of_ble_eq_true rfl⟩) hS (fun H locs hP hD hS => ?_)
    refine lv_iconst (v := (-1)) hx hb d_Judge_endExpression_45 (by decide) ?_
    exact hRet _ _ h _ _ hP hD hS _ _ d_Judge_endExpression_46
  · replace h := itp c_9 h
    refine lv_aload_n hx hb d_Judge_endExpression_12 rfl (lv_at hl 0 rfl) ?_
    refine gf_Judge_24 hx hb hg hown hK hP d_Judge_endExpression_13 ?_
    refine lv_aload_n hx hb d_Judge_endExpression_16 rfl (lv_at hl 0 rfl) ?_
    refine gf_Judge_43 hx hb hg hown hK hP d_Judge_endExpression_17 ?_
    obtain ⟨i_20, h⟩ := itn h
    refine ra_27 hx hb hK hP i_20 d_Judge_endExpression_20 ?_
    exact hRet _ _ h _ _ hP hD hS _ _ d_Judge_endExpression_21
def p_Judge_takeStatementSign (σ : Sto) (x1 : Int32) (x2 : Int32) : Option Sto :=
  (if x2 = 15 then
      bd1 (p_Judge_beginStatement σ (x1 + 1)) fun σ_36 =>
      some σ_36
    else (if x2 = 16 then
      if inR (σ.1 14) 121 then bd1 (p_Judge_begin (sS σ 17 (σ.2.1 12 ((σ.1 14).toNatClampNeg))) (x1 + 1)) fun σ_62 =>
      some σ_62 else none
    else (if x2 = 17 then
      if inR (σ.1 15) 121 then bd1 (p_Judge_begin (sS σ 17 (σ.2.1 12 ((σ.1 15).toNatClampNeg))) (x1 + 1)) fun σ_88 =>
      some σ_88 else none
    else (if x2 = 18 then
      bd1 (p_Judge_checkTarget σ x1) fun σ_96 =>
      bd2 (p_Judge_endExpression σ_96) fun v_101 σ_101 =>
      bd1 (p_Judge_begin (sS σ_101 17 v_101) (x1 + 1)) fun σ_111 =>
      some σ_111
    else if inR (σ.1 12) 9 then bd2 (p_Judge_endExpression σ) fun v_128 σ_128 =>
      bd1 (p_Judge_want σ_128 (σ.2.1 25 ((σ.1 12).toNatClampNeg)) v_128 (σ_128.1 17)) fun σ_135 =>
      bd1 (p_Judge_beginStatement σ_135 (x1 + 1)) fun σ_142 =>
      some σ_142 else none))))
abbrev w_Judge_takeStatementSign : List Cond := Cond.code y_Judge_takeStatementSign b_Judge_takeStatementSign 3 none :: Tg
abbrev r_Judge_takeStatementSign : Room := { frames := 3, cells := 0, slots := 0, locals := 67 }
theorem dv_Judge_takeStatementSign : y_Judge_takeStatementSign.cls = "LanguageServer$Judge" ∧ y_Judge_takeStatementSign.cls ≠ "java/lang/invoke/MethodHandle" ∧ y_Judge_takeStatementSign.cls ≠ "java/lang/invoke/VarHandle" ∧ (parseMethodDescriptor y_Judge_takeStatementSign.desc).map (fun d => d.parameters.length) = some 2 := by decide +kernel
set_option maxHeartbeats 4000000 in
set_option maxRecDepth 100000 in
theorem c_Judge_takeStatementSign (l : Launch) (K : Kst) (A : Nat → Nat) {σ : Sto} {x1 : Int32} {x2 : Int32} {ss : Sto} (h : p_Judge_takeStatementSign σ x1 x2 = some ss) : Met l y_Judge_takeStatementSign w_Judge_takeStatementSign r_Judge_takeStatementSign (va_Pc [.ref (A 22), .int x1, .int x2] (RB K A σ)) (RQv K A ss) 0 0 (RF A) := by
  refine Met.ofW (cc := b_Judge_takeStatementSign) (maxL := 3) (ret := none) (by decide) rfl ?_
  intro p e s m args below meth c s₁ B hml hv
  obtain ⟨rfl, hP, hK, hD⟩ := hv
  have hx := B.exec
  have hb := B.bytes
  have hr := B.returns
  have hts := atoms_spec (ws := w_Judge_takeStatementSign) B.pre
  have hg : ∀ w ∈ Tg, w.before _ s = true := fun w q => hts w (List.mem_cons_of_mem _ q)
  have hown : s.vm.findClass "LanguageServer$Judge" = some m.cls := findClass_of_methodNamed B.named
  have hlocks := B.notSynchronized
  have hS : va_S (RF A) s.heap s.heap [] := va_S.rf
  have hl := lv_entry ([.ref (A 22), .int x1, .int x2]) (n := 3) (Nat.le_of_ble_eq_true rfl)
  rw [lg_entry_eq]
  generalize (lg_sl ([.ref (A 22), .int x1, .int x2]) ++ List.replicate (3 - (lg_sl ([.ref (A 22), .int x1, .int x2])).length) Slot.unset).toArray = ls at hl ⊢
  have hl : lv_has ls 3 [(0, .ref (A 22)), (1, .int x1), (2, .int x2)] := hl
  generalize hargs : ([.ref (A 22), .int x1, .int x2] : List Value).toArray = args at hg hts ⊢
  obtain ⟨Q, hQ⟩ : ∃ Q, Q = MQ below (RQv K A ss) args s 0 0 (RF A) := ⟨_, rfl⟩
  rw [← hQ]
  have hRet : ∀ (σ : Sto), some σ = some ss → ∀ (H : Heap) (locs : List Loc), va_P K.1 vwCl (wR K A σ) H → va_D (RF A) (wR K A σ) → va_S (RF A) s.heap H locs → ∀ (pc : Nat) (ls : Array Slot), decode b_Judge_takeStatementSign pc = .ok (.return_, 1) → W p l e (headSpec w_Judge_takeStatementSign r_Judge_takeStatementSign).room s m args below meth c H locs 0 0 Q (F0 m pc ls []) := by
    intro σ h H locs hP hD hS pc ls hd
    cases h
    subst hQ
    exact W.vret hx hb hr (fun t ht hW => ⟨⟨(), rfl, trivial, by rw [ht]; exact hP, RK.warm hW hK, hD⟩, hS.F ht⟩) hS.2.2 hd
  clear hQ
  unfold p_Judge_takeStatementSign at h
  refine lv_iload_n hx hb d_Judge_takeStatementSign_0 rfl (lv_at hl 2 rfl) ?_
  by_cases c_1_0 : x2 = 15
  · replace h := itp c_1_0 h
    refine lv_tableIn (off := 31) (tgt := 32) hx hb d_Judge_takeStatementSign_1 (by rw [c_1_0]; decide) (by rw [c_1_0]; decide) (by rw [c_1_0]; first | done | rfl | decide) (by decide) ?_
    refine lv_aload_n hx hb d_Judge_takeStatementSign_32 rfl (lv_at hl 0 rfl) ?_
    refine lv_iload_n hx hb d_Judge_takeStatementSign_33 rfl (lv_at hl 1 rfl) ?_
    refine lv_iconst (v := 1) hx hb d_Judge_takeStatementSign_34 (by decide) ?_
    refine lv_iadd hx hb d_Judge_takeStatementSign_35 ?_
    obtain ⟨σ_36, e_36, h⟩ := bd1_some h
    refine R_callv (va_runV (As := [.int (x1 + 1)]) (rest := []) ⟨hx, hb, hml, hown, hts⟩ (c_Judge_beginStatement l K A e_36) (cwV 1 hts (gd_V wd_539 wd_541 wp_30 wd_9 wd_542) rfl rfl rfl dv_Judge_beginStatement ⟨Nat.le_of_ble_eq_true rfl, Nat.le_of_ble_eq_true rfl⟩) (R_pv_22 hK hP hD) rfl rfl hl.1 rfl (lv_room (Nat.le_of_ble_eq_true rfl)) d_Judge_takeStatementSign_36 ⟨Nat.le_of_ble_eq_true rfl, Nat.le_of_ble_eq_true rfl⟩) hS (fun H locs hP hD hS => ?_)
    refine lv_goto (tgt := 145) hx hb d_Judge_takeStatementSign_39 (by decide) ?_
    exact hRet _ h _ _ hP hD hS _ _ d_Judge_takeStatementSign_145
  replace h := itf c_1_0 h
  by_cases c_1_1 : x2 = 16
  · replace h := itp c_1_1 h
    refine lv_tableIn (off := 41) (tgt := 42) hx hb d_Judge_takeStatementSign_1 (by rw [c_1_1]; decide) (by rw [c_1_1]; decide) (by rw [c_1_1]; first | done | rfl | decide) (by decide) ?_
    refine lv_aload_n hx hb d_Judge_takeStatementSign_42 rfl (lv_at hl 0 rfl) ?_
    refine lv_aload_n hx hb d_Judge_takeStatementSign_43 rfl (lv_at hl 0 rfl) ?_
    refine gf_Judge_35 hx hb hg hown hK hP d_Judge_takeStatementSign_44 ?_
    refine gf_Judge_70 hx hb hg hown hK hP d_Judge_takeStatementSign_47 ?_
    refine lv_aload_n hx hb d_Judge_takeStatementSign_50 rfl (lv_at hl 0 rfl) ?_
    refine gf_Judge_76 hx hb hg hown hK hP d_Judge_takeStatementSign_51 ?_
    obtain ⟨i_54, h⟩ := itn h
    refine ra_12 hx hb hK hP i_54 d_Judge_takeStatementSign_54 ?_
    refine pf_Judge_126 hx hb hg hown hK hP hD hS d_Judge_takeStatementSign_55 (fun H locs hP hD hS => ?_)
    refine lv_aload_n hx hb d_Judge_takeStatementSign_58 rfl (lv_at hl 0 rfl) ?_
    refine lv_iload_n hx hb d_Judge_takeStatementSign_59 rfl (lv_at hl 1 rfl) ?_
    refine lv_iconst (v := 1) hx hb d_Judge_takeStatementSign_60 (by decide) ?_
    refine lv_iadd hx hb d_Judge_takeStatementSign_61 ?_
    obtain ⟨σ_62, e_62, h⟩ := bd1_some h
    refine R_callv (va_runV (As := [.int (x1 + 1)]) (rest := []) ⟨hx, hb, hml, hown, hts⟩ (c_Judge_begin l K A e_62) (cwV 1 hts (gd_V wd_543 wd_545 wp_31 wd_9 wd_546) rfl rfl rfl dv_Judge_begin ⟨Nat.le_of_ble_eq_true rfl, Nat.le_of_ble_eq_true rfl⟩) (R_pv_22 hK hP hD) rfl rfl hl.1 rfl (lv_room (Nat.le_of_ble_eq_true rfl)) d_Judge_takeStatementSign_62 ⟨Nat.le_of_ble_eq_true rfl, Nat.le_of_ble_eq_true rfl⟩) hS (fun H locs hP hD hS => ?_)
    refine lv_goto (tgt := 145) hx hb d_Judge_takeStatementSign_65 (by decide) ?_
    exact hRet _ h _ _ hP hD hS _ _ d_Judge_takeStatementSign_145
  replace h := itf c_1_1 h
  by_cases c_1_2 : x2 = 17
  · replace h := itp c_1_2 h
    refine lv_tableIn (off := 67) (tgt := 68) hx hb d_Judge_takeStatementSign_1 (by rw [c_1_2]; decide) (by rw [c_1_2]; decide) (by rw [c_1_2]; first | done | rfl | decide) (by decide) ?_
    refine lv_aload_n hx hb d_Judge_takeStatementSign_68 rfl (lv_at hl 0 rfl) ?_
    refine lv_aload_n hx hb d_Judge_takeStatementSign_69 rfl (lv_at hl 0 rfl) ?_
    refine gf_Judge_35 hx hb hg hown hK hP d_Judge_takeStatementSign_70 ?_
    refine gf_Judge_70 hx hb hg hown hK hP d_Judge_takeStatementSign_73 ?_
    refine lv_aload_n hx hb d_Judge_takeStatementSign_76 rfl (lv_at hl 0 rfl) ?_
    refine gf_Judge_79 hx hb hg hown hK hP d_Judge_takeStatementSign_77 ?_
    obtain ⟨i_80, h⟩ := itn h
    refine ra_12 hx hb hK hP i_80 d_Judge_takeStatementSign_80 ?_
    refine pf_Judge_126 hx hb hg hown hK hP hD hS d_Judge_takeStatementSign_81 (fun H locs hP hD hS => ?_)
    refine lv_aload_n hx hb d_Judge_takeStatementSign_84 rfl (lv_at hl 0 rfl) ?_
    refine lv_iload_n hx hb d_Judge_takeStatementSign_85 rfl (lv_at hl 1 rfl) ?_
    refine lv_iconst (v := 1) hx hb d_Judge_takeStatementSign_86 (by decide) ?_
    refine lv_iadd hx hb d_Judge_takeStatementSign_87 ?_
    obtain ⟨σ_88, e_88, h⟩ := bd1_some h
    refine R_callv (va_runV (As := [.int (x1 + 1)]) (rest := []) ⟨hx, hb, hml, hown, hts⟩ (c_Judge_begin l K A e_88) (cwV 1 hts (gd_V wd_543 wd_545 wp_31 wd_9 wd_546) rfl rfl rfl dv_Judge_begin ⟨Nat.le_of_ble_eq_true rfl, Nat.le_of_ble_eq_true rfl⟩) (R_pv_22 hK hP hD) rfl rfl hl.1 rfl (lv_room (Nat.le_of_ble_eq_true rfl)) d_Judge_takeStatementSign_88 ⟨Nat.le_of_ble_eq_true rfl, Nat.le_of_ble_eq_true rfl⟩) hS (fun H locs hP hD hS => ?_)
    refine lv_goto (tgt := 145) hx hb d_Judge_takeStatementSign_91 (by decide) ?_
    exact hRet _ h _ _ hP hD hS _ _ d_Judge_takeStatementSign_145
  replace h := itf c_1_2 h
  by_cases c_1_3 : x2 = 18
  · replace h := itp c_1_3 h
    refine lv_tableIn (off := 93) (tgt := 94) hx hb d_Judge_takeStatementSign_1 (by rw [c_1_3]; decide) (by rw [c_1_3]; decide) (by rw [c_1_3]; first | done | rfl | decide) (by decide) ?_
    refine lv_aload_n hx hb d_Judge_takeStatementSign_94 rfl (lv_at hl 0 rfl) ?_
    refine lv_iload_n hx hb d_Judge_takeStatementSign_95 rfl (lv_at hl 1 rfl) ?_
    obtain ⟨σ_96, e_96, h⟩ := bd1_some h
    refine R_callv (va_runV (As := [.int x1]) (rest := []) ⟨hx, hb, hml, hown, hts⟩ (c_Judge_checkTarget l K A e_96) (cwV 1 hts (gd_V wd_547 wd_549 wp_32 wd_9 wd_550) rfl rfl rfl dv_Judge_checkTarget ⟨Nat.le_of_ble_eq_true rfl, Nat.le_of_ble_eq_true rfl⟩) (R_pv_22 hK hP hD) rfl rfl hl.1 rfl (lv_room (Nat.le_of_ble_eq_true rfl)) d_Judge_takeStatementSign_96 ⟨Nat.le_of_ble_eq_true rfl, Nat.le_of_ble_eq_true rfl⟩) hS (fun H locs hP hD hS => ?_)
    refine lv_aload_n hx hb d_Judge_takeStatementSign_99 rfl (lv_at hl 0 rfl) ?_
    refine lv_aload_n hx hb d_Judge_takeStatementSign_100 rfl (lv_at hl 0 rfl) ?_
    obtain ⟨v_101, σ_101, e_101, h⟩ := bd2_some h
    refine R_calli (va_runV (As := []) (rest := [.ref (A 22)]) ⟨hx, hb, hml, hown, hts⟩ (c_Judge_endExpression l K A e_101) (cwV 0 hts (gd_V wd_551 wd_553 wp_33 wd_9 wd_554) rfl rfl rfl dv_Judge_endExpression ⟨Nat.le_of_ble_eq_true rfl, Nat.le_of_ble_eq_true rfl⟩) (R_pv_22 hK hP hD) rfl rfl hl.1 rfl (lv_room (Nat.le_of_ble_eq_true rfl)) d_Judge_takeStatementSign_101 ⟨Nat.le_of_ble_eq_true rfl, Nat.le_of_ble_eq_true rfl⟩) hS (fun H locs hP hD hS => ?_)
    refine pf_Judge_126 hx hb hg hown hK hP hD hS d_Judge_takeStatementSign_104 (fun H locs hP hD hS => ?_)
    refine lv_aload_n hx hb d_Judge_takeStatementSign_107 rfl (lv_at hl 0 rfl) ?_
    refine lv_iload_n hx hb d_Judge_takeStatementSign_108 rfl (lv_at hl 1 rfl) ?_
    refine lv_iconst (v := 1) hx hb d_Judge_takeStatementSign_109 (by decide) ?_
    refine lv_iadd hx hb d_Judge_takeStatementSign_110 ?_
    obtain ⟨σ_111, e_111, h⟩ := bd1_some h
    refine R_callv (va_runV (As := [.int (x1 + 1)]) (rest := []) ⟨hx, hb, hml, hown, hts⟩ (c_Judge_begin l K A e_111) (cwV 1 hts (gd_V wd_543 wd_545 wp_31 wd_9 wd_546) rfl rfl rfl dv_Judge_begin ⟨Nat.le_of_ble_eq_true rfl, Nat.le_of_ble_eq_true rfl⟩) (R_pv_22 hK hP hD) rfl rfl hl.1 rfl (lv_room (Nat.le_of_ble_eq_true rfl)) d_Judge_takeStatementSign_111 ⟨Nat.le_of_ble_eq_true rfl, Nat.le_of_ble_eq_true rfl⟩) hS (fun H locs hP hD hS => ?_)
    refine lv_goto (tgt := 145) hx hb d_Judge_takeStatementSign_114 (by decide) ?_
    exact hRet _ h _ _ hP hD hS _ _ d_Judge_takeStatementSign_145
  replace h := itf c_1_3 h
  have n_0 := lv_neT c_1_0 (a := 15) rfl
  have n_1 := lv_neT c_1_1 (a := 16) rfl
  have n_2 := lv_neT c_1_2 (a := 17) rfl
  have n_3 := lv_neT c_1_3 (a := 18) rfl
  refine lv_tableOut (tgt := 117) hx hb d_Judge_takeStatementSign_1 (by omega) (by decide) ?_
  refine lv_aload_n hx hb d_Judge_takeStatementSign_117 rfl (lv_at hl 0 rfl) ?_
  refine lv_aload_n hx hb d_Judge_takeStatementSign_118 rfl (lv_at hl 0 rfl) ?_
  refine gf_Judge_18 hx hb hg hown hK hP d_Judge_takeStatementSign_119 ?_
  refine lv_aload_n hx hb d_Judge_takeStatementSign_122 rfl (lv_at hl 0 rfl) ?_
  refine gf_Judge_43 hx hb hg hown hK hP d_Judge_takeStatementSign_123 ?_
  obtain ⟨i_126, h⟩ := itn h
  refine ra_25 hx hb hK hP i_126 d_Judge_takeStatementSign_126 ?_
  refine lv_aload_n hx hb d_Judge_takeStatementSign_127 rfl (lv_at hl 0 rfl) ?_
  obtain ⟨v_128, σ_128, e_128, h⟩ := bd2_some h
  refine R_calli (va_runV (As := []) (rest := [.int (σ.2.1 25 ((σ.1 12).toNatClampNeg)), .ref (A 22)]) ⟨hx, hb, hml, hown, hts⟩ (c_Judge_endExpression l K A e_128) (cwV 0 hts (gd_V wd_551 wd_553 wp_33 wd_9 wd_554) rfl rfl rfl dv_Judge_endExpression ⟨Nat.le_of_ble_eq_true rfl, Nat.le_of_ble_eq_true rfl⟩) (R_pv_22 hK hP hD) rfl rfl hl.1 rfl (lv_room (Nat.le_of_ble_eq_true rfl)) d_Judge_takeStatementSign_128 ⟨Nat.le_of_ble_eq_true rfl, Nat.le_of_ble_eq_true rfl⟩) hS (fun H locs hP hD hS => ?_)
  refine lv_aload_n hx hb d_Judge_takeStatementSign_131 rfl (lv_at hl 0 rfl) ?_
  refine gf_Judge_126 hx hb hg hown hK hP d_Judge_takeStatementSign_132 ?_
  obtain ⟨σ_135, e_135, h⟩ := bd1_some h
  refine R_callv (va_runV (As := [.int (σ.2.1 25 ((σ.1 12).toNatClampNeg)), .int v_128, .int (σ_128.1 17)]) (rest := []) ⟨hx, hb, hml, hown, hts⟩ (c_Judge_want l K A e_135) (cwV 3 hts (gd_V wd_555 wd_557 wp_34 wd_9 wd_558) rfl rfl rfl dv_Judge_want ⟨Nat.le_of_ble_eq_true rfl, Nat.le_of_ble_eq_true rfl⟩) (R_pv_22 hK hP hD) rfl rfl hl.1 rfl (lv_room (Nat.le_of_ble_eq_true rfl)) d_Judge_takeStatementSign_135 ⟨Nat.le_of_ble_eq_true rfl, Nat.le_of_ble_eq_true rfl⟩) hS (fun H locs hP hD hS => ?_)
  refine lv_aload_n hx hb d_Judge_takeStatementSign_138 rfl (lv_at hl 0 rfl) ?_
  refine lv_iload_n hx hb d_Judge_takeStatementSign_139 rfl (lv_at hl 1 rfl) ?_
  refine lv_iconst (v := 1) hx hb d_Judge_takeStatementSign_140 (by decide) ?_
  refine lv_iadd hx hb d_Judge_takeStatementSign_141 ?_
  obtain ⟨σ_142, e_142, h⟩ := bd1_some h
  refine R_callv (va_runV (As := [.int (x1 + 1)]) (rest := []) ⟨hx, hb, hml, hown, hts⟩ (c_Judge_beginStatement l K A e_142) (cwV 1 hts (gd_V wd_539 wd_541 wp_30 wd_9 wd_542) rfl rfl rfl dv_Judge_beginStatement ⟨Nat.le_of_ble_eq_true rfl, Nat.le_of_ble_eq_true rfl⟩) (R_pv_22 hK hP hD) rfl rfl hl.1 rfl (lv_room (Nat.le_of_ble_eq_true rfl)) d_Judge_takeStatementSign_142 ⟨Nat.le_of_ble_eq_true rfl, Nat.le_of_ble_eq_true rfl⟩) hS (fun H locs hP hD hS => ?_)
  exact hRet _ h _ _ hP hD hS _ _ d_Judge_takeStatementSign_145
def p_Judge_open (σ : Sto) (x1 : Int32) (x2 : Int32) : Option Sto :=
  (if (9 : Int32) ≤ ((σ.1 12) + 1) then
      some σ
    else
      if inR ((sS σ 12 ((σ.1 12) + 1)).1 12) 9 then if inR ((sA (sS σ 12 ((σ.1 12) + 1)) 23 (((sS σ 12 ((σ.1 12) + 1)).1 12).toNatClampNeg) x1).1 12) 9 then bd1 (p_Judge_begin (sA (sA (sS σ 12 ((σ.1 12) + 1)) 23 (((sS σ 12 ((σ.1 12) + 1)).1 12).toNatClampNeg) x1) 24 (((sA (sS σ 12 ((σ.1 12) + 1)) 23 (((sS σ 12 ((σ.1 12) + 1)).1 12).toNatClampNeg) x1).1 12).toNatClampNeg) 0) x2) fun σ_43 =>
      some σ_43 else none else none)
abbrev w_Judge_opn : List Cond := Cond.code y_Judge_opn b_Judge_opn 3 none :: Tg
abbrev r_Judge_opn : Room := { frames := 1, cells := 0, slots := 0, locals := 21 }
theorem dv_Judge_opn : y_Judge_opn.cls = "LanguageServer$Judge" ∧ y_Judge_opn.cls ≠ "java/lang/invoke/MethodHandle" ∧ y_Judge_opn.cls ≠ "java/lang/invoke/VarHandle" ∧ (parseMethodDescriptor y_Judge_opn.desc).map (fun d => d.parameters.length) = some 2 := by decide +kernel
set_option maxHeartbeats 4000000 in
set_option maxRecDepth 100000 in
theorem c_Judge_opn (l : Launch) (K : Kst) (A : Nat → Nat) {σ : Sto} {x1 : Int32} {x2 : Int32} {ss : Sto} (h : p_Judge_open σ x1 x2 = some ss) : Met l y_Judge_opn w_Judge_opn r_Judge_opn (va_Pc [.ref (A 22), .int x1, .int x2] (RB K A σ)) (RQv K A ss) 0 0 (RF A) := by
  refine Met.ofW (cc := b_Judge_opn) (maxL := 3) (ret := none) (by decide) rfl ?_
  intro p e s m args below meth c s₁ B hml hv
  obtain ⟨rfl, hP, hK, hD⟩ := hv
  have hx := B.exec
  have hb := B.bytes
  have hr := B.returns
  have hts := atoms_spec (ws := w_Judge_opn) B.pre
  have hg : ∀ w ∈ Tg, w.before _ s = true := fun w q => hts w (List.mem_cons_of_mem _ q)
  have hown : s.vm.findClass "LanguageServer$Judge" = some m.cls := findClass_of_methodNamed B.named
  have hlocks := B.notSynchronized
  have hS : va_S (RF A) s.heap s.heap [] := va_S.rf
  have hl := lv_entry ([.ref (A 22), .int x1, .int x2]) (n := 3) (Nat.le_of_ble_eq_true rfl)
  rw [lg_entry_eq]
  generalize (lg_sl ([.ref (A 22), .int x1, .int x2]) ++ List.replicate (3 - (lg_sl ([.ref (A 22), .int x1, .int x2])).length) Slot.unset).toArray = ls at hl ⊢
  have hl : lv_has ls 3 [(0, .ref (A 22)), (1, .int x1), (2, .int x2)] := hl
  generalize hargs : ([.ref (A 22), .int x1, .int x2] : List Value).toArray = args at hg hts ⊢
  obtain ⟨Q, hQ⟩ : ∃ Q, Q = MQ below (RQv K A ss) args s 0 0 (RF A) := ⟨_, rfl⟩
  rw [← hQ]
  have hRet : ∀ (σ : Sto), some σ = some ss → ∀ (H : Heap) (locs : List Loc), va_P K.1 vwCl (wR K A σ) H → va_D (RF A) (wR K A σ) → va_S (RF A) s.heap H locs → ∀ (pc : Nat) (ls : Array Slot), decode b_Judge_opn pc = .ok (.return_, 1) → W p l e (headSpec w_Judge_opn r_Judge_opn).room s m args below meth c H locs 0 0 Q (F0 m pc ls []) := by
    intro σ h H locs hP hD hS pc ls hd
    cases h
    subst hQ
    exact W.vret hx hb hr (fun t ht hW => ⟨⟨(), rfl, trivial, by rw [ht]; exact hP, RK.warm hW hK, hD⟩, hS.F ht⟩) hS.2.2 hd
  clear hQ
  unfold p_Judge_open at h
  refine lv_aload_n hx hb d_Judge_opn_0 rfl (lv_at hl 0 rfl) ?_
  refine gf_Judge_43 hx hb hg hown hK hP d_Judge_opn_1 ?_
  refine lv_iconst (v := 1) hx hb d_Judge_opn_4 (by decide) ?_
  refine lv_iadd hx hb d_Judge_opn_5 ?_
  refine lv_bipush (v := 9) hx hb d_Judge_opn_6 (by decide) ?_
  refine lv_icmp_ge (tgt := 46) hx hb d_Judge_opn_8 (by decide) (fun c_8 => ?_) (fun c_8 => ?_)
  · replace h := itp c_8 h
    exact hRet _ h _ _ hP hD hS _ _ d_Judge_opn_46
  · replace h := itf c_8 h
    refine lv_aload_n hx hb d_Judge_opn_11 rfl (lv_at hl 0 rfl) ?_
    refine lv_dup hx hb d_Judge_opn_12 rfl ?_
    refine gf_Judge_43 hx hb hg hown hK hP d_Judge_opn_13 ?_
    refine lv_iconst (v := 1) hx hb d_Judge_opn_16 (by decide) ?_
    refine lv_iadd hx hb d_Judge_opn_17 ?_
    refine pf_Judge_43 hx hb hg hown hK hP hD hS d_Judge_opn_18 (fun H locs hP hD hS => ?_)
    refine lv_aload_n hx hb d_Judge_opn_21 rfl (lv_at hl 0 rfl) ?_
    refine gf_Judge_11 hx hb hg hown hK hP d_Judge_opn_22 ?_
    refine lv_aload_n hx hb d_Judge_opn_25 rfl (lv_at hl 0 rfl) ?_
    refine gf_Judge_43 hx hb hg hown hK hP d_Judge_opn_26 ?_
    refine lv_iload_n hx hb d_Judge_opn_29 rfl (lv_at hl 1 rfl) ?_
    obtain ⟨i_30, h⟩ := itn h
    refine wa_23 hx hb hK hP hD hS i_30 d_Judge_opn_30 (fun H locs hP hD hS => ?_)
    refine lv_aload_n hx hb d_Judge_opn_31 rfl (lv_at hl 0 rfl) ?_
    refine gf_Judge_15 hx hb hg hown hK hP d_Judge_opn_32 ?_
    refine lv_aload_n hx hb d_Judge_opn_35 rfl (lv_at hl 0 rfl) ?_
    refine gf_Judge_43 hx hb hg hown hK hP d_Judge_opn_36 ?_
    refine lv_iconst (v := 0) hx hb d_Judge_opn_39 (by decide) ?_
    obtain ⟨i_40, h⟩ := itn h
    refine wa_24 hx hb hK hP hD hS i_40 d_Judge_opn_40 (fun H locs hP hD hS => ?_)
    refine lv_aload_n hx hb d_Judge_opn_41 rfl (lv_at hl 0 rfl) ?_
    refine lv_iload_n hx hb d_Judge_opn_42 rfl (lv_at hl 2 rfl) ?_
    obtain ⟨σ_43, e_43, h⟩ := bd1_some h
    refine R_callv (va_runV (As := [.int x2]) (rest := []) ⟨hx, hb, hml, hown, hts⟩ (c_Judge_begin l K A e_43) (cwV 1 hts (gd_V wd_543 wd_545 wp_31 wd_9 wd_546) rfl rfl rfl dv_Judge_begin ⟨Nat.le_of_ble_eq_true rfl, Nat.le_of_ble_eq_true rfl⟩) (R_pv_22 hK hP hD) rfl rfl hl.1 rfl (lv_room (Nat.le_of_ble_eq_true rfl)) d_Judge_opn_43 ⟨Nat.le_of_ble_eq_true rfl, Nat.le_of_ble_eq_true rfl⟩) hS (fun H locs hP hD hS => ?_)
    exact hRet _ h _ _ hP hD hS _ _ d_Judge_opn_46
def p_Judge_checkArgument (σ : Sto) (x1 : Int32) : Option Sto :=
  if inR (σ.1 12) 9 then (if (σ.2.1 23 ((σ.1 12).toNatClampNeg)) = (-1) then
      some σ
    else
      if inR (σ.2.1 23 ((σ.1 12).toNatClampNeg)) 121 then (if (σ.2.1 10 ((σ.2.1 23 ((σ.1 12).toNatClampNeg)).toNatClampNeg)) = 0 then
        some σ
      else
        if inR (σ.2.1 23 ((σ.1 12).toNatClampNeg)) 121 then (if (σ.2.1 11 ((σ.2.1 23 ((σ.1 12).toNatClampNeg)).toNatClampNeg)) = (-1) then
          if inR (σ.1 12) 9 then if inR (σ.1 12) 9 then some (sA σ 24 ((σ.1 12).toNatClampNeg) ((σ.2.1 24 ((σ.1 12).toNatClampNeg)) + 1)) else none else none
        else
          if inR (σ.2.1 11 ((σ.2.1 23 ((σ.1 12).toNatClampNeg)).toNatClampNeg)) 121 then if inR (σ.2.1 23 ((σ.1 12).toNatClampNeg)) 121 then (if (σ.2.1 10 ((σ.2.1 11 ((σ.2.1 23 ((σ.1 12).toNatClampNeg)).toNatClampNeg)).toNatClampNeg)) = (σ.2.1 10 ((σ.2.1 23 ((σ.1 12).toNatClampNeg)).toNatClampNeg)) then
            if inR (σ.1 12) 9 then if inR (σ.1 12) 9 then bd1 (p_Outline_parameterType σ (σ.2.1 11 ((σ.2.1 23 ((σ.1 12).toNatClampNeg)).toNatClampNeg)) (σ.2.1 24 ((σ.1 12).toNatClampNeg))) fun v_89 =>
            bd1 (p_Judge_want σ (σ.2.1 25 ((σ.1 12).toNatClampNeg)) x1 v_89) fun σ_92 =>
            if inR (σ_92.1 12) 9 then if inR (σ_92.1 12) 9 then some (sA σ_92 24 ((σ_92.1 12).toNatClampNeg) ((σ_92.2.1 24 ((σ_92.1 12).toNatClampNeg)) + 1)) else none else none else none else none
          else
            if inR (σ.1 12) 9 then if inR (σ.1 12) 9 then some (sA σ 24 ((σ.1 12).toNatClampNeg) ((σ.2.1 24 ((σ.1 12).toNatClampNeg)) + 1)) else none else none) else none else none) else none) else none) else none
abbrev w_Judge_checkArgument : List Cond := Cond.code y_Judge_checkArgument b_Judge_checkArgument 4 none :: Tg
abbrev r_Judge_checkArgument : Room := { frames := 2, cells := 0, slots := 0, locals := 47 }
theorem dv_Judge_checkArgument : y_Judge_checkArgument.cls = "LanguageServer$Judge" ∧ y_Judge_checkArgument.cls ≠ "java/lang/invoke/MethodHandle" ∧ y_Judge_checkArgument.cls ≠ "java/lang/invoke/VarHandle" ∧ (parseMethodDescriptor y_Judge_checkArgument.desc).map (fun d => d.parameters.length) = some 1 := by decide +kernel
set_option maxHeartbeats 4000000 in
set_option maxRecDepth 100000 in
theorem c_Judge_checkArgument (l : Launch) (K : Kst) (A : Nat → Nat) {σ : Sto} {x1 : Int32} {ss : Sto} (h : p_Judge_checkArgument σ x1 = some ss) : Met l y_Judge_checkArgument w_Judge_checkArgument r_Judge_checkArgument (va_Pc [.ref (A 22), .int x1] (RB K A σ)) (RQv K A ss) 0 0 (RF A) := by
  refine Met.ofW (cc := b_Judge_checkArgument) (maxL := 4) (ret := none) (by decide) rfl ?_
  intro p e s m args below meth c s₁ B hml hv
  obtain ⟨rfl, hP, hK, hD⟩ := hv
  have hx := B.exec
  have hb := B.bytes
  have hr := B.returns
  have hts := atoms_spec (ws := w_Judge_checkArgument) B.pre
  have hg : ∀ w ∈ Tg, w.before _ s = true := fun w q => hts w (List.mem_cons_of_mem _ q)
  have hown : s.vm.findClass "LanguageServer$Judge" = some m.cls := findClass_of_methodNamed B.named
  have hlocks := B.notSynchronized
  have hS : va_S (RF A) s.heap s.heap [] := va_S.rf
  have hl := lv_entry ([.ref (A 22), .int x1]) (n := 4) (Nat.le_of_ble_eq_true rfl)
  rw [lg_entry_eq]
  generalize (lg_sl ([.ref (A 22), .int x1]) ++ List.replicate (4 - (lg_sl ([.ref (A 22), .int x1])).length) Slot.unset).toArray = ls at hl ⊢
  have hl : lv_has ls 4 [(0, .ref (A 22)), (1, .int x1)] := hl
  generalize hargs : ([.ref (A 22), .int x1] : List Value).toArray = args at hg hts ⊢
  obtain ⟨Q, hQ⟩ : ∃ Q, Q = MQ below (RQv K A ss) args s 0 0 (RF A) := ⟨_, rfl⟩
  rw [← hQ]
  have hRet : ∀ (σ : Sto), some σ = some ss → ∀ (H : Heap) (locs : List Loc), va_P K.1 vwCl (wR K A σ) H → va_D (RF A) (wR K A σ) → va_S (RF A) s.heap H locs → ∀ (pc : Nat) (ls : Array Slot), decode b_Judge_checkArgument pc = .ok (.return_, 1) → W p l e (headSpec w_Judge_checkArgument r_Judge_checkArgument).room s m args below meth c H locs 0 0 Q (F0 m pc ls []) := by
    intro σ h H locs hP hD hS pc ls hd
    cases h
    subst hQ
    exact W.vret hx hb hr (fun t ht hW => ⟨⟨(), rfl, trivial, by rw [ht]; exact hP, RK.warm hW hK, hD⟩, hS.F ht⟩) hS.2.2 hd
  clear hQ
  unfold p_Judge_checkArgument at h
  refine lv_aload_n hx hb d_Judge_checkArgument_0 rfl (lv_at hl 0 rfl) ?_
  refine gf_Judge_11 hx hb hg hown hK hP d_Judge_checkArgument_1 ?_
  refine lv_aload_n hx hb d_Judge_checkArgument_4 rfl (lv_at hl 0 rfl) ?_
  refine gf_Judge_43 hx hb hg hown hK hP d_Judge_checkArgument_5 ?_
  obtain ⟨i_8, h⟩ := itn h
  refine ra_23 hx hb hK hP i_8 d_Judge_checkArgument_8 ?_
  refine lv_istore_n (lv' := [(2, .int (σ.2.1 23 ((σ.1 12).toNatClampNeg))), (0, .ref (A 22)), (1, .int x1)]) hx hb d_Judge_checkArgument_9 rfl hl (by decide) rfl (fun ls hl => ?_)
  refine lv_iload_n hx hb d_Judge_checkArgument_10 rfl (lv_at hl 0 rfl) ?_
  refine lv_iconst (v := (-1)) hx hb d_Judge_checkArgument_11 (by decide) ?_
  refine lv_icmp_eq (tgt := 27) hx hb d_Judge_checkArgument_12 (by decide) (fun c_12 => ?_) (fun c_12 => ?_)
  · replace h := itp c_12 h
    exact hRet _ h _ _ hP hD hS _ _ d_Judge_checkArgument_27
  · replace h := itf c_12 h
    refine lv_aload_n hx hb d_Judge_checkArgument_15 rfl (lv_at hl 1 rfl) ?_
    refine gf_Judge_35 hx hb hg hown hK hP d_Judge_checkArgument_16 ?_
    refine gf_Judge_119 hx hb hg hown hK hP d_Judge_checkArgument_19 ?_
    refine lv_iload_n hx hb d_Judge_checkArgument_22 rfl (lv_at hl 0 rfl) ?_
    obtain ⟨i_23, h⟩ := itn h
    refine ra_10 hx hb hK hP i_23 d_Judge_checkArgument_23 ?_
    refine lv_if_ne (tgt := 28) hx hb d_Judge_checkArgument_24 (by decide) (fun c_24 => ?_) (fun c_24 => ?_)
    · replace h := itf c_24 h
      refine lv_aload_n hx hb d_Judge_checkArgument_28 rfl (lv_at hl 1 rfl) ?_
      refine gf_Judge_35 hx hb hg hown hK hP d_Judge_checkArgument_29 ?_
      refine gf_Judge_96 hx hb hg hown hK hP d_Judge_checkArgument_32 ?_
      refine lv_iload_n hx hb d_Judge_checkArgument_35 rfl (lv_at hl 0 rfl) ?_
      obtain ⟨i_36, h⟩ := itn h
      refine ra_11 hx hb hK hP i_36 d_Judge_checkArgument_36 ?_
      refine lv_istore_n (lv' := [(3, .int (σ.2.1 11 ((σ.2.1 23 ((σ.1 12).toNatClampNeg)).toNatClampNeg))), (2, .int (σ.2.1 23 ((σ.1 12).toNatClampNeg))), (0, .ref (A 22)), (1, .int x1)]) hx hb d_Judge_checkArgument_37 rfl hl (by decide) rfl (fun ls hl => ?_)
      refine lv_iload_n hx hb d_Judge_checkArgument_38 rfl (lv_at hl 0 rfl) ?_
      refine lv_iconst (v := (-1)) hx hb d_Judge_checkArgument_39 (by decide) ?_
      refine lv_icmp_eq (tgt := 95) hx hb d_Judge_checkArgument_40 (by decide) (fun c_40 => ?_) (fun c_40 => ?_)
      · replace h := itp c_40 h
        refine lv_aload_n hx hb d_Judge_checkArgument_95 rfl (lv_at hl 2 rfl) ?_
        refine gf_Judge_15 hx hb hg hown hK hP d_Judge_checkArgument_96 ?_
        refine lv_aload_n hx hb d_Judge_checkArgument_99 rfl (lv_at hl 2 rfl) ?_
        refine gf_Judge_43 hx hb hg hown hK hP d_Judge_checkArgument_100 ?_
        refine lv_dup2_11 hx hb d_Judge_checkArgument_103 rfl rfl ?_
        obtain ⟨i_104, h⟩ := itn h
        refine ra_24 hx hb hK hP i_104 d_Judge_checkArgument_104 ?_
        refine lv_iconst (v := 1) hx hb d_Judge_checkArgument_105 (by decide) ?_
        refine lv_iadd hx hb d_Judge_checkArgument_106 ?_
        obtain ⟨i_107, h⟩ := itn h
        refine wa_24 hx hb hK hP hD hS i_107 d_Judge_checkArgument_107 (fun H locs hP hD hS => ?_)
        exact hRet _ h _ _ hP hD hS _ _ d_Judge_checkArgument_108
      · replace h := itf c_40 h
        refine lv_aload_n hx hb d_Judge_checkArgument_43 rfl (lv_at hl 2 rfl) ?_
        refine gf_Judge_35 hx hb hg hown hK hP d_Judge_checkArgument_44 ?_
        refine gf_Judge_119 hx hb hg hown hK hP d_Judge_checkArgument_47 ?_
        refine lv_iload_n hx hb d_Judge_checkArgument_50 rfl (lv_at hl 0 rfl) ?_
        obtain ⟨i_51, h⟩ := itn h
        refine ra_10 hx hb hK hP i_51 d_Judge_checkArgument_51 ?_
        refine lv_aload_n hx hb d_Judge_checkArgument_52 rfl (lv_at hl 2 rfl) ?_
        refine gf_Judge_35 hx hb hg hown hK hP d_Judge_checkArgument_53 ?_
        refine gf_Judge_119 hx hb hg hown hK hP d_Judge_checkArgument_56 ?_
        refine lv_iload_n hx hb d_Judge_checkArgument_59 rfl (lv_at hl 1 rfl) ?_
        obtain ⟨i_60, h⟩ := itn h
        refine ra_10 hx hb hK hP i_60 d_Judge_checkArgument_60 ?_
        refine lv_icmp_ne (tgt := 95) hx hb d_Judge_checkArgument_61 (by decide) (fun c_61 => ?_) (fun c_61 => ?_)
        · replace h := itf c_61 h
          refine lv_aload_n hx hb d_Judge_checkArgument_95 rfl (lv_at hl 2 rfl) ?_
          refine gf_Judge_15 hx hb hg hown hK hP d_Judge_checkArgument_96 ?_
          refine lv_aload_n hx hb d_Judge_checkArgument_99 rfl (lv_at hl 2 rfl) ?_
          refine gf_Judge_43 hx hb hg hown hK hP d_Judge_checkArgument_100 ?_
          refine lv_dup2_11 hx hb d_Judge_checkArgument_103 rfl rfl ?_
          obtain ⟨i_104, h⟩ := itn h
          refine ra_24 hx hb hK hP i_104 d_Judge_checkArgument_104 ?_
          refine lv_iconst (v := 1) hx hb d_Judge_checkArgument_105 (by decide) ?_
          refine lv_iadd hx hb d_Judge_checkArgument_106 ?_
          obtain ⟨i_107, h⟩ := itn h
          refine wa_24 hx hb hK hP hD hS i_107 d_Judge_checkArgument_107 (fun H locs hP hD hS => ?_)
          exact hRet _ h _ _ hP hD hS _ _ d_Judge_checkArgument_108
        · replace h := itp c_61 h
          refine lv_aload_n hx hb d_Judge_checkArgument_64 rfl (lv_at hl 2 rfl) ?_
          refine lv_aload_n hx hb d_Judge_checkArgument_65 rfl (lv_at hl 2 rfl) ?_
          refine gf_Judge_18 hx hb hg hown hK hP d_Judge_checkArgument_66 ?_
          refine lv_aload_n hx hb d_Judge_checkArgument_69 rfl (lv_at hl 2 rfl) ?_
          refine gf_Judge_43 hx hb hg hown hK hP d_Judge_checkArgument_70 ?_
          obtain ⟨i_73, h⟩ := itn h
          refine ra_25 hx hb hK hP i_73 d_Judge_checkArgument_73 ?_
          refine lv_iload_n hx hb d_Judge_checkArgument_74 rfl (lv_at hl 3 rfl) ?_
          refine lv_aload_n hx hb d_Judge_checkArgument_75 rfl (lv_at hl 2 rfl) ?_
          refine gf_Judge_35 hx hb hg hown hK hP d_Judge_checkArgument_76 ?_
          refine lv_iload_n hx hb d_Judge_checkArgument_79 rfl (lv_at hl 0 rfl) ?_
          refine lv_aload_n hx hb d_Judge_checkArgument_80 rfl (lv_at hl 2 rfl) ?_
          refine gf_Judge_15 hx hb hg hown hK hP d_Judge_checkArgument_81 ?_
          refine lv_aload_n hx hb d_Judge_checkArgument_84 rfl (lv_at hl 2 rfl) ?_
          refine gf_Judge_43 hx hb hg hown hK hP d_Judge_checkArgument_85 ?_
          obtain ⟨i_88, h⟩ := itn h
          refine ra_24 hx hb hK hP i_88 d_Judge_checkArgument_88 ?_
          obtain ⟨v_89, e_89, h⟩ := bd1_some h
          refine R_calli (va_runV (As := [.int (σ.2.1 11 ((σ.2.1 23 ((σ.1 12).toNatClampNeg)).toNatClampNeg)), .int (σ.2.1 24 ((σ.1 12).toNatClampNeg))]) (rest := [.int x1, .int (σ.2.1 25 ((σ.1 12).toNatClampNeg)), .ref (A 22)]) ⟨hx, hb, hml, hown, hts⟩ (c_Outline_parameterType l K A e_89) (cwV 2 hts (gd_V wd_575 wd_576 wd_577 wd_5 wd_578) rfl rfl rfl dv_Outline_parameterType ⟨Nat.le_of_ble_eq_true rfl, Nat.le_of_ble_eq_true rfl⟩) (R_pv_8 hK hP hD) rfl rfl hl.1 rfl (lv_room (Nat.le_of_ble_eq_true rfl)) d_Judge_checkArgument_89 ⟨Nat.le_of_ble_eq_true rfl, Nat.le_of_ble_eq_true rfl⟩) hS (fun H locs hP hD hS => ?_)
          obtain ⟨σ_92, e_92, h⟩ := bd1_some h
          refine R_callv (va_runV (As := [.int (σ.2.1 25 ((σ.1 12).toNatClampNeg)), .int x1, .int v_89]) (rest := []) ⟨hx, hb, hml, hown, hts⟩ (c_Judge_want l K A e_92) (cwV 3 hts (gd_V wd_555 wd_557 wp_34 wd_9 wd_558) rfl rfl rfl dv_Judge_want ⟨Nat.le_of_ble_eq_true rfl, Nat.le_of_ble_eq_true rfl⟩) (R_pv_22 hK hP hD) rfl rfl hl.1 rfl (lv_room (Nat.le_of_ble_eq_true rfl)) d_Judge_checkArgument_92 ⟨Nat.le_of_ble_eq_true rfl, Nat.le_of_ble_eq_true rfl⟩) hS (fun H locs hP hD hS => ?_)
          refine lv_aload_n hx hb d_Judge_checkArgument_95 rfl (lv_at hl 2 rfl) ?_
          refine gf_Judge_15 hx hb hg hown hK hP d_Judge_checkArgument_96 ?_
          refine lv_aload_n hx hb d_Judge_checkArgument_99 rfl (lv_at hl 2 rfl) ?_
          refine gf_Judge_43 hx hb hg hown hK hP d_Judge_checkArgument_100 ?_
          refine lv_dup2_11 hx hb d_Judge_checkArgument_103 rfl rfl ?_
          obtain ⟨i_104, h⟩ := itn h
          refine ra_24 hx hb hK hP i_104 d_Judge_checkArgument_104 ?_
          refine lv_iconst (v := 1) hx hb d_Judge_checkArgument_105 (by decide) ?_
          refine lv_iadd hx hb d_Judge_checkArgument_106 ?_
          obtain ⟨i_107, h⟩ := itn h
          refine wa_24 hx hb hK hP hD hS i_107 d_Judge_checkArgument_107 (fun H locs hP hD hS => ?_)
          exact hRet _ h _ _ hP hD hS _ _ d_Judge_checkArgument_108
    · replace h := itp c_24 h
      exact hRet _ h _ _ hP hD hS _ _ d_Judge_checkArgument_27
def p_Judge_close_b25 (x1 : Int32) (σ : Sto) (s0 : Int32) : Option Sto :=
  (if s0 = 0 then
      some (sS σ 12 ((σ.1 12) - 1))
    else
      if inR ((sS σ 12 ((σ.1 12) - 1)).1 12) 9 then some (sA (sS σ 12 ((σ.1 12) - 1)) 27 (((sS σ 12 ((σ.1 12) - 1)).1 12).toNatClampNeg) x1) else none)
def p_Judge_close (σ : Sto) (x1 : Int32) : Option Sto :=
  (if (σ.1 12) ≤ 0 then
      some σ
    else
      if inR (σ.1 12) 9 then (if (σ.2.1 23 ((σ.1 12).toNatClampNeg)) = (-1) then
        p_Judge_close_b25 x1 σ 1
      else
        p_Judge_close_b25 x1 σ 0) else none)
abbrev w_Judge_close : List Cond := Cond.code y_Judge_close b_Judge_close 3 none :: Tg
abbrev r_Judge_close : Room := { frames := 0, cells := 0, slots := 0, locals := 0 }
theorem dv_Judge_close : y_Judge_close.cls = "LanguageServer$Judge" ∧ y_Judge_close.cls ≠ "java/lang/invoke/MethodHandle" ∧ y_Judge_close.cls ≠ "java/lang/invoke/VarHandle" ∧ (parseMethodDescriptor y_Judge_close.desc).map (fun d => d.parameters.length) = some 1 := by decide +kernel
set_option maxHeartbeats 4000000 in
set_option maxRecDepth 100000 in
theorem c_Judge_close (l : Launch) (K : Kst) (A : Nat → Nat) {σ : Sto} {x1 : Int32} {ss : Sto} (h : p_Judge_close σ x1 = some ss) : Met l y_Judge_close w_Judge_close r_Judge_close (va_Pc [.ref (A 22), .int x1] (RB K A σ)) (RQv K A ss) 0 0 (RF A) := by
  refine Met.ofW (cc := b_Judge_close) (maxL := 3) (ret := none) (by decide) rfl ?_
  intro p e s m args below meth c s₁ B hml hv
  obtain ⟨rfl, hP, hK, hD⟩ := hv
  have hx := B.exec
  have hb := B.bytes
  have hr := B.returns
  have hts := atoms_spec (ws := w_Judge_close) B.pre
  have hg : ∀ w ∈ Tg, w.before _ s = true := fun w q => hts w (List.mem_cons_of_mem _ q)
  have hown : s.vm.findClass "LanguageServer$Judge" = some m.cls := findClass_of_methodNamed B.named
  have hlocks := B.notSynchronized
  have hS : va_S (RF A) s.heap s.heap [] := va_S.rf
  have hl := lv_entry ([.ref (A 22), .int x1]) (n := 3) (Nat.le_of_ble_eq_true rfl)
  rw [lg_entry_eq]
  generalize (lg_sl ([.ref (A 22), .int x1]) ++ List.replicate (3 - (lg_sl ([.ref (A 22), .int x1])).length) Slot.unset).toArray = ls at hl ⊢
  have hl : lv_has ls 3 [(0, .ref (A 22)), (1, .int x1)] := hl
  generalize hargs : ([.ref (A 22), .int x1] : List Value).toArray = args at hg hts ⊢
  obtain ⟨Q, hQ⟩ : ∃ Q, Q = MQ below (RQv K A ss) args s 0 0 (RF A) := ⟨_, rfl⟩
  rw [← hQ]
  have hRet : ∀ (σ : Sto), some σ = some ss → ∀ (H : Heap) (locs : List Loc), va_P K.1 vwCl (wR K A σ) H → va_D (RF A) (wR K A σ) → va_S (RF A) s.heap H locs → ∀ (pc : Nat) (ls : Array Slot), decode b_Judge_close pc = .ok (.return_, 1) → W p l e (headSpec w_Judge_close r_Judge_close).room s m args below meth c H locs 0 0 Q (F0 m pc ls []) := by
    intro σ h H locs hP hD hS pc ls hd
    cases h
    subst hQ
    exact W.vret hx hb hr (fun t ht hW => ⟨⟨(), rfl, trivial, by rw [ht]; exact hP, RK.warm hW hK, hD⟩, hS.F ht⟩) hS.2.2 hd
  clear hQ
  unfold p_Judge_close at h
  have J_25 : ∀ (σ : Sto) (s0 : Int32), p_Judge_close_b25 x1 σ s0 = some ss → ∀ (H : Heap) (locs : List Loc), va_P K.1 vwCl (wR K A σ) H → va_D (RF A) (wR K A σ) → va_S (RF A) s.heap H locs → ∀ ls : Array Slot, lv_has ls 3 [(0, .ref (A 22)), (1, .int x1)] → W p l e (headSpec w_Judge_close r_Judge_close).room s m args below meth c H locs 0 0 Q (F0 m 25 ls [.int s0]) := by
    intro  σ s0 h H locs hP hD hS ls hl
    rw [p_Judge_close_b25] at h
    refine lv_istore_n (lv' := [(2, .int s0), (0, .ref (A 22)), (1, .int x1)]) hx hb d_Judge_close_25 rfl hl (by decide) rfl (fun ls hl => ?_)
    refine lv_aload_n hx hb d_Judge_close_26 rfl (lv_at hl 1 rfl) ?_
    refine lv_dup hx hb d_Judge_close_27 rfl ?_
    refine gf_Judge_43 hx hb hg hown hK hP d_Judge_close_28 ?_
    refine lv_iconst (v := 1) hx hb d_Judge_close_31 (by decide) ?_
    refine lv_isub hx hb d_Judge_close_32 ?_
    refine pf_Judge_43 hx hb hg hown hK hP hD hS d_Judge_close_33 (fun H locs hP hD hS => ?_)
    refine lv_iload_n hx hb d_Judge_close_36 rfl (lv_at hl 0 rfl) ?_
    refine lv_if_eq (tgt := 50) hx hb d_Judge_close_37 (by decide) (fun c_37 => ?_) (fun c_37 => ?_)
    · replace h := itp c_37 h
      exact hRet _ h _ _ hP hD hS _ _ d_Judge_close_50
    · replace h := itf c_37 h
      refine lv_aload_n hx hb d_Judge_close_40 rfl (lv_at hl 1 rfl) ?_
      refine gf_Judge_24 hx hb hg hown hK hP d_Judge_close_41 ?_
      refine lv_aload_n hx hb d_Judge_close_44 rfl (lv_at hl 1 rfl) ?_
      refine gf_Judge_43 hx hb hg hown hK hP d_Judge_close_45 ?_
      refine lv_iload_n hx hb d_Judge_close_48 rfl (lv_at hl 2 rfl) ?_
      obtain ⟨i_49, h⟩ := itn h
      refine wa_27 hx hb hK hP hD hS i_49 d_Judge_close_49 (fun H locs hP hD hS => ?_)
      exact hRet _ h _ _ hP hD hS _ _ d_Judge_close_50
  refine lv_aload_n hx hb d_Judge_close_0 rfl (lv_at hl 0 rfl) ?_
  refine gf_Judge_43 hx hb hg hown hK hP d_Judge_close_1 ?_
  refine lv_if_le (tgt := 50) hx hb d_Judge_close_4 (by decide) (fun c_4 => ?_) (fun c_4 => ?_)
  · replace h := itp c_4 h
    exact hRet _ h _ _ hP hD hS _ _ d_Judge_close_50
  · replace h := itf c_4 h
    refine lv_aload_n hx hb d_Judge_close_7 rfl (lv_at hl 0 rfl) ?_
    refine gf_Judge_11 hx hb hg hown hK hP d_Judge_close_8 ?_
    refine lv_aload_n hx hb d_Judge_close_11 rfl (lv_at hl 0 rfl) ?_
    refine gf_Judge_43 hx hb hg hown hK hP d_Judge_close_12 ?_
    obtain ⟨i_15, h⟩ := itn h
    refine ra_23 hx hb hK hP i_15 d_Judge_close_15 ?_
    refine lv_iconst (v := (-1)) hx hb d_Judge_close_16 (by decide) ?_
    refine lv_icmp_ne (tgt := 24) hx hb d_Judge_close_17 (by decide) (fun c_17 => ?_) (fun c_17 => ?_)
    · replace h := itf c_17 h
      refine lv_iconst (v := 0) hx hb d_Judge_close_24 (by decide) ?_
      exact J_25  _ _ h _ _ hP hD hS ls (lv_sub hl [0, 1] rfl)
    · replace h := itp c_17 h
      refine lv_iconst (v := 1) hx hb d_Judge_close_20 (by decide) ?_
      refine lv_goto (tgt := 25) hx hb d_Judge_close_21 (by decide) ?_
      exact J_25  _ _ h _ _ hP hD hS ls (lv_sub hl [0, 1] rfl)
def p_Judge_takeSign (σ : Sto) (x1 : Int32) (x2 : Int32) : Option Sto :=
  (if x2 = 20 then
      if inR (σ.1 12) 9 then if inR (σ.1 12) 9 then bd1 (p_Judge_want σ (σ.2.1 26 ((σ.1 12).toNatClampNeg)) (σ.2.1 27 ((σ.1 12).toNatClampNeg)) (-1)) fun σ_52 =>
      if inR (σ_52.1 12) 9 then if inR ((sA σ_52 28 ((σ_52.1 12).toNatClampNeg) (vp_nar .boolean 1)).1 12) 9 then some (sA (sA σ_52 28 ((σ_52.1 12).toNatClampNeg) (vp_nar .boolean 1)) 26 (((sA σ_52 28 ((σ_52.1 12).toNatClampNeg) (vp_nar .boolean 1)).1 12).toNatClampNeg) (x1 + 1)) else none else none else none else none
    else (if x2 = 21 then
      bd1 (p_Judge_open σ (-1) (x1 + 1)) fun σ_85 =>
      some σ_85
    else (if x2 = 22 then
      bd1 (p_Judge_open σ (x1 - 1) (x1 + 1)) fun σ_98 =>
      some σ_98
    else (if x2 = 23 then
      bd2 (p_Judge_endExpression σ) fun v_106 σ_106 =>
      bd1 (p_Judge_checkArgument σ_106 v_106) fun σ_109 =>
      bd1 (p_Judge_begin σ_109 (x1 + 1)) fun σ_116 =>
      some σ_116
    else bd2 (p_Judge_endExpression σ) fun v_123 σ_123 =>
      bd1 (p_Judge_checkArgument σ_123 v_123) fun σ_129 =>
      bd1 (p_Judge_close σ_129 v_123) fun σ_134 =>
      some σ_134))))
abbrev w_Judge_takeSign : List Cond := Cond.code y_Judge_takeSign b_Judge_takeSign 4 none :: Tg
abbrev r_Judge_takeSign : Room := { frames := 3, cells := 0, slots := 0, locals := 70 }
theorem dv_Judge_takeSign : y_Judge_takeSign.cls = "LanguageServer$Judge" ∧ y_Judge_takeSign.cls ≠ "java/lang/invoke/MethodHandle" ∧ y_Judge_takeSign.cls ≠ "java/lang/invoke/VarHandle" ∧ (parseMethodDescriptor y_Judge_takeSign.desc).map (fun d => d.parameters.length) = some 2 := by decide +kernel
set_option maxHeartbeats 4000000 in
set_option maxRecDepth 100000 in
theorem c_Judge_takeSign (l : Launch) (K : Kst) (A : Nat → Nat) {σ : Sto} {x1 : Int32} {x2 : Int32} {ss : Sto} (h : p_Judge_takeSign σ x1 x2 = some ss) : Met l y_Judge_takeSign w_Judge_takeSign r_Judge_takeSign (va_Pc [.ref (A 22), .int x1, .int x2] (RB K A σ)) (RQv K A ss) 0 0 (RF A) := by
  refine Met.ofW (cc := b_Judge_takeSign) (maxL := 4) (ret := none) (by decide) rfl ?_
  intro p e s m args below meth c s₁ B hml hv
  obtain ⟨rfl, hP, hK, hD⟩ := hv
  have hx := B.exec
  have hb := B.bytes
  have hr := B.returns
  have hts := atoms_spec (ws := w_Judge_takeSign) B.pre
  have hg : ∀ w ∈ Tg, w.before _ s = true := fun w q => hts w (List.mem_cons_of_mem _ q)
  have hown : s.vm.findClass "LanguageServer$Judge" = some m.cls := findClass_of_methodNamed B.named
  have hlocks := B.notSynchronized
  have hS : va_S (RF A) s.heap s.heap [] := va_S.rf
  have hl := lv_entry ([.ref (A 22), .int x1, .int x2]) (n := 4) (Nat.le_of_ble_eq_true rfl)
  rw [lg_entry_eq]
  generalize (lg_sl ([.ref (A 22), .int x1, .int x2]) ++ List.replicate (4 - (lg_sl ([.ref (A 22), .int x1, .int x2])).length) Slot.unset).toArray = ls at hl ⊢
  have hl : lv_has ls 4 [(0, .ref (A 22)), (1, .int x1), (2, .int x2)] := hl
  generalize hargs : ([.ref (A 22), .int x1, .int x2] : List Value).toArray = args at hg hts ⊢
  obtain ⟨Q, hQ⟩ : ∃ Q, Q = MQ below (RQv K A ss) args s 0 0 (RF A) := ⟨_, rfl⟩
  rw [← hQ]
  have hRet : ∀ (σ : Sto), some σ = some ss → ∀ (H : Heap) (locs : List Loc), va_P K.1 vwCl (wR K A σ) H → va_D (RF A) (wR K A σ) → va_S (RF A) s.heap H locs → ∀ (pc : Nat) (ls : Array Slot), decode b_Judge_takeSign pc = .ok (.return_, 1) → W p l e (headSpec w_Judge_takeSign r_Judge_takeSign).room s m args below meth c H locs 0 0 Q (F0 m pc ls []) := by
    intro σ h H locs hP hD hS pc ls hd
    cases h
    subst hQ
    exact W.vret hx hb hr (fun t ht hW => ⟨⟨(), rfl, trivial, by rw [ht]; exact hP, RK.warm hW hK, hD⟩, hS.F ht⟩) hS.2.2 hd
  clear hQ
  unfold p_Judge_takeSign at h
  refine lv_iload_n hx hb d_Judge_takeSign_0 rfl (lv_at hl 2 rfl) ?_
  by_cases c_1_0 : x2 = 20
  · replace h := itp c_1_0 h
    refine lv_tableIn (off := 31) (tgt := 32) hx hb d_Judge_takeSign_1 (by rw [c_1_0]; decide) (by rw [c_1_0]; decide) (by rw [c_1_0]; first | done | rfl | decide) (by decide) ?_
    refine lv_aload_n hx hb d_Judge_takeSign_32 rfl (lv_at hl 0 rfl) ?_
    refine lv_aload_n hx hb d_Judge_takeSign_33 rfl (lv_at hl 0 rfl) ?_
    refine gf_Judge_21 hx hb hg hown hK hP d_Judge_takeSign_34 ?_
    refine lv_aload_n hx hb d_Judge_takeSign_37 rfl (lv_at hl 0 rfl) ?_
    refine gf_Judge_43 hx hb hg hown hK hP d_Judge_takeSign_38 ?_
    obtain ⟨i_41, h⟩ := itn h
    refine ra_26 hx hb hK hP i_41 d_Judge_takeSign_41 ?_
    refine lv_aload_n hx hb d_Judge_takeSign_42 rfl (lv_at hl 0 rfl) ?_
    refine gf_Judge_24 hx hb hg hown hK hP d_Judge_takeSign_43 ?_
    refine lv_aload_n hx hb d_Judge_takeSign_46 rfl (lv_at hl 0 rfl) ?_
    refine gf_Judge_43 hx hb hg hown hK hP d_Judge_takeSign_47 ?_
    obtain ⟨i_50, h⟩ := itn h
    refine ra_27 hx hb hK hP i_50 d_Judge_takeSign_50 ?_
    refine lv_iconst (v := (-1)) hx hb d_Judge_takeSign_51 (by decide) ?_
    obtain ⟨σ_52, e_52, h⟩ := bd1_some h
    refine R_callv (va_runV (As := [.int (σ.2.1 26 ((σ.1 12).toNatClampNeg)), .int (σ.2.1 27 ((σ.1 12).toNatClampNeg)), .int (-1)]) (rest := []) ⟨hx, hb, hml, hown, hts⟩ (c_Judge_want l K A e_52) (cwV 3 hts (gd_V wd_555 wd_557 wp_34 wd_9 wd_558) rfl rfl rfl dv_Judge_want ⟨Nat.le_of_ble_eq_true rfl, Nat.le_of_ble_eq_true rfl⟩) (R_pv_22 hK hP hD) rfl rfl hl.1 rfl (lv_room (Nat.le_of_ble_eq_true rfl)) d_Judge_takeSign_52 ⟨Nat.le_of_ble_eq_true rfl, Nat.le_of_ble_eq_true rfl⟩) hS (fun H locs hP hD hS => ?_)
    refine lv_aload_n hx hb d_Judge_takeSign_55 rfl (lv_at hl 0 rfl) ?_
    refine gf_Judge_27 hx hb hg hown hK hP d_Judge_takeSign_56 ?_
    refine lv_aload_n hx hb d_Judge_takeSign_59 rfl (lv_at hl 0 rfl) ?_
    refine gf_Judge_43 hx hb hg hown hK hP d_Judge_takeSign_60 ?_
    refine lv_iconst (v := 1) hx hb d_Judge_takeSign_63 (by decide) ?_
    obtain ⟨i_64, h⟩ := itn h
    refine wa_28 hx hb hK hP hD hS i_64 d_Judge_takeSign_64 (fun H locs hP hD hS => ?_)
    refine lv_aload_n hx hb d_Judge_takeSign_65 rfl (lv_at hl 0 rfl) ?_
    refine gf_Judge_21 hx hb hg hown hK hP d_Judge_takeSign_66 ?_
    refine lv_aload_n hx hb d_Judge_takeSign_69 rfl (lv_at hl 0 rfl) ?_
    refine gf_Judge_43 hx hb hg hown hK hP d_Judge_takeSign_70 ?_
    refine lv_iload_n hx hb d_Judge_takeSign_73 rfl (lv_at hl 1 rfl) ?_
    refine lv_iconst (v := 1) hx hb d_Judge_takeSign_74 (by decide) ?_
    refine lv_iadd hx hb d_Judge_takeSign_75 ?_
    obtain ⟨i_76, h⟩ := itn h
    refine wa_26 hx hb hK hP hD hS i_76 d_Judge_takeSign_76 (fun H locs hP hD hS => ?_)
    refine lv_goto (tgt := 137) hx hb d_Judge_takeSign_77 (by decide) ?_
    exact hRet _ h _ _ hP hD hS _ _ d_Judge_takeSign_137
  replace h := itf c_1_0 h
  by_cases c_1_1 : x2 = 21
  · replace h := itp c_1_1 h
    refine lv_tableIn (off := 79) (tgt := 80) hx hb d_Judge_takeSign_1 (by rw [c_1_1]; decide) (by rw [c_1_1]; decide) (by rw [c_1_1]; first | done | rfl | decide) (by decide) ?_
    refine lv_aload_n hx hb d_Judge_takeSign_80 rfl (lv_at hl 0 rfl) ?_
    refine lv_iconst (v := (-1)) hx hb d_Judge_takeSign_81 (by decide) ?_
    refine lv_iload_n hx hb d_Judge_takeSign_82 rfl (lv_at hl 1 rfl) ?_
    refine lv_iconst (v := 1) hx hb d_Judge_takeSign_83 (by decide) ?_
    refine lv_iadd hx hb d_Judge_takeSign_84 ?_
    obtain ⟨σ_85, e_85, h⟩ := bd1_some h
    refine R_callv (va_runV (As := [.int (-1), .int (x1 + 1)]) (rest := []) ⟨hx, hb, hml, hown, hts⟩ (c_Judge_opn l K A e_85) (cwV 2 hts (gd_V wd_567 wd_569 wp_36 wd_9 wd_570) rfl rfl rfl dv_Judge_opn ⟨Nat.le_of_ble_eq_true rfl, Nat.le_of_ble_eq_true rfl⟩) (R_pv_22 hK hP hD) rfl rfl hl.1 rfl (lv_room (Nat.le_of_ble_eq_true rfl)) d_Judge_takeSign_85 ⟨Nat.le_of_ble_eq_true rfl, Nat.le_of_ble_eq_true rfl⟩) hS (fun H locs hP hD hS => ?_)
    refine lv_goto (tgt := 137) hx hb d_Judge_takeSign_88 (by decide) ?_
    exact hRet _ h _ _ hP hD hS _ _ d_Judge_takeSign_137
  replace h := itf c_1_1 h
  by_cases c_1_2 : x2 = 22
  · replace h := itp c_1_2 h
    refine lv_tableIn (off := 90) (tgt := 91) hx hb d_Judge_takeSign_1 (by rw [c_1_2]; decide) (by rw [c_1_2]; decide) (by rw [c_1_2]; first | done | rfl | decide) (by decide) ?_
    refine lv_aload_n hx hb d_Judge_takeSign_91 rfl (lv_at hl 0 rfl) ?_
    refine lv_iload_n hx hb d_Judge_takeSign_92 rfl (lv_at hl 1 rfl) ?_
    refine lv_iconst (v := 1) hx hb d_Judge_takeSign_93 (by decide) ?_
    refine lv_isub hx hb d_Judge_takeSign_94 ?_
    refine lv_iload_n hx hb d_Judge_takeSign_95 rfl (lv_at hl 1 rfl) ?_
    refine lv_iconst (v := 1) hx hb d_Judge_takeSign_96 (by decide) ?_
    refine lv_iadd hx hb d_Judge_takeSign_97 ?_
    obtain ⟨σ_98, e_98, h⟩ := bd1_some h
    refine R_callv (va_runV (As := [.int (x1 - 1), .int (x1 + 1)]) (rest := []) ⟨hx, hb, hml, hown, hts⟩ (c_Judge_opn l K A e_98) (cwV 2 hts (gd_V wd_567 wd_569 wp_36 wd_9 wd_570) rfl rfl rfl dv_Judge_opn ⟨Nat.le_of_ble_eq_true rfl, Nat.le_of_ble_eq_true rfl⟩) (R_pv_22 hK hP hD) rfl rfl hl.1 rfl (lv_room (Nat.le_of_ble_eq_true rfl)) d_Judge_takeSign_98 ⟨Nat.le_of_ble_eq_true rfl, Nat.le_of_ble_eq_true rfl⟩) hS (fun H locs hP hD hS => ?_)
    refine lv_goto (tgt := 137) hx hb d_Judge_takeSign_101 (by decide) ?_
    exact hRet _ h _ _ hP hD hS _ _ d_Judge_takeSign_137
  replace h := itf c_1_2 h
  by_cases c_1_3 : x2 = 23
  · replace h := itp c_1_3 h
    refine lv_tableIn (off := 103) (tgt := 104) hx hb d_Judge_takeSign_1 (by rw [c_1_3]; decide) (by rw [c_1_3]; decide) (by rw [c_1_3]; first | done | rfl | decide) (by decide) ?_
    refine lv_aload_n hx hb d_Judge_takeSign_104 rfl (lv_at hl 0 rfl) ?_
    refine lv_aload_n hx hb d_Judge_takeSign_105 rfl (lv_at hl 0 rfl) ?_
    obtain ⟨v_106, σ_106, e_106, h⟩ := bd2_some h
    refine R_calli (va_runV (As := []) (rest := [.ref (A 22)]) ⟨hx, hb, hml, hown, hts⟩ (c_Judge_endExpression l K A e_106) (cwV 0 hts (gd_V wd_551 wd_553 wp_33 wd_9 wd_554) rfl rfl rfl dv_Judge_endExpression ⟨Nat.le_of_ble_eq_true rfl, Nat.le_of_ble_eq_true rfl⟩) (R_pv_22 hK hP hD) rfl rfl hl.1 rfl (lv_room (Nat.le_of_ble_eq_true rfl)) d_Judge_takeSign_106 ⟨Nat.le_of_ble_eq_true rfl, Nat.le_of_ble_eq_true rfl⟩) hS (fun H locs hP hD hS => ?_)
    obtain ⟨σ_109, e_109, h⟩ := bd1_some h
    refine R_callv (va_runV (As := [.int v_106]) (rest := []) ⟨hx, hb, hml, hown, hts⟩ (c_Judge_checkArgument l K A e_109) (cwV 1 hts (gd_V wd_571 wd_573 wp_37 wd_9 wd_574) rfl rfl rfl dv_Judge_checkArgument ⟨Nat.le_of_ble_eq_true rfl, Nat.le_of_ble_eq_true rfl⟩) (R_pv_22 hK hP hD) rfl rfl hl.1 rfl (lv_room (Nat.le_of_ble_eq_true rfl)) d_Judge_takeSign_109 ⟨Nat.le_of_ble_eq_true rfl, Nat.le_of_ble_eq_true rfl⟩) hS (fun H locs hP hD hS => ?_)
    refine lv_aload_n hx hb d_Judge_takeSign_112 rfl (lv_at hl 0 rfl) ?_
    refine lv_iload_n hx hb d_Judge_takeSign_113 rfl (lv_at hl 1 rfl) ?_
    refine lv_iconst (v := 1) hx hb d_Judge_takeSign_114 (by decide) ?_
    refine lv_iadd hx hb d_Judge_takeSign_115 ?_
    obtain ⟨σ_116, e_116, h⟩ := bd1_some h
    refine R_callv (va_runV (As := [.int (x1 + 1)]) (rest := []) ⟨hx, hb, hml, hown, hts⟩ (c_Judge_begin l K A e_116) (cwV 1 hts (gd_V wd_543 wd_545 wp_31 wd_9 wd_546) rfl rfl rfl dv_Judge_begin ⟨Nat.le_of_ble_eq_true rfl, Nat.le_of_ble_eq_true rfl⟩) (R_pv_22 hK hP hD) rfl rfl hl.1 rfl (lv_room (Nat.le_of_ble_eq_true rfl)) d_Judge_takeSign_116 ⟨Nat.le_of_ble_eq_true rfl, Nat.le_of_ble_eq_true rfl⟩) hS (fun H locs hP hD hS => ?_)
    refine lv_goto (tgt := 137) hx hb d_Judge_takeSign_119 (by decide) ?_
    exact hRet _ h _ _ hP hD hS _ _ d_Judge_takeSign_137
  replace h := itf c_1_3 h
  have n_0 := lv_neT c_1_0 (a := 20) rfl
  have n_1 := lv_neT c_1_1 (a := 21) rfl
  have n_2 := lv_neT c_1_2 (a := 22) rfl
  have n_3 := lv_neT c_1_3 (a := 23) rfl
  refine lv_tableOut (tgt := 122) hx hb d_Judge_takeSign_1 (by omega) (by decide) ?_
  refine lv_aload_n hx hb d_Judge_takeSign_122 rfl (lv_at hl 0 rfl) ?_
  obtain ⟨v_123, σ_123, e_123, h⟩ := bd2_some h
  refine R_calli (va_runV (As := []) (rest := []) ⟨hx, hb, hml, hown, hts⟩ (c_Judge_endExpression l K A e_123) (cwV 0 hts (gd_V wd_551 wd_553 wp_33 wd_9 wd_554) rfl rfl rfl dv_Judge_endExpression ⟨Nat.le_of_ble_eq_true rfl, Nat.le_of_ble_eq_true rfl⟩) (R_pv_22 hK hP hD) rfl rfl hl.1 rfl (lv_room (Nat.le_of_ble_eq_true rfl)) d_Judge_takeSign_123 ⟨Nat.le_of_ble_eq_true rfl, Nat.le_of_ble_eq_true rfl⟩) hS (fun H locs hP hD hS => ?_)
  refine lv_istore_n (lv' := [(3, .int v_123), (0, .ref (A 22)), (1, .int x1), (2, .int x2)]) hx hb d_Judge_takeSign_126 rfl hl (by decide) rfl (fun ls hl => ?_)
  refine lv_aload_n hx hb d_Judge_takeSign_127 rfl (lv_at hl 1 rfl) ?_
  refine lv_iload_n hx hb d_Judge_takeSign_128 rfl (lv_at hl 0 rfl) ?_
  obtain ⟨σ_129, e_129, h⟩ := bd1_some h
  refine R_callv (va_runV (As := [.int v_123]) (rest := []) ⟨hx, hb, hml, hown, hts⟩ (c_Judge_checkArgument l K A e_129) (cwV 1 hts (gd_V wd_571 wd_573 wp_37 wd_9 wd_574) rfl rfl rfl dv_Judge_checkArgument ⟨Nat.le_of_ble_eq_true rfl, Nat.le_of_ble_eq_true rfl⟩) (R_pv_22 hK hP hD) rfl rfl hl.1 rfl (lv_room (Nat.le_of_ble_eq_true rfl)) d_Judge_takeSign_129 ⟨Nat.le_of_ble_eq_true rfl, Nat.le_of_ble_eq_true rfl⟩) hS (fun H locs hP hD hS => ?_)
  refine lv_aload_n hx hb d_Judge_takeSign_132 rfl (lv_at hl 1 rfl) ?_
  refine lv_iload_n hx hb d_Judge_takeSign_133 rfl (lv_at hl 0 rfl) ?_
  obtain ⟨σ_134, e_134, h⟩ := bd1_some h
  refine R_callv (va_runV (As := [.int v_123]) (rest := []) ⟨hx, hb, hml, hown, hts⟩ (c_Judge_close l K A e_134) (cwV 1 hts (gd_V wd_579 wd_581 wp_38 wd_9 wd_582) rfl rfl rfl dv_Judge_close ⟨Nat.le_of_ble_eq_true rfl, Nat.le_of_ble_eq_true rfl⟩) (R_pv_22 hK hP hD) rfl rfl hl.1 rfl (lv_room (Nat.le_of_ble_eq_true rfl)) d_Judge_takeSign_134 ⟨Nat.le_of_ble_eq_true rfl, Nat.le_of_ble_eq_true rfl⟩) hS (fun H locs hP hD hS => ?_)
  exact hRet _ h _ _ hP hD hS _ _ d_Judge_takeSign_137
def p_Judge_judge_L17 : Nat → Sto → Int32 → Option Sto
  | 0, _, _ => none
  | n + 1, σ, x1 =>
    (if (σ.1 3) ≤ x1 then
        some σ
      else
        if inR x1 121 then (if (9 : Int32) ≤ (σ.2.1 9 x1.toNatClampNeg) then
          (if (15 : Int32) ≤ (σ.2.1 9 x1.toNatClampNeg) then
            (if (20 : Int32) ≤ (σ.2.1 9 x1.toNatClampNeg) then
              bd1 (p_Judge_takeSign σ x1 (σ.2.1 9 x1.toNatClampNeg)) fun σ_86 =>
              p_Judge_judge_L17 n σ_86 (x1 + 1)
            else
              bd1 (p_Judge_takeStatementSign σ x1 (σ.2.1 9 x1.toNatClampNeg)) fun σ_77 =>
              p_Judge_judge_L17 n σ_77 (x1 + 1))
          else
            bd1 (p_Judge_takeOperand σ x1 (σ.2.1 9 x1.toNatClampNeg)) fun σ_62 =>
            p_Judge_judge_L17 n σ_62 (x1 + 1))
        else
          bd1 (p_Judge_enter σ x1 (σ.2.1 9 x1.toNatClampNeg)) fun σ_47 =>
          p_Judge_judge_L17 n σ_47 (x1 + 1)) else none)
def p_Judge_judge (σ : Sto) : Option Sto :=
  if inR ((sS σ 12 0).1 12) 9 then p_Judge_judge_L17 FU (sA (sS σ 12 0) 23 (((sS σ 12 0).1 12).toNatClampNeg) (-1)) 0 else none
abbrev w_Judge_judge : List Cond := Cond.code y_Judge_judge b_Judge_judge 3 none :: Tg
abbrev r_Judge_judge : Room := { frames := 5, cells := 0, slots := 0, locals := 120 }
theorem dv_Judge_judge : y_Judge_judge.cls = "LanguageServer$Judge" ∧ y_Judge_judge.cls ≠ "java/lang/invoke/MethodHandle" ∧ y_Judge_judge.cls ≠ "java/lang/invoke/VarHandle" ∧ (parseMethodDescriptor y_Judge_judge.desc).map (fun d => d.parameters.length) = some 0 := by decide +kernel
set_option maxHeartbeats 4000000 in
set_option maxRecDepth 100000 in
theorem c_Judge_judge (l : Launch) (K : Kst) (A : Nat → Nat) {σ : Sto} {ss : Sto} (h : p_Judge_judge σ = some ss) : Met l y_Judge_judge w_Judge_judge r_Judge_judge (va_Pc [.ref (A 22)] (RB K A σ)) (RQv K A ss) 0 0 (RF A) := by
  refine Met.ofW (cc := b_Judge_judge) (maxL := 3) (ret := none) (by decide) rfl ?_
  intro p e s m args below meth c s₁ B hml hv
  obtain ⟨rfl, hP, hK, hD⟩ := hv
  have hx := B.exec
  have hb := B.bytes
  have hr := B.returns
  have hts := atoms_spec (ws := w_Judge_judge) B.pre
  have hg : ∀ w ∈ Tg, w.before _ s = true := fun w q => hts w (List.mem_cons_of_mem _ q)
  have hown : s.vm.findClass "LanguageServer$Judge" = some m.cls := findClass_of_methodNamed B.named
  have hlocks := B.notSynchronized
  have hS : va_S (RF A) s.heap s.heap [] := va_S.rf
  have hl := lv_entry ([.ref (A 22)]) (n := 3) (Nat.le_of_ble_eq_true rfl)
  rw [lg_entry_eq]
  generalize (lg_sl ([.ref (A 22)]) ++ List.replicate (3 - (lg_sl ([.ref (A 22)])).length) Slot.unset).toArray = ls at hl ⊢
  have hl : lv_has ls 3 [(0, .ref (A 22))] := hl
  generalize hargs : ([.ref (A 22)] : List Value).toArray = args at hg hts ⊢
  obtain ⟨Q, hQ⟩ : ∃ Q, Q = MQ below (RQv K A ss) args s 0 0 (RF A) := ⟨_, rfl⟩
  rw [← hQ]
  have hRet : ∀ (σ : Sto), some σ = some ss → ∀ (H : Heap) (locs : List Loc), va_P K.1 vwCl (wR K A σ) H → va_D (RF A) (wR K A σ) → va_S (RF A) s.heap H locs → ∀ (pc : Nat) (ls : Array Slot), decode b_Judge_judge pc = .ok (.return_, 1) → W p l e (headSpec w_Judge_judge r_Judge_judge).room s m args below meth c H locs 0 0 Q (F0 m pc ls []) := by
    intro σ h H locs hP hD hS pc ls hd
    cases h
    subst hQ
    exact W.vret hx hb hr (fun t ht hW => ⟨⟨(), rfl, trivial, by rw [ht]; exact hP, RK.warm hW hK, hD⟩, hS.F ht⟩) hS.2.2 hd
  clear hQ
  unfold p_Judge_judge at h
  have L_17 : ∀ (n : Nat) (σ : Sto) (x1 : Int32), p_Judge_judge_L17 n σ x1 = some ss → ∀ (H : Heap) (locs : List Loc), va_P K.1 vwCl (wR K A σ) H → va_D (RF A) (wR K A σ) → va_S (RF A) s.heap H locs → ∀ ls : Array Slot, lv_has ls 3 [(0, .ref (A 22)), (1, .int x1)] → W p l e (headSpec w_Judge_judge r_Judge_judge).room s m args below meth c H locs 0 0 Q (F0 m 17 ls []) := by
    intro n
    induction n with
    | zero => intro _ _ h; cases h
    | succ n ih =>
      intro σ x1 h H locs hP hD hS ls hl
      rw [p_Judge_judge_L17] at h
      refine lv_iload_n hx hb d_Judge_judge_17 rfl (lv_at hl 1 rfl) ?_
      refine lv_aload_n hx hb d_Judge_judge_18 rfl (lv_at hl 0 rfl) ?_
      refine gf_Judge_35 hx hb hg hown hK hP d_Judge_judge_19 ?_
      refine gf_Judge_47 hx hb hg hown hK hP d_Judge_judge_22 ?_
      refine lv_icmp_ge (tgt := 95) hx hb d_Judge_judge_25 (by decide) (fun c_25 => ?_) (fun c_25 => ?_)
      · replace h := itp c_25 h
        exact hRet _ h _ _ hP hD hS _ _ d_Judge_judge_95
      · replace h := itf c_25 h
        refine lv_aload_n hx hb d_Judge_judge_28 rfl (lv_at hl 0 rfl) ?_
        refine gf_Judge_35 hx hb hg hown hK hP d_Judge_judge_29 ?_
        refine gf_Judge_52 hx hb hg hown hK hP d_Judge_judge_32 ?_
        refine lv_iload_n hx hb d_Judge_judge_35 rfl (lv_at hl 1 rfl) ?_
        obtain ⟨i_36, h⟩ := itn h
        refine ra_9 hx hb hK hP i_36 d_Judge_judge_36 ?_
        refine lv_istore_n (lv' := [(2, .int (σ.2.1 9 x1.toNatClampNeg)), (0, .ref (A 22)), (1, .int x1)]) hx hb d_Judge_judge_37 rfl hl (by decide) rfl (fun ls hl => ?_)
        refine lv_iload_n hx hb d_Judge_judge_38 rfl (lv_at hl 0 rfl) ?_
        refine lv_bipush (v := 9) hx hb d_Judge_judge_39 (by decide) ?_
        refine lv_icmp_ge (tgt := 53) hx hb d_Judge_judge_41 (by decide) (fun c_41 => ?_) (fun c_41 => ?_)
        · replace h := itp c_41 h
          refine lv_iload_n hx hb d_Judge_judge_53 rfl (lv_at hl 0 rfl) ?_
          refine lv_bipush (v := 15) hx hb d_Judge_judge_54 (by decide) ?_
          refine lv_icmp_ge (tgt := 68) hx hb d_Judge_judge_56 (by decide) (fun c_56 => ?_) (fun c_56 => ?_)
          · replace h := itp c_56 h
            refine lv_iload_n hx hb d_Judge_judge_68 rfl (lv_at hl 0 rfl) ?_
            refine lv_bipush (v := 20) hx hb d_Judge_judge_69 (by decide) ?_
            refine lv_icmp_ge (tgt := 83) hx hb d_Judge_judge_71 (by decide) (fun c_71 => ?_) (fun c_71 => ?_)
            · replace h := itp c_71 h
              refine lv_aload_n hx hb d_Judge_judge_83 rfl (lv_at hl 1 rfl) ?_
              refine lv_iload_n hx hb d_Judge_judge_84 rfl (lv_at hl 2 rfl) ?_
              refine lv_iload_n hx hb d_Judge_judge_85 rfl (lv_at hl 0 rfl) ?_
              obtain ⟨σ_86, e_86, h⟩ := bd1_some h
              refine R_callv (va_runV (As := [.int x1, .int (σ.2.1 9 x1.toNatClampNeg)]) (rest := []) ⟨hx, hb, hml, hown, hts⟩ (c_Judge_takeSign l K A e_86) (cwV 2 hts (gd_V wd_563 wd_565 wp_35 wd_9 wd_566) rfl rfl rfl dv_Judge_takeSign ⟨Nat.le_of_ble_eq_true rfl, Nat.le_of_ble_eq_true rfl⟩) (R_pv_22 hK hP hD) rfl rfl hl.1 rfl (lv_room (Nat.le_of_ble_eq_true rfl)) d_Judge_judge_86 ⟨Nat.le_of_ble_eq_true rfl, Nat.le_of_ble_eq_true rfl⟩) hS (fun H locs hP hD hS => ?_)
              refine lv_iinc (v := x1 + 1) (lv' := [(1, .int (x1 + 1)), (2, .int (σ.2.1 9 x1.toNatClampNeg)), (0, .ref (A 22))]) hx hb d_Judge_judge_89 hl (k := 2) rfl (by first | rfl | decide) (by decide) rfl (fun ls hl => ?_)
              refine lv_goto (tgt := 17) hx hb d_Judge_judge_92 (by decide) ?_
              exact ih _ _ h _ _ hP hD hS ls (lv_sub hl [2, 0] rfl)
            · replace h := itf c_71 h
              refine lv_aload_n hx hb d_Judge_judge_74 rfl (lv_at hl 1 rfl) ?_
              refine lv_iload_n hx hb d_Judge_judge_75 rfl (lv_at hl 2 rfl) ?_
              refine lv_iload_n hx hb d_Judge_judge_76 rfl (lv_at hl 0 rfl) ?_
              obtain ⟨σ_77, e_77, h⟩ := bd1_some h
              refine R_callv (va_runV (As := [.int x1, .int (σ.2.1 9 x1.toNatClampNeg)]) (rest := []) ⟨hx, hb, hml, hown, hts⟩ (c_Judge_takeStatementSign l K A e_77) (cwV 2 hts (gd_V wd_535 wd_537 wp_29 wd_9 wd_538) rfl rfl rfl dv_Judge_takeStatementSign ⟨Nat.le_of_ble_eq_true rfl, Nat.le_of_ble_eq_true rfl⟩) (R_pv_22 hK hP hD) rfl rfl hl.1 rfl (lv_room (Nat.le_of_ble_eq_true rfl)) d_Judge_judge_77 ⟨Nat.le_of_ble_eq_true rfl, Nat.le_of_ble_eq_true rfl⟩) hS (fun H locs hP hD hS => ?_)
              refine lv_goto (tgt := 89) hx hb d_Judge_judge_80 (by decide) ?_
              refine lv_iinc (v := x1 + 1) (lv' := [(1, .int (x1 + 1)), (2, .int (σ.2.1 9 x1.toNatClampNeg)), (0, .ref (A 22))]) hx hb d_Judge_judge_89 hl (k := 2) rfl (by first | rfl | decide) (by decide) rfl (fun ls hl => ?_)
              refine lv_goto (tgt := 17) hx hb d_Judge_judge_92 (by decide) ?_
              exact ih _ _ h _ _ hP hD hS ls (lv_sub hl [2, 0] rfl)
          · replace h := itf c_56 h
            refine lv_aload_n hx hb d_Judge_judge_59 rfl (lv_at hl 1 rfl) ?_
            refine lv_iload_n hx hb d_Judge_judge_60 rfl (lv_at hl 2 rfl) ?_
            refine lv_iload_n hx hb d_Judge_judge_61 rfl (lv_at hl 0 rfl) ?_
            obtain ⟨σ_62, e_62, h⟩ := bd1_some h
            refine R_callv (va_runV (As := [.int x1, .int (σ.2.1 9 x1.toNatClampNeg)]) (rest := []) ⟨hx, hb, hml, hown, hts⟩ (c_Judge_takeOperand l K A e_62) (cwV 2 hts (gd_V wd_515 wd_517 wp_26 wd_9 wd_518) rfl rfl rfl dv_Judge_takeOperand ⟨Nat.le_of_ble_eq_true rfl, Nat.le_of_ble_eq_true rfl⟩) (R_pv_22 hK hP hD) rfl rfl hl.1 rfl (lv_room (Nat.le_of_ble_eq_true rfl)) d_Judge_judge_62 ⟨Nat.le_of_ble_eq_true rfl, Nat.le_of_ble_eq_true rfl⟩) hS (fun H locs hP hD hS => ?_)
            refine lv_goto (tgt := 89) hx hb d_Judge_judge_65 (by decide) ?_
            refine lv_iinc (v := x1 + 1) (lv' := [(1, .int (x1 + 1)), (2, .int (σ.2.1 9 x1.toNatClampNeg)), (0, .ref (A 22))]) hx hb d_Judge_judge_89 hl (k := 2) rfl (by first | rfl | decide) (by decide) rfl (fun ls hl => ?_)
            refine lv_goto (tgt := 17) hx hb d_Judge_judge_92 (by decide) ?_
            exact ih _ _ h _ _ hP hD hS ls (lv_sub hl [2, 0] rfl)
        · replace h := itf c_41 h
          refine lv_aload_n hx hb d_Judge_judge_44 rfl (lv_at hl 1 rfl) ?_
          refine lv_iload_n hx hb d_Judge_judge_45 rfl (lv_at hl 2 rfl) ?_
          refine lv_iload_n hx hb d_Judge_judge_46 rfl (lv_at hl 0 rfl) ?_
          obtain ⟨σ_47, e_47, h⟩ := bd1_some h
          refine R_callv (va_runV (As := [.int x1, .int (σ.2.1 9 x1.toNatClampNeg)]) (rest := []) ⟨hx, hb, hml, hown, hts⟩ (c_Judge_enter l K A e_47) (cwV 2 hts (gd_V wd_510 wd_512 wp_25 wd_9 wd_513) rfl rfl rfl dv_Judge_enter ⟨Nat.le_of_ble_eq_true rfl, Nat.le_of_ble_eq_true rfl⟩) (R_pv_22 hK hP hD) rfl rfl hl.1 rfl (lv_room (Nat.le_of_ble_eq_true rfl)) d_Judge_judge_47 ⟨Nat.le_of_ble_eq_true rfl, Nat.le_of_ble_eq_true rfl⟩) hS (fun H locs hP hD hS => ?_)
          refine lv_goto (tgt := 89) hx hb d_Judge_judge_50 (by decide) ?_
          refine lv_iinc (v := x1 + 1) (lv' := [(1, .int (x1 + 1)), (2, .int (σ.2.1 9 x1.toNatClampNeg)), (0, .ref (A 22))]) hx hb d_Judge_judge_89 hl (k := 2) rfl (by first | rfl | decide) (by decide) rfl (fun ls hl => ?_)
          refine lv_goto (tgt := 17) hx hb d_Judge_judge_92 (by decide) ?_
          exact ih _ _ h _ _ hP hD hS ls (lv_sub hl [2, 0] rfl)
  refine lv_aload_n hx hb d_Judge_judge_0 rfl (lv_at hl 0 rfl) ?_
  refine lv_iconst (v := 0) hx hb d_Judge_judge_1 (by decide) ?_
  refine pf_Judge_43 hx hb hg hown hK hP hD hS d_Judge_judge_2 (fun H locs hP hD hS => ?_)
  refine lv_aload_n hx hb d_Judge_judge_5 rfl (lv_at hl 0 rfl) ?_
  refine gf_Judge_11 hx hb hg hown hK hP d_Judge_judge_6 ?_
  refine lv_aload_n hx hb d_Judge_judge_9 rfl (lv_at hl 0 rfl) ?_
  refine gf_Judge_43 hx hb hg hown hK hP d_Judge_judge_10 ?_
  refine lv_iconst (v := (-1)) hx hb d_Judge_judge_13 (by decide) ?_
  obtain ⟨i_14, h⟩ := itn h
  refine wa_23 hx hb hK hP hD hS i_14 d_Judge_judge_14 (fun H locs hP hD hS => ?_)
  refine lv_iconst (v := 0) hx hb d_Judge_judge_15 (by decide) ?_
  refine lv_istore_n (lv' := [(1, .int 0), (0, .ref (A 22))]) hx hb d_Judge_judge_16 rfl hl (by decide) rfl (fun ls hl => ?_)
  exact L_17  FU _ _ h _ _ hP hD hS ls (lv_sub hl [1, 0] rfl)
