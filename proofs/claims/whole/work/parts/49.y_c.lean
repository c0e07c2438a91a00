def p_Mo_judgeClass (σ : Sto) (x1 : Int32) : Option Sto :=
  if inR x1 124 then if inR x1 124 then (if (σ.2.1 7 x1.toNatClampNeg) = 1 then
      bd1 (p_Mo_classOf σ x1) fun v_19 =>
      (if v_19 = (σ.2.1 8 x1.toNatClampNeg) then
        if inR x1 124 then some (sA σ 14 x1.toNatClampNeg x1) else none
      else
        bd1 (p_Mo_note σ x1 1) fun σ_29 =>
        some σ_29)
    else
      bd1 (p_Mo_classOf σ x1) fun v_45 =>
      (if v_45 = (-2) then
        bd1 (p_Mo_note σ x1 2) fun σ_58 =>
        some σ_58
      else
        if inR x1 124 then (if (σ.2.1 7 x1.toNatClampNeg) = 3 then
          bd1 (p_Mo_circles σ (σ.2.1 8 x1.toNatClampNeg)) fun v_76 =>
          (if v_76 = 0 then
            if inR v_45 40 then if inR x1 124 then some (sA σ 14 x1.toNatClampNeg (σ.2.1 11 v_45.toNatClampNeg)) else none else none
          else
            bd1 (p_Mo_note σ x1 3) fun σ_85 =>
            some σ_85)
        else
          if inR v_45 40 then if inR x1 124 then some (sA σ 14 x1.toNatClampNeg (σ.2.1 11 v_45.toNatClampNeg)) else none else none) else none)) else none else none
abbrev w_Mo_judgeClass : List Cond := Cond.code y_Mo_judgeClass b_Mo_judgeClass 4 none :: Tg
abbrev r_Mo_judgeClass : Room := { frames := 3, cells := 0, slots := 0, locals := 67 }
theorem dv_Mo_judgeClass : y_Mo_judgeClass.cls = "LanguageServerModel" ∧ y_Mo_judgeClass.cls ≠ "java/lang/invoke/MethodHandle" ∧ y_Mo_judgeClass.cls ≠ "java/lang/invoke/VarHandle" ∧ (parseMethodDescriptor y_Mo_judgeClass.desc).map (fun d => d.parameters.length) = some 1 := by decide +kernel
set_option maxHeartbeats 4000000 in
set_option maxRecDepth 100000 in
theorem c_Mo_judgeClass (l : Launch) (K : Kst) (A : Nat → Nat) {σ : Sto} {x1 : Int32} {ss : Sto} (h : p_Mo_judgeClass σ x1 = some ss) : Met l y_Mo_judgeClass w_Mo_judgeClass r_Mo_judgeClass (va_Pc [.ref (A 0), .int x1] (YB K A σ)) (YQv K A ss) 0 0 (YF A) := by
  refine Met.ofW (cc := b_Mo_judgeClass) (maxL := 4) (ret := none) (by decide) rfl ?_
  intro p e s m args below meth c s₁ B hml hv
  obtain ⟨rfl, hP, hK, hD⟩ := hv
  have hx := B.exec
  have hb := B.bytes
  have hr := B.returns
  have hts := atoms_spec (ws := w_Mo_judgeClass) B.pre
  have hg : ∀ w ∈ Tg, w.before _ s = true := fun w q => hts w (List.mem_cons_of_mem _ q)
  have hown : s.vm.findClass "LanguageServerModel" = some m.cls := findClass_of_methodNamed B.named
  have hlocks := B.notSynchronized
  have hS : va_S (YF A) s.heap s.heap [] := va_S.rf
  have hl := lv_entry ([.ref (A 0), .int x1]) (n := 4) (Nat.le_of_ble_eq_true rfl)
  rw [lg_entry_eq]
  generalize (lg_sl ([.ref (A 0), .int x1]) ++ List.replicate (4 - (lg_sl ([.ref (A 0), .int x1])).length) Slot.unset).toArray = ls at hl ⊢
  have hl : lv_has ls 4 [(0, .ref (A 0)), (1, .int x1)] := hl
  generalize hargs : ([.ref (A 0), .int x1] : List Value).toArray = args at hg hts ⊢
  obtain ⟨Q, hQ⟩ : ∃ Q, Q = MQ below (YQv K A ss) args s 0 0 (YF A) := ⟨_, rfl⟩
  rw [← hQ]
  have hRet : ∀ (σ : Sto), some σ = some ss → ∀ (H : Heap) (locs : List Loc), va_P K.1 vwCl (wY K A σ) H → va_D (YF A) (wY K A σ) → va_S (YF A) s.heap H locs → ∀ (pc : Nat) (ls : Array Slot), decode b_Mo_judgeClass pc = .ok (.return_, 1) → W p l e (headSpec w_Mo_judgeClass r_Mo_judgeClass).room s m args below meth c H locs 0 0 Q (F0 m pc ls []) := by
    intro σ h H locs hP hD hS pc ls hd
    cases h
    subst hQ
    exact W.vret hx hb hr (fun t ht hW => ⟨⟨(), rfl, trivial, by rw [ht]; exact hP, RK.warm hW hK, hD⟩, hS.F ht⟩) hS.2.2 hd
  clear hQ
  unfold p_Mo_judgeClass at h
  refine lv_aload_n hx hb d_Mo_judgeClass_0 rfl (lv_at hl 0 rfl) ?_
  refine gf_Mo_32 hx hb hg hown hK hP d_Mo_judgeClass_1 ?_
  refine lv_iload_n hx hb d_Mo_judgeClass_4 rfl (lv_at hl 1 rfl) ?_
  obtain ⟨i_5, h⟩ := itn h
  refine Yra_8 hx hb hK hP i_5 d_Mo_judgeClass_5 ?_
  refine lv_istore_n (lv' := [(2, .int (σ.2.1 8 x1.toNatClampNeg)), (0, .ref (A 0)), (1, .int x1)]) hx hb d_Mo_judgeClass_6 rfl hl (by decide) rfl (fun ls hl => ?_)
  refine lv_aload_n hx hb d_Mo_judgeClass_7 rfl (lv_at hl 1 rfl) ?_
  refine gf_Mo_29 hx hb hg hown hK hP d_Mo_judgeClass_8 ?_
  refine lv_iload_n hx hb d_Mo_judgeClass_11 rfl (lv_at hl 2 rfl) ?_
  obtain ⟨i_12, h⟩ := itn h
  refine Yra_7 hx hb hK hP i_12 d_Mo_judgeClass_12 ?_
  refine lv_iconst (v := 1) hx hb d_Mo_judgeClass_13 (by decide) ?_
  refine lv_icmp_ne (tgt := 43) hx hb d_Mo_judgeClass_14 (by decide) (fun c_14 => ?_) (fun c_14 => ?_)
  · replace h := itf c_14 h
    refine lv_aload_n hx hb d_Mo_judgeClass_43 rfl (lv_at hl 1 rfl) ?_
    refine lv_iload_n hx hb d_Mo_judgeClass_44 rfl (lv_at hl 2 rfl) ?_
    obtain ⟨v_45, e_45, h⟩ := bd1_some h
    refine Y_calli (va_runV (As := [.int x1]) (rest := []) ⟨hx, hb, hml, hown, hts⟩ (c_Mo_classOf l K A e_45) (cwV 1 hts (gd_V wd_1120 wd_1122 wp_62 wd_10 wd_1123) rfl rfl rfl dv_Mo_classOf ⟨Nat.le_of_ble_eq_true rfl, Nat.le_of_ble_eq_true rfl⟩) (Y_pv_0 hK hP hD) rfl rfl hl.1 rfl (lv_room (Nat.le_of_ble_eq_true rfl)) d_Mo_judgeClass_45 ⟨Nat.le_of_ble_eq_true rfl, Nat.le_of_ble_eq_true rfl⟩) hS (fun H locs hP hD hS => ?_)
    refine lv_istore_n (lv' := [(3, .int v_45), (2, .int (σ.2.1 8 x1.toNatClampNeg)), (0, .ref (A 0)), (1, .int x1)]) hx hb d_Mo_judgeClass_48 rfl hl (by decide) rfl (fun ls hl => ?_)
    refine lv_iload_n hx hb d_Mo_judgeClass_49 rfl (lv_at hl 0 rfl) ?_
    refine lv_bipush (v := (-2)) hx hb d_Mo_judgeClass_50 (by decide) ?_
    refine lv_icmp_ne (tgt := 64) hx hb d_Mo_judgeClass_52 (by decide) (fun c_52 => ?_) (fun c_52 => ?_)
    · replace h := itf c_52 h
      refine lv_aload_n hx hb d_Mo_judgeClass_64 rfl (lv_at hl 2 rfl) ?_
      refine gf_Mo_29 hx hb hg hown hK hP d_Mo_judgeClass_65 ?_
      refine lv_iload_n hx hb d_Mo_judgeClass_68 rfl (lv_at hl 3 rfl) ?_
      obtain ⟨i_69, h⟩ := itn h
      refine Yra_7 hx hb hK hP i_69 d_Mo_judgeClass_69 ?_
      refine lv_iconst (v := 3) hx hb d_Mo_judgeClass_70 (by decide) ?_
      refine lv_icmp_ne (tgt := 91) hx hb d_Mo_judgeClass_71 (by decide) (fun c_71 => ?_) (fun c_71 => ?_)
      · replace h := itf c_71 h
        refine lv_aload_n hx hb d_Mo_judgeClass_91 rfl (lv_at hl 2 rfl) ?_
        refine gf_Mo_50 hx hb hg hown hK hP d_Mo_judgeClass_92 ?_
        refine lv_iload_n hx hb d_Mo_judgeClass_95 rfl (lv_at hl 3 rfl) ?_
        refine lv_aload_n hx hb d_Mo_judgeClass_96 rfl (lv_at hl 2 rfl) ?_
        refine gf_Mo_41 hx hb hg hown hK hP d_Mo_judgeClass_97 ?_
        refine lv_iload_n hx hb d_Mo_judgeClass_100 rfl (lv_at hl 0 rfl) ?_
        obtain ⟨i_101, h⟩ := itn h
        refine Yra_11 hx hb hK hP i_101 d_Mo_judgeClass_101 ?_
        obtain ⟨i_102, h⟩ := itn h
        refine Ywa_14 hx hb hK hP hD hS i_102 d_Mo_judgeClass_102 (fun H locs hP hD hS => ?_)
        exact hRet _ h _ _ hP hD hS _ _ d_Mo_judgeClass_103
      · replace h := itp c_71 h
        refine lv_aload_n hx hb d_Mo_judgeClass_74 rfl (lv_at hl 2 rfl) ?_
        refine lv_iload_n hx hb d_Mo_judgeClass_75 rfl (lv_at hl 1 rfl) ?_
        obtain ⟨v_76, e_76, h⟩ := bd1_some h
        refine Y_calli (va_runV (As := [.int (σ.2.1 8 x1.toNatClampNeg)]) (rest := []) ⟨hx, hb, hml, hown, hts⟩ (c_Mo_circles l K A e_76) (cwV 1 hts (gd_V wd_1128 wd_1130 wp_64 wd_10 wd_1131) rfl rfl rfl dv_Mo_circles ⟨Nat.le_of_ble_eq_true rfl, Nat.le_of_ble_eq_true rfl⟩) (Y_pv_0 hK hP hD) rfl rfl hl.1 rfl (lv_room (Nat.le_of_ble_eq_true rfl)) d_Mo_judgeClass_76 ⟨Nat.le_of_ble_eq_true rfl, Nat.le_of_ble_eq_true rfl⟩) hS (fun H locs hP hD hS => ?_)
        refine lv_if_eq (tgt := 91) hx hb d_Mo_judgeClass_79 (by decide) (fun c_79 => ?_) (fun c_79 => ?_)
        · replace h := itp c_79 h
          refine lv_aload_n hx hb d_Mo_judgeClass_91 rfl (lv_at hl 2 rfl) ?_
          refine gf_Mo_50 hx hb hg hown hK hP d_Mo_judgeClass_92 ?_
          refine lv_iload_n hx hb d_Mo_judgeClass_95 rfl (lv_at hl 3 rfl) ?_
          refine lv_aload_n hx hb d_Mo_judgeClass_96 rfl (lv_at hl 2 rfl) ?_
          refine gf_Mo_41 hx hb hg hown hK hP d_Mo_judgeClass_97 ?_
          refine lv_iload_n hx hb d_Mo_judgeClass_100 rfl (lv_at hl 0 rfl) ?_
          obtain ⟨i_101, h⟩ := itn h
          refine Yra_11 hx hb hK hP i_101 d_Mo_judgeClass_101 ?_
          obtain ⟨i_102, h⟩ := itn h
          refine Ywa_14 hx hb hK hP hD hS i_102 d_Mo_judgeClass_102 (fun H locs hP hD hS => ?_)
          exact hRet _ h _ _ hP hD hS _ _ d_Mo_judgeClass_103
        · replace h := itf c_79 h
          refine lv_aload_n hx hb d_Mo_judgeClass_82 rfl (lv_at hl 2 rfl) ?_
          refine lv_iload_n hx hb d_Mo_judgeClass_83 rfl (lv_at hl 3 rfl) ?_
          refine lv_iconst (v := 3) hx hb d_Mo_judgeClass_84 (by decide) ?_
          obtain ⟨σ_85, e_85, h⟩ := bd1_some h
          refine Y_callv (va_runV (As := [.int x1, .int 3]) (rest := []) ⟨hx, hb, hml, hown, hts⟩ (c_Mo_note l K A e_85) (cwV 2 hts (gd_V wd_1124 wd_1126 wp_63 wd_10 wd_1127) rfl rfl rfl dv_Mo_note ⟨Nat.le_of_ble_eq_true rfl, Nat.le_of_ble_eq_true rfl⟩) (Y_pv_0 hK hP hD) rfl rfl hl.1 rfl (lv_room (Nat.le_of_ble_eq_true rfl)) d_Mo_judgeClass_85 ⟨Nat.le_of_ble_eq_true rfl, Nat.le_of_ble_eq_true rfl⟩) hS (fun H locs hP hD hS => ?_)
          refine lv_goto (tgt := 103) hx hb d_Mo_judgeClass_88 (by decide) ?_
          exact hRet _ h _ _ hP hD hS _ _ d_Mo_judgeClass_103
    · replace h := itp c_52 h
      refine lv_aload_n hx hb d_Mo_judgeClass_55 rfl (lv_at hl 2 rfl) ?_
      refine lv_iload_n hx hb d_Mo_judgeClass_56 rfl (lv_at hl 3 rfl) ?_
      refine lv_iconst (v := 2) hx hb d_Mo_judgeClass_57 (by decide) ?_
      obtain ⟨σ_58, e_58, h⟩ := bd1_some h
      refine Y_callv (va_runV (As := [.int x1, .int 2]) (rest := []) ⟨hx, hb, hml, hown, hts⟩ (c_Mo_note l K A e_58) (cwV 2 hts (gd_V wd_1124 wd_1126 wp_63 wd_10 wd_1127) rfl rfl rfl dv_Mo_note ⟨Nat.le_of_ble_eq_true rfl, Nat.le_of_ble_eq_true rfl⟩) (Y_pv_0 hK hP hD) rfl rfl hl.1 rfl (lv_room (Nat.le_of_ble_eq_true rfl)) d_Mo_judgeClass_58 ⟨Nat.le_of_ble_eq_true rfl, Nat.le_of_ble_eq_true rfl⟩) hS (fun H locs hP hD hS => ?_)
      refine lv_goto (tgt := 103) hx hb d_Mo_judgeClass_61 (by decide) ?_
      exact hRet _ h _ _ hP hD hS _ _ d_Mo_judgeClass_103
  · replace h := itp c_14 h
    refine lv_aload_n hx hb d_Mo_judgeClass_17 rfl (lv_at hl 1 rfl) ?_
    refine lv_iload_n hx hb d_Mo_judgeClass_18 rfl (lv_at hl 2 rfl) ?_
    obtain ⟨v_19, e_19, h⟩ := bd1_some h
    refine Y_calli (va_runV (As := [.int x1]) (rest := []) ⟨hx, hb, hml, hown, hts⟩ (c_Mo_classOf l K A e_19) (cwV 1 hts (gd_V wd_1120 wd_1122 wp_62 wd_10 wd_1123) rfl rfl rfl dv_Mo_classOf ⟨Nat.le_of_ble_eq_true rfl, Nat.le_of_ble_eq_true rfl⟩) (Y_pv_0 hK hP hD) rfl rfl hl.1 rfl (lv_room (Nat.le_of_ble_eq_true rfl)) d_Mo_judgeClass_19 ⟨Nat.le_of_ble_eq_true rfl, Nat.le_of_ble_eq_true rfl⟩) hS (fun H locs hP hD hS => ?_)
    refine lv_iload_n hx hb d_Mo_judgeClass_22 rfl (lv_at hl 0 rfl) ?_
    refine lv_icmp_eq (tgt := 35) hx hb d_Mo_judgeClass_23 (by decide) (fun c_23 => ?_) (fun c_23 => ?_)
    · replace h := itp c_23 h
      refine lv_aload_n hx hb d_Mo_judgeClass_35 rfl (lv_at hl 1 rfl) ?_
      refine gf_Mo_50 hx hb hg hown hK hP d_Mo_judgeClass_36 ?_
      refine lv_iload_n hx hb d_Mo_judgeClass_39 rfl (lv_at hl 2 rfl) ?_
      refine lv_iload_n hx hb d_Mo_judgeClass_40 rfl (lv_at hl 2 rfl) ?_
      obtain ⟨i_41, h⟩ := itn h
      refine Ywa_14 hx hb hK hP hD hS i_41 d_Mo_judgeClass_41 (fun H locs hP hD hS => ?_)
      exact hRet _ h _ _ hP hD hS _ _ d_Mo_judgeClass_42
    · replace h := itf c_23 h
      refine lv_aload_n hx hb d_Mo_judgeClass_26 rfl (lv_at hl 1 rfl) ?_
      refine lv_iload_n hx hb d_Mo_judgeClass_27 rfl (lv_at hl 2 rfl) ?_
      refine lv_iconst (v := 1) hx hb d_Mo_judgeClass_28 (by decide) ?_
      obtain ⟨σ_29, e_29, h⟩ := bd1_some h
      refine Y_callv (va_runV (As := [.int x1, .int 1]) (rest := []) ⟨hx, hb, hml, hown, hts⟩ (c_Mo_note l K A e_29) (cwV 2 hts (gd_V wd_1124 wd_1126 wp_63 wd_10 wd_1127) rfl rfl rfl dv_Mo_note ⟨Nat.le_of_ble_eq_true rfl, Nat.le_of_ble_eq_true rfl⟩) (Y_pv_0 hK hP hD) rfl rfl hl.1 rfl (lv_room (Nat.le_of_ble_eq_true rfl)) d_Mo_judgeClass_29 ⟨Nat.le_of_ble_eq_true rfl, Nat.le_of_ble_eq_true rfl⟩) hS (fun H locs hP hD hS => ?_)
      refine lv_goto (tgt := 42) hx hb d_Mo_judgeClass_32 (by decide) ?_
      exact hRet _ h _ _ hP hD hS _ _ d_Mo_judgeClass_42
def p_Mo_judgeMember_L2 (x1 : Int32) : Nat → Sto → Int32 → Option Sto
  | 0, _, _ => none
  | n + 1, σ, x2 =>
    (if x1 ≤ x2 then
        if inR x1 124 then (if (σ.2.1 13 x1.toNatClampNeg) = 0 then
          if inR x1 124 then some (sA σ 14 x1.toNatClampNeg x1) else none
        else
          some σ) else none
      else
        if inR x2 124 then bd1 (p_Mo_declares (σ.2.1 7 x2.toNatClampNeg)) fun v_13 =>
        (if v_13 = 0 then
          p_Mo_judgeMember_L2 x1 n σ (x2 + 1)
        else
          if inR x2 124 then if inR x1 124 then (if (σ.2.1 8 x2.toNatClampNeg) = (σ.2.1 8 x1.toNatClampNeg) then
            if inR x2 124 then if inR x1 124 then (if (lg_cmp (σ.2.2 x2.toNatClampNeg) (σ.2.2 x1.toNatClampNeg)) = 0 then
              bd1 (p_Mo_note σ x1 4) fun σ_53 =>
              p_Mo_judgeMember_L2 x1 n σ_53 (x2 + 1)
            else
              p_Mo_judgeMember_L2 x1 n σ (x2 + 1)) else none else none
          else
            p_Mo_judgeMember_L2 x1 n σ (x2 + 1)) else none else none) else none)
def p_Mo_judgeMember (σ : Sto) (x1 : Int32) : Option Sto :=
  p_Mo_judgeMember_L2 x1 FU σ 0
abbrev w_Mo_judgeMember : List Cond := Cond.code y_Mo_judgeMember b_Mo_judgeMember 3 none :: Tg
abbrev r_Mo_judgeMember : Room := { frames := 1, cells := 0, slots := 0, locals := 22 }
theorem dv_Mo_judgeMember : y_Mo_judgeMember.cls = "LanguageServerModel" ∧ y_Mo_judgeMember.cls ≠ "java/lang/invoke/MethodHandle" ∧ y_Mo_judgeMember.cls ≠ "java/lang/invoke/VarHandle" ∧ (parseMethodDescriptor y_Mo_judgeMember.desc).map (fun d => d.parameters.length) = some 1 := by decide +kernel
set_option maxHeartbeats 4000000 in
set_option maxRecDepth 100000 in
theorem c_Mo_judgeMember (l : Launch) (K : Kst) (A : Nat → Nat) {σ : Sto} {x1 : Int32} {ss : Sto} (h : p_Mo_judgeMember σ x1 = some ss) : Met l y_Mo_judgeMember w_Mo_judgeMember r_Mo_judgeMember (va_Pc [.ref (A 0), .int x1] (YB K A σ)) (YQv K A ss) 0 0 (YF A) := by
  refine Met.ofW (cc := b_Mo_judgeMember) (maxL := 3) (ret := none) (by decide) rfl ?_
  intro p e s m args below meth c s₁ B hml hv
  obtain ⟨rfl, hP, hK, hD⟩ := hv
  have hx := B.exec
  have hb := B.bytes
  have hr := B.returns
  have hts := atoms_spec (ws := w_Mo_judgeMember) B.pre
  have hg : ∀ w ∈ Tg, w.before _ s = true := fun w q => hts w (List.mem_cons_of_mem _ q)
  have hown : s.vm.findClass "LanguageServerModel" = some m.cls := findClass_of_methodNamed B.named
  have hlocks := B.notSynchronized
  have hS : va_S (YF A) s.heap s.heap [] := va_S.rf
  have hl := lv_entry ([.ref (A 0), .int x1]) (n := 3) (Nat.le_of_ble_eq_true rfl)
  rw [lg_entry_eq]
  generalize (lg_sl ([.ref (A 0), .int x1]) ++ List.replicate (3 - (lg_sl ([.ref (A 0), .int x1])).length) Slot.unset).toArray = ls at hl ⊢
  have hl : lv_has ls 3 [(0, .ref (A 0)), (1, .int x1)] := hl
  generalize hargs : ([.ref (A 0), .int x1] : List Value).toArray = args at hg hts ⊢
  obtain ⟨Q, hQ⟩ : ∃ Q, Q = MQ below (YQv K A ss) args s 0 0 (YF A) := ⟨_, rfl⟩
  rw [← hQ]
  have hRet : ∀ (σ : Sto), some σ = some ss → ∀ (H : Heap) (locs : List Loc), va_P K.1 vwCl (wY K A σ) H → va_D (YF A) (wY K A σ) → va_S (YF A) s.heap H locs → ∀ (pc : Nat) (ls : Array Slot), decode b_Mo_judgeMember pc = .ok (.return_, 1) → W p l e (headSpec w_Mo_judgeMember r_Mo_judgeMember).room s m args below meth c H locs 0 0 Q (F0 m pc ls []) := by
    intro σ h H locs hP hD hS pc ls hd
    cases h
    subst hQ
    exact W.vret hx hb hr (fun t ht hW => ⟨⟨(), rfl, trivial, by rw [ht]; exact hP, RK.warm hW hK, hD⟩, hS.F ht⟩) hS.2.2 hd
  clear hQ
  unfold p_Mo_judgeMember at h
  have L_2 : ∀ (n : Nat) (σ : Sto) (x2 : Int32), p_Mo_judgeMember_L2 x1 n σ x2 = some ss → ∀ (H : Heap) (locs : List Loc), va_P K.1 vwCl (wY K A σ) H → va_D (YF A) (wY K A σ) → va_S (YF A) s.heap H locs → ∀ ls : Array Slot, lv_has ls 3 [(0, .ref (A 0)), (1, .int x1), (2, .int x2)] → W p l e (headSpec w_Mo_judgeMember r_Mo_judgeMember).room s m args below meth c H locs 0 0 Q (F0 m 2 ls []) := by
    intro n
    induction n with
    | zero => intro _ _ h; cases h
    | succ n ih =>
      intro σ x2 h H locs hP hD hS ls hl
      rw [p_Mo_judgeMember_L2] at h
      refine lv_iload_n hx hb d_Mo_judgeMember_2 rfl (lv_at hl 2 rfl) ?_
      refine lv_iload_n hx hb d_Mo_judgeMember_3 rfl (lv_at hl 1 rfl) ?_
      refine lv_icmp_ge (tgt := 62) hx hb d_Mo_judgeMember_4 (by decide) (fun c_4 => ?_) (fun c_4 => ?_)
      · replace h := itp c_4 h
        refine lv_aload_n hx hb d_Mo_judgeMember_62 rfl (lv_at hl 0 rfl) ?_
        refine gf_Mo_47 hx hb hg hown hK hP d_Mo_judgeMember_63 ?_
        refine lv_iload_n hx hb d_Mo_judgeMember_66 rfl (lv_at hl 1 rfl) ?_
        obtain ⟨i_67, h⟩ := itn h
        refine Yra_13 hx hb hK hP i_67 d_Mo_judgeMember_67 ?_
        refine lv_if_ne (tgt := 78) hx hb d_Mo_judgeMember_68 (by decide) (fun c_68 => ?_) (fun c_68 => ?_)
        · replace h := itf c_68 h
          exact hRet _ h _ _ hP hD hS _ _ d_Mo_judgeMember_78
        · replace h := itp c_68 h
          refine lv_aload_n hx hb d_Mo_judgeMember_71 rfl (lv_at hl 0 rfl) ?_
          refine gf_Mo_50 hx hb hg hown hK hP d_Mo_judgeMember_72 ?_
          refine lv_iload_n hx hb d_Mo_judgeMember_75 rfl (lv_at hl 1 rfl) ?_
          refine lv_iload_n hx hb d_Mo_judgeMember_76 rfl (lv_at hl 1 rfl) ?_
          obtain ⟨i_77, h⟩ := itn h
          refine Ywa_14 hx hb hK hP hD hS i_77 d_Mo_judgeMember_77 (fun H locs hP hD hS => ?_)
          exact hRet _ h _ _ hP hD hS _ _ d_Mo_judgeMember_78
      · replace h := itf c_4 h
        refine lv_aload_n hx hb d_Mo_judgeMember_7 rfl (lv_at hl 0 rfl) ?_
        refine gf_Mo_29 hx hb hg hown hK hP d_Mo_judgeMember_8 ?_
        refine lv_iload_n hx hb d_Mo_judgeMember_11 rfl (lv_at hl 2 rfl) ?_
        obtain ⟨i_12, h⟩ := itn h
        refine Yra_7 hx hb hK hP i_12 d_Mo_judgeMember_12 ?_
        obtain ⟨v_13, e_13, h⟩ := bd1_some h
        refine R_cpi (va_runS (As := [.int (σ.2.1 7 x2.toNatClampNeg)]) (rest := []) ⟨hx, hb, hml, hown, hts⟩ (c_Mo_declares l e_13) (va_cwS 1 hts (gd_S wd_1136 wd_1137 wd_10 wd_1138) rfl rfl rfl ds_Mo_declares ⟨Nat.le_of_ble_eq_true rfl, Nat.le_of_ble_eq_true rfl⟩) (P_ps hK.2) rfl rfl hl.1 rfl (lv_room (Nat.le_of_ble_eq_true rfl)) d_Mo_judgeMember_13 ⟨Nat.le_of_ble_eq_true rfl, Nat.le_of_ble_eq_true rfl⟩) hP hD hS (fun H locs hP hD hS => ?_)
        refine lv_if_eq (tgt := 56) hx hb d_Mo_judgeMember_16 (by decide) (fun c_16 => ?_) (fun c_16 => ?_)
        · replace h := itp c_16 h
          refine lv_iinc (v := x2 + 1) (lv' := [(2, .int (x2 + 1)), (0, .ref (A 0)), (1, .int x1)]) hx hb d_Mo_judgeMember_56 hl (k := 2) rfl (by first | rfl | decide) (by decide) rfl (fun ls hl => ?_)
          refine lv_goto (tgt := 2) hx hb d_Mo_judgeMember_59 (by decide) ?_
          exact ih _ _ h _ _ hP hD hS ls (lv_sub hl [1, 2, 0] rfl)
        · replace h := itf c_16 h
          refine lv_aload_n hx hb d_Mo_judgeMember_19 rfl (lv_at hl 0 rfl) ?_
          refine gf_Mo_32 hx hb hg hown hK hP d_Mo_judgeMember_20 ?_
          refine lv_iload_n hx hb d_Mo_judgeMember_23 rfl (lv_at hl 2 rfl) ?_
          obtain ⟨i_24, h⟩ := itn h
          refine Yra_8 hx hb hK hP i_24 d_Mo_judgeMember_24 ?_
          refine lv_aload_n hx hb d_Mo_judgeMember_25 rfl (lv_at hl 0 rfl) ?_
          refine gf_Mo_32 hx hb hg hown hK hP d_Mo_judgeMember_26 ?_
          refine lv_iload_n hx hb d_Mo_judgeMember_29 rfl (lv_at hl 1 rfl) ?_
          obtain ⟨i_30, h⟩ := itn h
          refine Yra_8 hx hb hK hP i_30 d_Mo_judgeMember_30 ?_
          refine lv_icmp_ne (tgt := 56) hx hb d_Mo_judgeMember_31 (by decide) (fun c_31 => ?_) (fun c_31 => ?_)
          · replace h := itf c_31 h
            refine lv_iinc (v := x2 + 1) (lv' := [(2, .int (x2 + 1)), (0, .ref (A 0)), (1, .int x1)]) hx hb d_Mo_judgeMember_56 hl (k := 2) rfl (by first | rfl | decide) (by decide) rfl (fun ls hl => ?_)
            refine lv_goto (tgt := 2) hx hb d_Mo_judgeMember_59 (by decide) ?_
            exact ih _ _ h _ _ hP hD hS ls (lv_sub hl [1, 2, 0] rfl)
          · replace h := itp c_31 h
            refine lv_aload_n hx hb d_Mo_judgeMember_34 rfl (lv_at hl 0 rfl) ?_
            refine gf_Mo_19 hx hb hg hown hK hP d_Mo_judgeMember_35 ?_
            refine lv_iload_n hx hb d_Mo_judgeMember_38 rfl (lv_at hl 2 rfl) ?_
            obtain ⟨i_39, h⟩ := itn h
            refine Yra_4 hx hb hK hP i_39 d_Mo_judgeMember_39 ?_
            refine lv_aload_n hx hb d_Mo_judgeMember_40 rfl (lv_at hl 0 rfl) ?_
            refine gf_Mo_19 hx hb hg hown hK hP d_Mo_judgeMember_41 ?_
            refine lv_iload_n hx hb d_Mo_judgeMember_44 rfl (lv_at hl 1 rfl) ?_
            obtain ⟨i_45, h⟩ := itn h
            refine Yra_4 hx hb hK hP i_45 d_Mo_judgeMember_45 ?_
            refine W.lcmp hx hb d_Mo_judgeMember_46 ?_
            refine lv_if_ne (tgt := 56) hx hb d_Mo_judgeMember_47 (by decide) (fun c_47 => ?_) (fun c_47 => ?_)
            · replace h := itf c_47 h
              refine lv_iinc (v := x2 + 1) (lv' := [(2, .int (x2 + 1)), (0, .ref (A 0)), (1, .int x1)]) hx hb d_Mo_judgeMember_56 hl (k := 2) rfl (by first | rfl | decide) (by decide) rfl (fun ls hl => ?_)
              refine lv_goto (tgt := 2) hx hb d_Mo_judgeMember_59 (by decide) ?_
              exact ih _ _ h _ _ hP hD hS ls (lv_sub hl [1, 2, 0] rfl)
            · replace h := itp c_47 h
              refine lv_aload_n hx hb d_Mo_judgeMember_50 rfl (lv_at hl 0 rfl) ?_
              refine lv_iload_n hx hb d_Mo_judgeMember_51 rfl (lv_at hl 1 rfl) ?_
              refine lv_iconst (v := 4) hx hb d_Mo_judgeMember_52 (by decide) ?_
              obtain ⟨σ_53, e_53, h⟩ := bd1_some h
              refine Y_callv (va_runV (As := [.int x1, .int 4]) (rest := []) ⟨hx, hb, hml, hown, hts⟩ (c_Mo_note l K A e_53) (cwV 2 hts (gd_V wd_1124 wd_1126 wp_63 wd_10 wd_1127) rfl rfl rfl dv_Mo_note ⟨Nat.le_of_ble_eq_true rfl, Nat.le_of_ble_eq_true rfl⟩) (Y_pv_0 hK hP hD) rfl rfl hl.1 rfl (lv_room (Nat.le_of_ble_eq_true rfl)) d_Mo_judgeMember_53 ⟨Nat.le_of_ble_eq_true rfl, Nat.le_of_ble_eq_true rfl⟩) hS (fun H locs hP hD hS => ?_)
              refine lv_iinc (v := x2 + 1) (lv' := [(2, .int (x2 + 1)), (0, .ref (A 0)), (1, .int x1)]) hx hb d_Mo_judgeMember_56 hl (k := 2) rfl (by first | rfl | decide) (by decide) rfl (fun ls hl => ?_)
              refine lv_goto (tgt := 2) hx hb d_Mo_judgeMember_59 (by decide) ?_
              exact ih _ _ h _ _ hP hD hS ls (lv_sub hl [1, 2, 0] rfl)
  refine lv_iconst (v := 0) hx hb d_Mo_judgeMember_0 (by decide) ?_
  refine lv_istore_n (lv' := [(2, .int 0), (0, .ref (A 0)), (1, .int x1)]) hx hb d_Mo_judgeMember_1 rfl hl (by decide) rfl (fun ls hl => ?_)
  exact L_2  FU _ _ h _ _ hP hD hS ls (lv_sub hl [1, 2, 0] rfl)
def p_Mo_judgeName_b46 (x1 : Int32) (σ : Sto) : Option Sto :=
  bd1 (p_Mo_local σ x1 x1) fun v_49 =>
    (if v_49 < 0 then
      if inR x1 124 then some (sA σ 14 x1.toNatClampNeg x1) else none
    else
      bd1 (p_Mo_note σ x1 5) fun σ_58 =>
      some σ_58)
def p_Mo_judgeName_b33 (x1 : Int32) (σ : Sto) (x2 : Int32) : Option Sto :=
  (if x2 = 7 then
      p_Mo_judgeName_b46 x1 σ
    else
      (if x2 = 8 then
        p_Mo_judgeName_b46 x1 σ
      else
        some σ))
def p_Mo_judgeName_b21 (x1 : Int32) (σ : Sto) (x2 : Int32) : Option Sto :=
  bd1 (p_Mo_declares x2) fun v_22 =>
    (if v_22 = 0 then
      p_Mo_judgeName_b33 x1 σ x2
    else
      bd1 (p_Mo_judgeMember σ x1) fun σ_30 =>
      p_Mo_judgeName_b33 x1 σ_30 x2)
def p_Mo_judgeName (σ : Sto) (x1 : Int32) : Option Sto :=
  if inR x1 124 then (if (σ.2.1 7 x1.toNatClampNeg) ≤ 0 then
      p_Mo_judgeName_b21 x1 σ (σ.2.1 7 x1.toNatClampNeg)
    else
      (if (5 : Int32) ≤ (σ.2.1 7 x1.toNatClampNeg) then
        p_Mo_judgeName_b21 x1 σ (σ.2.1 7 x1.toNatClampNeg)
      else
        bd1 (p_Mo_judgeClass σ x1) fun σ_18 =>
        p_Mo_judgeName_b21 x1 σ_18 (σ.2.1 7 x1.toNatClampNeg))) else none
abbrev w_Mo_judgeName : List Cond := Cond.code y_Mo_judgeName b_Mo_judgeName 3 none :: Tg
abbrev r_Mo_judgeName : Room := { frames := 4, cells := 0, slots := 0, locals := 90 }
theorem dv_Mo_judgeName : y_Mo_judgeName.cls = "LanguageServerModel" ∧ y_Mo_judgeName.cls ≠ "java/lang/invoke/MethodHandle" ∧ y_Mo_judgeName.cls ≠ "java/lang/invoke/VarHandle" ∧ (parseMethodDescriptor y_Mo_judgeName.desc).map (fun d => d.parameters.length) = some 1 := by decide +kernel
set_option maxHeartbeats 4000000 in
set_option maxRecDepth 100000 in
theorem c_Mo_judgeName (l : Launch) (K : Kst) (A : Nat → Nat) {σ : Sto} {x1 : Int32} {ss : Sto} (h : p_Mo_judgeName σ x1 = some ss) : Met l y_Mo_judgeName w_Mo_judgeName r_Mo_judgeName (va_Pc [.ref (A 0), .int x1] (YB K A σ)) (YQv K A ss) 0 0 (YF A) := by
  refine Met.ofW (cc := b_Mo_judgeName) (maxL := 3) (ret := none) (by decide) rfl ?_
  intro p e s m args below meth c s₁ B hml hv
  obtain ⟨rfl, hP, hK, hD⟩ := hv
  have hx := B.exec
  have hb := B.bytes
  have hr := B.returns
  have hts := atoms_spec (ws := w_Mo_judgeName) B.pre
  have hg : ∀ w ∈ Tg, w.before _ s = true := fun w q => hts w (List.mem_cons_of_mem _ q)
  have hown : s.vm.findClass "LanguageServerModel" = some m.cls := findClass_of_methodNamed B.named
  have hlocks := B.notSynchronized
  have hS : va_S (YF A) s.heap s.heap [] := va_S.rf
  have hl := lv_entry ([.ref (A 0), .int x1]) (n := 3) (Nat.le_of_ble_eq_true rfl)
  rw [lg_entry_eq]
  generalize (lg_sl ([.ref (A 0), .int x1]) ++ List.replicate (3 - (lg_sl ([.ref (A 0), .int x1])).length) Slot.unset).toArray = ls at hl ⊢
  have hl : lv_has ls 3 [(0, .ref (A 0)), (1, .int x1)] := hl
  generalize hargs : ([.ref (A 0), .int x1] : List Value).toArray = args at hg hts ⊢
  obtain ⟨Q, hQ⟩ : ∃ Q, Q = MQ below (YQv K A ss) args s 0 0 (YF A) := ⟨_, rfl⟩
  rw [← hQ]
  have hRet : ∀ (σ : Sto), some σ = some ss → ∀ (H : Heap) (locs : List Loc), va_P K.1 vwCl (wY K A σ) H → va_D (YF A) (wY K A σ) → va_S (YF A) s.heap H locs → ∀ (pc : Nat) (ls : Array Slot), decode b_Mo_judgeName pc = .ok (.return_, 1) → W p l e (headSpec w_Mo_judgeName r_Mo_judgeName).room s m args below meth c H locs 0 0 Q (F0 m pc ls []) := by
    intro σ h H locs hP hD hS pc ls hd
    cases h
    subst hQ
    exact W.vret hx hb hr (fun t ht hW => ⟨⟨(), rfl, trivial, by rw [ht]; exact hP, RK.warm hW hK, hD⟩, hS.F ht⟩) hS.2.2 hd
  clear hQ
  unfold p_Mo_judgeName at h
  have J_46 : ∀ (σ : Sto), p_Mo_judgeName_b46 x1 σ = some ss → ∀ (H : Heap) (locs : List Loc), va_P K.1 vwCl (wY K A σ) H → va_D (YF A) (wY K A σ) → va_S (YF A) s.heap H locs → ∀ ls : Array Slot, lv_has ls 3 [(0, .ref (A 0)), (1, .int x1)] → W p l e (headSpec w_Mo_judgeName r_Mo_judgeName).room s m args below meth c H locs 0 0 Q (F0 m 46 ls []) := by
    intro  σ h H locs hP hD hS ls hl
    rw [p_Mo_judgeName_b46] at h
    refine lv_aload_n hx hb d_Mo_judgeName_46 rfl (lv_at hl 0 rfl) ?_
    refine lv_iload_n hx hb d_Mo_judgeName_47 rfl (lv_at hl 1 rfl) ?_
    refine lv_iload_n hx hb d_Mo_judgeName_48 rfl (lv_at hl 1 rfl) ?_
    obtain ⟨v_49, e_49, h⟩ := bd1_some h
    refine Y_calli (va_runV (As := [.int x1, .int x1]) (rest := []) ⟨hx, hb, hml, hown, hts⟩ (c_Mo_locl l K A e_49) (cwV 2 hts (gd_V wd_1143 wd_1145 wp_67 wd_10 wd_1146) rfl rfl rfl dv_Mo_locl ⟨Nat.le_of_ble_eq_true rfl, Nat.le_of_ble_eq_true rfl⟩) (Y_pv_0 hK hP hD) rfl rfl hl.1 rfl (lv_room (Nat.le_of_ble_eq_true rfl)) d_Mo_judgeName_49 ⟨Nat.le_of_ble_eq_true rfl, Nat.le_of_ble_eq_true rfl⟩) hS (fun H locs hP hD hS => ?_)
    refine lv_if_lt (tgt := 64) hx hb d_Mo_judgeName_52 (by decide) (fun c_52 => ?_) (fun c_52 => ?_)
    · replace h := itp c_52 h
      refine lv_aload_n hx hb d_Mo_judgeName_64 rfl (lv_at hl 0 rfl) ?_
      refine gf_Mo_50 hx hb hg hown hK hP d_Mo_judgeName_65 ?_
      refine lv_iload_n hx hb d_Mo_judgeName_68 rfl (lv_at hl 1 rfl) ?_
      refine lv_iload_n hx hb d_Mo_judgeName_69 rfl (lv_at hl 1 rfl) ?_
      obtain ⟨i_70, h⟩ := itn h
      refine Ywa_14 hx hb hK hP hD hS i_70 d_Mo_judgeName_70 (fun H locs hP hD hS => ?_)
      exact hRet _ h _ _ hP hD hS _ _ d_Mo_judgeName_71
    · replace h := itf c_52 h
      refine lv_aload_n hx hb d_Mo_judgeName_55 rfl (lv_at hl 0 rfl) ?_
      refine lv_iload_n hx hb d_Mo_judgeName_56 rfl (lv_at hl 1 rfl) ?_
      refine lv_iconst (v := 5) hx hb d_Mo_judgeName_57 (by decide) ?_
      obtain ⟨σ_58, e_58, h⟩ := bd1_some h
      refine Y_callv (va_runV (As := [.int x1, .int 5]) (rest := []) ⟨hx, hb, hml, hown, hts⟩ (c_Mo_note l K A e_58) (cwV 2 hts (gd_V wd_1124 wd_1126 wp_63 wd_10 wd_1127) rfl rfl rfl dv_Mo_note ⟨Nat.le_of_ble_eq_true rfl, Nat.le_of_ble_eq_true rfl⟩) (Y_pv_0 hK hP hD) rfl rfl hl.1 rfl (lv_room (Nat.le_of_ble_eq_true rfl)) d_Mo_judgeName_58 ⟨Nat.le_of_ble_eq_true rfl, Nat.le_of_ble_eq_true rfl⟩) hS (fun H locs hP hD hS => ?_)
      refine lv_goto (tgt := 71) hx hb d_Mo_judgeName_61 (by decide) ?_
      exact hRet _ h _ _ hP hD hS _ _ d_Mo_judgeName_71
  have J_33 : ∀ (σ : Sto) (x2 : Int32), p_Mo_judgeName_b33 x1 σ x2 = some ss → ∀ (H : Heap) (locs : List Loc), va_P K.1 vwCl (wY K A σ) H → va_D (YF A) (wY K A σ) → va_S (YF A) s.heap H locs → ∀ ls : Array Slot, lv_has ls 3 [(0, .ref (A 0)), (1, .int x1), (2, .int x2)] → W p l e (headSpec w_Mo_judgeName r_Mo_judgeName).room s m args below meth c H locs 0 0 Q (F0 m 33 ls []) := by
    intro  σ x2 h H locs hP hD hS ls hl
    rw [p_Mo_judgeName_b33] at h
    refine lv_iload_n hx hb d_Mo_judgeName_33 rfl (lv_at hl 2 rfl) ?_
    refine lv_bipush (v := 7) hx hb d_Mo_judgeName_34 (by decide) ?_
    refine lv_icmp_eq (tgt := 46) hx hb d_Mo_judgeName_36 (by decide) (fun c_36 => ?_) (fun c_36 => ?_)
    · replace h := itp c_36 h
      exact J_46  _ h _ _ hP hD hS ls (lv_sub hl [0, 1] rfl)
    · replace h := itf c_36 h
      refine lv_iload_n hx hb d_Mo_judgeName_39 rfl (lv_at hl 2 rfl) ?_
      refine lv_bipush (v := 8) hx hb d_Mo_judgeName_40 (by decide) ?_
      refine lv_icmp_eq (tgt := 46) hx hb d_Mo_judgeName_42 (by decide) (fun c_42 => ?_) (fun c_42 => ?_)
      · replace h := itp c_42 h
        exact J_46  _ h _ _ hP hD hS ls (lv_sub hl [0, 1] rfl)
      · replace h := itf c_42 h
        exact hRet _ h _ _ hP hD hS _ _ d_Mo_judgeName_45
  have J_21 : ∀ (σ : Sto) (x2 : Int32), p_Mo_judgeName_b21 x1 σ x2 = some ss → ∀ (H : Heap) (locs : List Loc), va_P K.1 vwCl (wY K A σ) H → va_D (YF A) (wY K A σ) → va_S (YF A) s.heap H locs → ∀ ls : Array Slot, lv_has ls 3 [(0, .ref (A 0)), (1, .int x1), (2, .int x2)] → W p l e (headSpec w_Mo_judgeName r_Mo_judgeName).room s m args below meth c H locs 0 0 Q (F0 m 21 ls []) := by
    intro  σ x2 h H locs hP hD hS ls hl
    rw [p_Mo_judgeName_b21] at h
    refine lv_iload_n hx hb d_Mo_judgeName_21 rfl (lv_at hl 2 rfl) ?_
    obtain ⟨v_22, e_22, h⟩ := bd1_some h
    refine R_cpi (va_runS (As := [.int x2]) (rest := []) ⟨hx, hb, hml, hown, hts⟩ (c_Mo_declares l e_22) (va_cwS 1 hts (gd_S wd_1136 wd_1137 wd_10 wd_1138) rfl rfl rfl ds_Mo_declares ⟨Nat.le_of_ble_eq_true rfl, Nat.le_of_ble_eq_true rfl⟩) (P_ps hK.2) rfl rfl hl.1 rfl (lv_room (Nat.le_of_ble_eq_true rfl)) d_Mo_judgeName_22 ⟨Nat.le_of_ble_eq_true rfl, Nat.le_of_ble_eq_true rfl⟩) hP hD hS (fun H locs hP hD hS => ?_)
    refine lv_if_eq (tgt := 33) hx hb d_Mo_judgeName_25 (by decide) (fun c_25 => ?_) (fun c_25 => ?_)
    · replace h := itp c_25 h
      exact J_33  _ _ h _ _ hP hD hS ls (lv_sub hl [0, 1, 2] rfl)
    · replace h := itf c_25 h
      refine lv_aload_n hx hb d_Mo_judgeName_28 rfl (lv_at hl 0 rfl) ?_
      refine lv_iload_n hx hb d_Mo_judgeName_29 rfl (lv_at hl 1 rfl) ?_
      obtain ⟨σ_30, e_30, h⟩ := bd1_some h
      refine Y_callv (va_runV (As := [.int x1]) (rest := []) ⟨hx, hb, hml, hown, hts⟩ (c_Mo_judgeMember l K A e_30) (cwV 1 hts (gd_V wd_1139 wd_1141 wp_66 wd_10 wd_1142) rfl rfl rfl dv_Mo_judgeMember ⟨Nat.le_of_ble_eq_true rfl, Nat.le_of_ble_eq_true rfl⟩) (Y_pv_0 hK hP hD) rfl rfl hl.1 rfl (lv_room (Nat.le_of_ble_eq_true rfl)) d_Mo_judgeName_30 ⟨Nat.le_of_ble_eq_true rfl, Nat.le_of_ble_eq_true rfl⟩) hS (fun H locs hP hD hS => ?_)
      exact J_33  _ _ h _ _ hP hD hS ls (lv_sub hl [0, 1, 2] rfl)
  refine lv_aload_n hx hb d_Mo_judgeName_0 rfl (lv_at hl 0 rfl) ?_
  refine gf_Mo_29 hx hb hg hown hK hP d_Mo_judgeName_1 ?_
  refine lv_iload_n hx hb d_Mo_judgeName_4 rfl (lv_at hl 1 rfl) ?_
  obtain ⟨i_5, h⟩ := itn h
  refine Yra_7 hx hb hK hP i_5 d_Mo_judgeName_5 ?_
  refine lv_istore_n (lv' := [(2, .int (σ.2.1 7 x1.toNatClampNeg)), (0, .ref (A 0)), (1, .int x1)]) hx hb d_Mo_judgeName_6 rfl hl (by decide) rfl (fun ls hl => ?_)
  refine lv_iload_n hx hb d_Mo_judgeName_7 rfl (lv_at hl 0 rfl) ?_
  refine lv_if_le (tgt := 21) hx hb d_Mo_judgeName_8 (by decide) (fun c_8 => ?_) (fun c_8 => ?_)
  · replace h := itp c_8 h
    exact J_21  _ _ h _ _ hP hD hS ls (lv_sub hl [1, 2, 0] rfl)
  · replace h := itf c_8 h
    refine lv_iload_n hx hb d_Mo_judgeName_11 rfl (lv_at hl 0 rfl) ?_
    refine lv_iconst (v := 5) hx hb d_Mo_judgeName_12 (by decide) ?_
    refine lv_icmp_ge (tgt := 21) hx hb d_Mo_judgeName_13 (by decide) (fun c_13 => ?_) (fun c_13 => ?_)
    · replace h := itp c_13 h
      exact J_21  _ _ h _ _ hP hD hS ls (lv_sub hl [1, 2, 0] rfl)
    · replace h := itf c_13 h
      refine lv_aload_n hx hb d_Mo_judgeName_16 rfl (lv_at hl 1 rfl) ?_
      refine lv_iload_n hx hb d_Mo_judgeName_17 rfl (lv_at hl 2 rfl) ?_
      obtain ⟨σ_18, e_18, h⟩ := bd1_some h
      refine Y_callv (va_runV (As := [.int x1]) (rest := []) ⟨hx, hb, hml, hown, hts⟩ (c_Mo_judgeClass l K A e_18) (cwV 1 hts (gd_V wd_1116 wd_1118 wp_61 wd_10 wd_1119) rfl rfl rfl dv_Mo_judgeClass ⟨Nat.le_of_ble_eq_true rfl, Nat.le_of_ble_eq_true rfl⟩) (Y_pv_0 hK hP hD) rfl rfl hl.1 rfl (lv_room (Nat.le_of_ble_eq_true rfl)) d_Mo_judgeName_18 ⟨Nat.le_of_ble_eq_true rfl, Nat.le_of_ble_eq_true rfl⟩) hS (fun H locs hP hD hS => ?_)
      exact J_21  _ _ h _ _ hP hD hS ls (lv_sub hl [1, 2, 0] rfl)
def p_Mo_fits_b24 (σ : Sto) (x1 : Int32) (x2 : Int32) : Option Int32 :=
  (if x1 = x2 then
      some 1
    else
      some 0)
def p_Mo_fits_L37 (σ : Sto) (x1 : Int32) (x2 : Int32) : Nat → Int32 → Option Int32
  | 0, _ => none
  | n + 1, x3 =>
    (if x3 < 0 then
        some 0
      else
        (if x3 = x2 then
          some 1
        else
          bd1 (p_Mo_parent σ x3) fun v_50 =>
          p_Mo_fits_L37 σ x1 x2 n v_50))
def p_Mo_fits (σ : Sto) (x1 : Int32) (x2 : Int32) : Option Int32 :=
  (if x1 = (-2) then
      some 1
    else
      (if x2 = (-2) then
        some 1
      else
        (if x1 = (-1) then
          p_Mo_fits_b24 σ x1 x2
        else
          (if x2 = (-1) then
            p_Mo_fits_b24 σ x1 x2
          else
            p_Mo_fits_L37 σ x1 x2 FU x1))))
abbrev w_Mo_fits : List Cond := Cond.code y_Mo_fits b_Mo_fits 4 (some .boolean) :: Tg
abbrev r_Mo_fits : Room := { frames := 4, cells := 0, slots := 0, locals := 88 }
theorem dv_Mo_fits : y_Mo_fits.cls = "LanguageServerModel" ∧ y_Mo_fits.cls ≠ "java/lang/invoke/MethodHandle" ∧ y_Mo_fits.cls ≠ "java/lang/invoke/VarHandle" ∧ (parseMethodDescriptor y_Mo_fits.desc).map (fun d => d.parameters.length) = some 2 := by decide +kernel
set_option maxHeartbeats 4000000 in
set_option maxRecDepth 100000 in
theorem c_Mo_fits (l : Launch) (K : Kst) (A : Nat → Nat) {σ : Sto} {x1 : Int32} {x2 : Int32} {rr : Int32} (h : p_Mo_fits σ x1 x2 = some rr) : Met l y_Mo_fits w_Mo_fits r_Mo_fits (va_Pc [.ref (A 0), .int x1, .int x2] (YB K A σ)) (YQi K A rr σ) 0 0 (YF A) := by
  refine Met.ofW (cc := b_Mo_fits) (maxL := 4) (ret := (some .boolean)) (by decide) rfl ?_
  intro p e s m args below meth c s₁ B hml hv
  obtain ⟨rfl, hP, hK, hD⟩ := hv
  have hx := B.exec
  have hb := B.bytes
  have hr := B.returns
  have hts := atoms_spec (ws := w_Mo_fits) B.pre
  have hg : ∀ w ∈ Tg, w.before _ s = true := fun w q => hts w (List.mem_cons_of_mem _ q)
  have hown : s.vm.findClass "LanguageServerModel" = some m.cls := findClass_of_methodNamed B.named
  have hlocks := B.notSynchronized
  have hS : va_S (YF A) s.heap s.heap [] := va_S.rf
  have hl := lv_entry ([.ref (A 0), .int x1, .int x2]) (n := 4) (Nat.le_of_ble_eq_true rfl)
  rw [lg_entry_eq]
  generalize (lg_sl ([.ref (A 0), .int x1, .int x2]) ++ List.replicate (4 - (lg_sl ([.ref (A 0), .int x1, .int x2])).length) Slot.unset).toArray = ls at hl ⊢
  have hl : lv_has ls 4 [(0, .ref (A 0)), (1, .int x1), (2, .int x2)] := hl
  generalize hargs : ([.ref (A 0), .int x1, .int x2] : List Value).toArray = args at hg hts ⊢
  obtain ⟨Q, hQ⟩ : ∃ Q, Q = MQ below (YQi K A rr σ) args s 0 0 (YF A) := ⟨_, rfl⟩
  rw [← hQ]
  have hRet : ∀ (v : Int32), (narrow .boolean (.int v) = .int v) → some v = some rr → ∀ (H : Heap) (locs : List Loc), va_P K.1 vwCl (wY K A σ) H → va_D (YF A) (wY K A σ) → va_S (YF A) s.heap H locs → ∀ (pc : Nat) (ls : Array Slot), decode b_Mo_fits pc = .ok (.ireturn, 1) → W p l e (headSpec w_Mo_fits r_Mo_fits).room s m args below meth c H locs 0 0 Q (F0 m pc ls [.int v]) := by
    intro v hn h H locs hP hD hS pc ls hd
    cases h
    subst hQ
    exact W.zret hx hb hr hn (fun t ht hW => ⟨⟨_, (), rfl, rfl, by rw [ht]; exact hP, RK.warm hW hK, hD⟩, hS.F ht⟩) hS.2.2 hd
  clear hQ
  unfold p_Mo_fits at h
  have J_24 : p_Mo_fits_b24 σ x1 x2 = some rr → ∀ (H : Heap) (locs : List Loc), va_P K.1 vwCl (wY K A σ) H → va_D (YF A) (wY K A σ) → va_S (YF A) s.heap H locs → ∀ ls : Array Slot, lv_has ls 4 [(1, .int x1), (2, .int x2)] → W p l e (headSpec w_Mo_fits r_Mo_fits).room s m args below meth c H locs 0 0 Q (F0 m 24 ls []) := by
    intro   h H locs hP hD hS ls hl
    rw [p_Mo_fits_b24] at h
    refine lv_iload_n hx hb d_Mo_fits_24 rfl (lv_at hl 0 rfl) ?_
    refine lv_iload_n hx hb d_Mo_fits_25 rfl (lv_at hl 1 rfl) ?_
    refine lv_icmp_ne (tgt := 33) hx hb d_Mo_fits_26 (by decide) (fun c_26 => ?_) (fun c_26 => ?_)
    · replace h := itf c_26 h
      refine lv_iconst (v := 0) hx hb d_Mo_fits_33 (by decide) ?_
      exact hRet _ rfl h _ _ hP hD hS _ _ d_Mo_fits_34
    · replace h := itp c_26 h
      refine lv_iconst (v := 1) hx hb d_Mo_fits_29 (by decide) ?_
      refine lv_goto (tgt := 34) hx hb d_Mo_fits_30 (by decide) ?_
      exact hRet _ rfl h _ _ hP hD hS _ _ d_Mo_fits_34
  have L_37 : ∀ (n : Nat) (x3 : Int32), p_Mo_fits_L37 σ x1 x2 n x3 = some rr → ∀ (H : Heap) (locs : List Loc), va_P K.1 vwCl (wY K A σ) H → va_D (YF A) (wY K A σ) → va_S (YF A) s.heap H locs → ∀ ls : Array Slot, lv_has ls 4 [(0, .ref (A 0)), (2, .int x2), (3, .int x3)] → W p l e (headSpec w_Mo_fits r_Mo_fits).room s m args below meth c H locs 0 0 Q (F0 m 37 ls []) := by
    intro n
    induction n with
    | zero => intro _ h; cases h
    | succ n ih =>
      intro x3 h H locs hP hD hS ls hl
      rw [p_Mo_fits_L37] at h
      refine lv_iload_n hx hb d_Mo_fits_37 rfl (lv_at hl 2 rfl) ?_
      refine lv_if_lt (tgt := 57) hx hb d_Mo_fits_38 (by decide) (fun c_38 => ?_) (fun c_38 => ?_)
      · replace h := itp c_38 h
        refine lv_iconst (v := 0) hx hb d_Mo_fits_57 (by decide) ?_
        exact hRet _ rfl h _ _ hP hD hS _ _ d_Mo_fits_58
      · replace h := itf c_38 h
        refine lv_iload_n hx hb d_Mo_fits_41 rfl (lv_at hl 2 rfl) ?_
        refine lv_iload_n hx hb d_Mo_fits_42 rfl (lv_at hl 1 rfl) ?_
        refine lv_icmp_ne (tgt := 48) hx hb d_Mo_fits_43 (by decide) (fun c_43 => ?_) (fun c_43 => ?_)
        · replace h := itf c_43 h
          refine lv_aload_n hx hb d_Mo_fits_48 rfl (lv_at hl 0 rfl) ?_
          refine lv_iload_n hx hb d_Mo_fits_49 rfl (lv_at hl 2 rfl) ?_
          obtain ⟨v_50, e_50, h⟩ := bd1_some h
          refine Y_calli (va_runV (As := [.int x3]) (rest := []) ⟨hx, hb, hml, hown, hts⟩ (c_Mo_parent l K A e_50) (cwV 1 hts (gd_V wd_1171 wd_1173 wp_74 wd_10 wd_1174) rfl rfl rfl dv_Mo_parent ⟨Nat.le_of_ble_eq_true rfl, Nat.le_of_ble_eq_true rfl⟩) (Y_pv_0 hK hP hD) rfl rfl hl.1 rfl (lv_room (Nat.le_of_ble_eq_true rfl)) d_Mo_fits_50 ⟨Nat.le_of_ble_eq_true rfl, Nat.le_of_ble_eq_true rfl⟩) hS (fun H locs hP hD hS => ?_)
          refine lv_istore_n (lv' := [(3, .int v_50), (0, .ref (A 0)), (2, .int x2)]) hx hb d_Mo_fits_53 rfl hl (by decide) rfl (fun ls hl => ?_)
          refine lv_goto (tgt := 37) hx hb d_Mo_fits_54 (by decide) ?_
          exact ih _ h _ _ hP hD hS ls (lv_sub hl [1, 2, 0] rfl)
        · replace h := itp c_43 h
          refine lv_iconst (v := 1) hx hb d_Mo_fits_46 (by decide) ?_
          exact hRet _ rfl h _ _ hP hD hS _ _ d_Mo_fits_47
  refine lv_iload_n hx hb d_Mo_fits_0 rfl (lv_at hl 1 rfl) ?_
  refine lv_bipush (v := (-2)) hx hb d_Mo_fits_1 (by decide) ?_
  refine lv_icmp_eq (tgt := 12) hx hb d_Mo_fits_3 (by decide) (fun c_3 => ?_) (fun c_3 => ?_)
  · replace h := itp c_3 h
    refine lv_iconst (v := 1) hx hb d_Mo_fits_12 (by decide) ?_
    exact hRet _ rfl h _ _ hP hD hS _ _ d_Mo_fits_13
  · replace h := itf c_3 h
    refine lv_iload_n hx hb d_Mo_fits_6 rfl (lv_at hl 2 rfl) ?_
    refine lv_bipush (v := (-2)) hx hb d_Mo_fits_7 (by decide) ?_
    refine lv_icmp_ne (tgt := 14) hx hb d_Mo_fits_9 (by decide) (fun c_9 => ?_) (fun c_9 => ?_)
    · replace h := itf c_9 h
      refine lv_iload_n hx hb d_Mo_fits_14 rfl (lv_at hl 1 rfl) ?_
      refine lv_iconst (v := (-1)) hx hb d_Mo_fits_15 (by decide) ?_
      refine lv_icmp_eq (tgt := 24) hx hb d_Mo_fits_16 (by decide) (fun c_16 => ?_) (fun c_16 => ?_)
      · replace h := itp c_16 h
        exact J_24   h _ _ hP hD hS ls (lv_sub hl [1, 2] rfl)
      · replace h := itf c_16 h
        refine lv_iload_n hx hb d_Mo_fits_19 rfl (lv_at hl 2 rfl) ?_
        refine lv_iconst (v := (-1)) hx hb d_Mo_fits_20 (by decide) ?_
        refine lv_icmp_ne (tgt := 35) hx hb d_Mo_fits_21 (by decide) (fun c_21 => ?_) (fun c_21 => ?_)
        · replace h := itf c_21 h
          refine lv_iload_n hx hb d_Mo_fits_35 rfl (lv_at hl 1 rfl) ?_
          refine lv_istore_n (lv' := [(3, .int x1), (0, .ref (A 0)), (1, .int x1), (2, .int x2)]) hx hb d_Mo_fits_36 rfl hl (by decide) rfl (fun ls hl => ?_)
          exact L_37  FU _ h _ _ hP hD hS ls (lv_sub hl [1, 3, 0] rfl)
        · replace h := itp c_21 h
          exact J_24   h _ _ hP hD hS ls (lv_sub hl [1, 2] rfl)
    · replace h := itp c_9 h
      refine lv_iconst (v := 1) hx hb d_Mo_fits_12 (by decide) ?_
      exact hRet _ rfl h _ _ hP hD hS _ _ d_Mo_fits_13
def p_Mo_should (σ : Sto) (x1 : Int32) (x2 : Int32) (x3 : Int32) : Option Sto :=
  bd1 (p_Mo_fits σ x1 x2) fun v_3 =>
    (if v_3 = 0 then
      bd1 (p_Mo_note σ x3 9) fun σ_13 =>
      some σ_13
    else
      some σ)
abbrev w_Mo_should : List Cond := Cond.code y_Mo_should b_Mo_should 4 none :: Tg
abbrev r_Mo_should : Room := { frames := 5, cells := 0, slots := 0, locals := 111 }
theorem dv_Mo_should : y_Mo_should.cls = "LanguageServerModel" ∧ y_Mo_should.cls ≠ "java/lang/invoke/MethodHandle" ∧ y_Mo_should.cls ≠ "java/lang/invoke/VarHandle" ∧ (parseMethodDescriptor y_Mo_should.desc).map (fun d => d.parameters.length) = some 3 := by decide +kernel
set_option maxHeartbeats 4000000 in
set_option maxRecDepth 100000 in
theorem c_Mo_should (l : Launch) (K : Kst) (A : Nat → Nat) {σ : Sto} {x1 : Int32} {x2 : Int32} {x3 : Int32} {ss : Sto} (h : p_Mo_should σ x1 x2 x3 = some ss) : Met l y_Mo_should w_Mo_should r_Mo_should (va_Pc [.ref (A 0), .int x1, .int x2, .int x3] (YB K A σ)) (YQv K A ss) 0 0 (YF A) := by
  refine Met.ofW (cc := b_Mo_should) (maxL := 4) (ret := none) (by decide) rfl ?_
  intro p e s m args below meth c s₁ B hml hv
  obtain ⟨rfl, hP, hK, hD⟩ := hv
  have hx := B.exec
  have hb := B.bytes
  have hr := B.returns
  have hts := atoms_spec (ws := w_Mo_should) B.pre
  have hg : ∀ w ∈ Tg, w.before _ s = true := fun w q => hts w (List.mem_cons_of_mem _ q)
  have hown : s.vm.findClass "LanguageServerModel" = some m.cls := findClass_of_methodNamed B.named
  have hlocks := B.notSynchronized
  have hS : va_S (YF A) s.heap s.heap [] := va_S.rf
  have hl := lv_entry ([.ref (A 0), .int x1, .int x2, .int x3]) (n := 4) (Nat.le_of_ble_eq_true rfl)
  rw [lg_entry_eq]
  generalize (lg_sl ([.ref (A 0), .int x1, .int x2, .int x3]) ++ List.replicate (4 - (lg_sl ([.ref (A 0), .int x1, .int x2, .int x3])).length) Slot.unset).toArray = ls at hl ⊢
  have hl : lv_has ls 4 [(0, .ref (A 0)), (1, .int x1), (2, .int x2), (3, .int x3)] := hl
  generalize hargs : ([.ref (A 0), .int x1, .int x2, .int x3] : List Value).toArray = args at hg hts ⊢
  obtain ⟨Q, hQ⟩ : ∃ Q, Q = MQ below (YQv K A ss) args s 0 0 (YF A) := ⟨_, rfl⟩
  rw [← hQ]
  have hRet : ∀ (σ : Sto), some σ = some ss → ∀ (H : Heap) (locs : List Loc), va_P K.1 vwCl (wY K A σ) H → va_D (YF A) (wY K A σ) → va_S (YF A) s.heap H locs → ∀ (pc : Nat) (ls : Array Slot), decode b_Mo_should pc = .ok (.return_, 1) → W p l e (headSpec w_Mo_should r_Mo_should).room s m args below meth c H locs 0 0 Q (F0 m pc ls []) := by
    intro σ h H locs hP hD hS pc ls hd
    cases h
    subst hQ
    exact W.vret hx hb hr (fun t ht hW => ⟨⟨(), rfl, trivial, by rw [ht]; exact hP, RK.warm hW hK, hD⟩, hS.F ht⟩) hS.2.2 hd
  clear hQ
  unfold p_Mo_should at h
  refine lv_aload_n hx hb d_Mo_should_0 rfl (lv_at hl 0 rfl) ?_
  refine lv_iload_n hx hb d_Mo_should_1 rfl (lv_at hl 1 rfl) ?_
  refine lv_iload_n hx hb d_Mo_should_2 rfl (lv_at hl 2 rfl) ?_
  obtain ⟨v_3, e_3, h⟩ := bd1_some h
  refine Y_calli (va_runV (As := [.int x1, .int x2]) (rest := []) ⟨hx, hb, hml, hown, hts⟩ (c_Mo_fits l K A e_3) (cwV 2 hts (gd_V wd_1199 wd_1201 wp_81 wd_10 wd_1202) rfl rfl rfl dv_Mo_fits ⟨Nat.le_of_ble_eq_true rfl, Nat.le_of_ble_eq_true rfl⟩) (Y_pv_0 hK hP hD) rfl rfl hl.1 rfl (lv_room (Nat.le_of_ble_eq_true rfl)) d_Mo_should_3 ⟨Nat.le_of_ble_eq_true rfl, Nat.le_of_ble_eq_true rfl⟩) hS (fun H locs hP hD hS => ?_)
  refine lv_if_ne (tgt := 16) hx hb d_Mo_should_6 (by decide) (fun c_6 => ?_) (fun c_6 => ?_)
  · replace h := itf c_6 h
    exact hRet _ h _ _ hP hD hS _ _ d_Mo_should_16
  · replace h := itp c_6 h
    refine lv_aload_n hx hb d_Mo_should_9 rfl (lv_at hl 0 rfl) ?_
    refine lv_iload_n hx hb d_Mo_should_10 rfl (lv_at hl 3 rfl) ?_
    refine lv_bipush (v := 9) hx hb d_Mo_should_11 (by decide) ?_
    obtain ⟨σ_13, e_13, h⟩ := bd1_some h
    refine Y_callv (va_runV (As := [.int x3, .int 9]) (rest := []) ⟨hx, hb, hml, hown, hts⟩ (c_Mo_note l K A e_13) (cwV 2 hts (gd_V wd_1124 wd_1126 wp_63 wd_10 wd_1127) rfl rfl rfl dv_Mo_note ⟨Nat.le_of_ble_eq_true rfl, Nat.le_of_ble_eq_true rfl⟩) (Y_pv_0 hK hP hD) rfl rfl hl.1 rfl (lv_room (Nat.le_of_ble_eq_true rfl)) d_Mo_should_13 ⟨Nat.le_of_ble_eq_true rfl, Nat.le_of_ble_eq_true rfl⟩) hS (fun H locs hP hD hS => ?_)
    exact hRet _ h _ _ hP hD hS _ _ d_Mo_should_16
def p_Mo_start (σ : Sto) (x1 : Int32) : Option Sto :=
  if inR (σ.1 7) 10 then if inR ((sA σ 17 ((σ.1 7).toNatClampNeg) x1).1 7) 10 then if inR ((sA (sA σ 17 ((σ.1 7).toNatClampNeg) x1) 18 (((sA σ 17 ((σ.1 7).toNatClampNeg) x1).1 7).toNatClampNeg) x1).1 7) 10 then if inR ((sA (sA (sA σ 17 ((σ.1 7).toNatClampNeg) x1) 18 (((sA σ 17 ((σ.1 7).toNatClampNeg) x1).1 7).toNatClampNeg) x1) 20 (((sA (sA σ 17 ((σ.1 7).toNatClampNeg) x1) 18 (((sA σ 17 ((σ.1 7).toNatClampNeg) x1).1 7).toNatClampNeg) x1).1 7).toNatClampNeg) (vp_nar .boolean 0)).1 7) 10 then some (sA (sA (sA (sA σ 17 ((σ.1 7).toNatClampNeg) x1) 18 (((sA σ 17 ((σ.1 7).toNatClampNeg) x1).1 7).toNatClampNeg) x1) 20 (((sA (sA σ 17 ((σ.1 7).toNatClampNeg) x1) 18 (((sA σ 17 ((σ.1 7).toNatClampNeg) x1).1 7).toNatClampNeg) x1).1 7).toNatClampNeg) (vp_nar .boolean 0)) 19 (((sA (sA (sA σ 17 ((σ.1 7).toNatClampNeg) x1) 18 (((sA σ 17 ((σ.1 7).toNatClampNeg) x1).1 7).toNatClampNeg) x1) 20 (((sA (sA σ 17 ((σ.1 7).toNatClampNeg) x1) 18 (((sA σ 17 ((σ.1 7).toNatClampNeg) x1).1 7).toNatClampNeg) x1).1 7).toNatClampNeg) (vp_nar .boolean 0)).1 7).toNatClampNeg) (-2)) else none else none else none else none
abbrev w_Mo_start : List Cond := Cond.code y_Mo_start b_Mo_start 2 none :: Tg
abbrev r_Mo_start : Room := { frames := 0, cells := 0, slots := 0, locals := 0 }
theorem dv_Mo_start : y_Mo_start.cls = "LanguageServerModel" ∧ y_Mo_start.cls ≠ "java/lang/invoke/MethodHandle" ∧ y_Mo_start.cls ≠ "java/lang/invoke/VarHandle" ∧ (parseMethodDescriptor y_Mo_start.desc).map (fun d => d.parameters.length) = some 1 := by decide +kernel
set_option maxHeartbeats 4000000 in
set_option maxRecDepth 100000 in
theorem c_Mo_start (l : Launch) (K : Kst) (A : Nat → Nat) {σ : Sto} {x1 : Int32} {ss : Sto} (h : p_Mo_start σ x1 = some ss) : Met l y_Mo_start w_Mo_start r_Mo_start (va_Pc [.ref (A 0), .int x1] (YB K A σ)) (YQv K A ss) 0 0 (YF A) := by
  refine Met.ofW (cc := b_Mo_start) (maxL := 2) (ret := none) (by decide) rfl ?_
  intro p e s m args below meth c s₁ B hml hv
  obtain ⟨rfl, hP, hK, hD⟩ := hv
  have hx := B.exec
  have hb := B.bytes
  have hr := B.returns
  have hts := atoms_spec (ws := w_Mo_start) B.pre
  have hg : ∀ w ∈ Tg, w.before _ s = true := fun w q => hts w (List.mem_cons_of_mem _ q)
  have hown : s.vm.findClass "LanguageServerModel" = some m.cls := findClass_of_methodNamed B.named
  have hlocks := B.notSynchronized
  have hS : va_S (YF A) s.heap s.heap [] := va_S.rf
  have hl := lv_entry ([.ref (A 0), .int x1]) (n := 2) (Nat.le_of_ble_eq_true rfl)
  rw [lg_entry_eq]
  generalize (lg_sl ([.ref (A 0), .int x1]) ++ List.replicate (2 - (lg_sl ([.ref (A 0), .int x1])).length) Slot.unset).toArray = ls at hl ⊢
  have hl : lv_has ls 2 [(0, .ref (A 0)), (1, .int x1)] := hl
  generalize hargs : ([.ref (A 0), .int x1] : List Value).toArray = args at hg hts ⊢
  obtain ⟨Q, hQ⟩ : ∃ Q, Q = MQ below (YQv K A ss) args s 0 0 (YF A) := ⟨_, rfl⟩
  rw [← hQ]
  have hRet : ∀ (σ : Sto), some σ = some ss → ∀ (H : Heap) (locs : List Loc), va_P K.1 vwCl (wY K A σ) H → va_D (YF A) (wY K A σ) → va_S (YF A) s.heap H locs → ∀ (pc : Nat) (ls : Array Slot), decode b_Mo_start pc = .ok (.return_, 1) → W p l e (headSpec w_Mo_start r_Mo_start).room s m args below meth c H locs 0 0 Q (F0 m pc ls []) := by
    intro σ h H locs hP hD hS pc ls hd
    cases h
    subst hQ
    exact W.vret hx hb hr (fun t ht hW => ⟨⟨(), rfl, trivial, by rw [ht]; exact hP, RK.warm hW hK, hD⟩, hS.F ht⟩) hS.2.2 hd
  clear hQ
  unfold p_Mo_start at h
  refine lv_aload_n hx hb d_Mo_start_0 rfl (lv_at hl 0 rfl) ?_
  refine gf_Mo_59 hx hb hg hown hK hP d_Mo_start_1 ?_
  refine lv_aload_n hx hb d_Mo_start_4 rfl (lv_at hl 0 rfl) ?_
  refine gf_Mo_148 hx hb hg hown hK hP d_Mo_start_5 ?_
  refine lv_iload_n hx hb d_Mo_start_8 rfl (lv_at hl 1 rfl) ?_
  obtain ⟨i_9, h⟩ := itn h
  refine Ywa_17 hx hb hK hP hD hS i_9 d_Mo_start_9 (fun H locs hP hD hS => ?_)
  refine lv_aload_n hx hb d_Mo_start_10 rfl (lv_at hl 0 rfl) ?_
  refine gf_Mo_62 hx hb hg hown hK hP d_Mo_start_11 ?_
  refine lv_aload_n hx hb d_Mo_start_14 rfl (lv_at hl 0 rfl) ?_
  refine gf_Mo_148 hx hb hg hown hK hP d_Mo_start_15 ?_
  refine lv_iload_n hx hb d_Mo_start_18 rfl (lv_at hl 1 rfl) ?_
  obtain ⟨i_19, h⟩ := itn h
  refine Ywa_18 hx hb hK hP hD hS i_19 d_Mo_start_19 (fun H locs hP hD hS => ?_)
  refine lv_aload_n hx hb d_Mo_start_20 rfl (lv_at hl 0 rfl) ?_
  refine gf_Mo_68 hx hb hg hown hK hP d_Mo_start_21 ?_
  refine lv_aload_n hx hb d_Mo_start_24 rfl (lv_at hl 0 rfl) ?_
  refine gf_Mo_148 hx hb hg hown hK hP d_Mo_start_25 ?_
  refine lv_iconst (v := 0) hx hb d_Mo_start_28 (by decide) ?_
  obtain ⟨i_29, h⟩ := itn h
  refine Ywa_20 hx hb hK hP hD hS i_29 d_Mo_start_29 (fun H locs hP hD hS => ?_)
  refine lv_aload_n hx hb d_Mo_start_30 rfl (lv_at hl 0 rfl) ?_
  refine gf_Mo_65 hx hb hg hown hK hP d_Mo_start_31 ?_
  refine lv_aload_n hx hb d_Mo_start_34 rfl (lv_at hl 0 rfl) ?_
  refine gf_Mo_148 hx hb hg hown hK hP d_Mo_start_35 ?_
  refine lv_bipush (v := (-2)) hx hb d_Mo_start_38 (by decide) ?_
  obtain ⟨i_40, h⟩ := itn h
  refine Ywa_19 hx hb hK hP hD hS i_40 d_Mo_start_40 (fun H locs hP hD hS => ?_)
  exact hRet _ h _ _ hP hD hS _ _ d_Mo_start_41
def p_Mo_arguments_b70 (σ : Sto) (x1 : Int32) (k24 : Int32 → Int32 → Int32 → Option Int32) (x2 : Int32) (x3 : Int32) (x4 : Int32) : Option Int32 :=
  if inR x4 124 then (if (σ.2.1 3 x4.toNatClampNeg) = 44 then
      (if x3 = 0 then
        k24 (x2 + 1) x3 (x4 + 1)
      else
        k24 x2 x3 (x4 + 1))
    else
      k24 x2 x3 (x4 + 1)) else none
def p_Mo_arguments_b55 (σ : Sto) (x1 : Int32) (k24 : Int32 → Int32 → Int32 → Option Int32) (x2 : Int32) (x3 : Int32) (x4 : Int32) : Option Int32 :=
  if inR x4 124 then (if (σ.2.1 3 x4.toNatClampNeg) = 41 then
      p_Mo_arguments_b70 σ x1 k24 x2 (x3 + (-1)) x4
    else
      p_Mo_arguments_b70 σ x1 k24 x2 x3 x4) else none
def p_Mo_arguments_b40 (σ : Sto) (x1 : Int32) (k24 : Int32 → Int32 → Int32 → Option Int32) (x2 : Int32) (x3 : Int32) (x4 : Int32) : Option Int32 :=
  if inR x4 124 then (if (σ.2.1 3 x4.toNatClampNeg) = 40 then
      p_Mo_arguments_b55 σ x1 k24 x2 (x3 + 1) x4
    else
      p_Mo_arguments_b55 σ x1 k24 x2 x3 x4) else none
def p_Mo_arguments_L24 (σ : Sto) (x1 : Int32) : Nat → Int32 → Int32 → Int32 → Option Int32
  | 0, _, _, _ => none
  | n + 1, x2, x3, x4 =>
    if inR x4 124 then (if (σ.2.1 3 x4.toNatClampNeg) = 41 then
        (if x3 ≤ 0 then
          some x2
        else
          p_Mo_arguments_b40 σ x1 (p_Mo_arguments_L24 σ x1 n) x2 x3 x4)
      else
        p_Mo_arguments_b40 σ x1 (p_Mo_arguments_L24 σ x1 n) x2 x3 x4) else none
def p_Mo_arguments (σ : Sto) (x1 : Int32) : Option Int32 :=
  if inR (x1 + 1) 124 then (if (σ.2.1 3 ((x1 + 1).toNatClampNeg)) = 41 then
      some 0
    else
      p_Mo_arguments_L24 σ x1 FU 1 0 (x1 + 1)) else none
abbrev w_Mo_arguments : List Cond := Cond.code y_Mo_arguments b_Mo_arguments 5 (some .int) :: Tg
abbrev r_Mo_arguments : Room := { frames := 0, cells := 0, slots := 0, locals := 0 }
theorem dv_Mo_arguments : y_Mo_arguments.cls = "LanguageServerModel" ∧ y_Mo_arguments.cls ≠ "java/lang/invoke/MethodHandle" ∧ y_Mo_arguments.cls ≠ "java/lang/invoke/VarHandle" ∧ (parseMethodDescriptor y_Mo_arguments.desc).map (fun d => d.parameters.length) = some 1 := by decide +kernel
set_option maxHeartbeats 4000000 in
set_option maxRecDepth 100000 in
theorem c_Mo_arguments (l : Launch) (K : Kst) (A : Nat → Nat) {σ : Sto} {x1 : Int32} {rr : Int32} (h : p_Mo_arguments σ x1 = some rr) : Met l y_Mo_arguments w_Mo_arguments r_Mo_arguments (va_Pc [.ref (A 0), .int x1] (YB K A σ)) (YQi K A rr σ) 0 0 (YF A) := by
  refine Met.ofW (cc := b_Mo_arguments) (maxL := 5) (ret := (some .int)) (by decide) rfl ?_
  intro p e s m args below meth c s₁ B hml hv
  obtain ⟨rfl, hP, hK, hD⟩ := hv
  have hx := B.exec
  have hb := B.bytes
  have hr := B.returns
  have hts := atoms_spec (ws := w_Mo_arguments) B.pre
  have hg : ∀ w ∈ Tg, w.before _ s = true := fun w q => hts w (List.mem_cons_of_mem _ q)
  have hown : s.vm.findClass "LanguageServerModel" = some m.cls := findClass_of_methodNamed B.named
  have hlocks := B.notSynchronized
  have hS : va_S (YF A) s.heap s.heap [] := va_S.rf
  have hl := lv_entry ([.ref (A 0), .int x1]) (n := 5) (Nat.le_of_ble_eq_true rfl)
  rw [lg_entry_eq]
  generalize (lg_sl ([.ref (A 0), .int x1]) ++ List.replicate (5 - (lg_sl ([.ref (A 0), .int x1])).length) Slot.unset).toArray = ls at hl ⊢
  have hl : lv_has ls 5 [(0, .ref (A 0)), (1, .int x1)] := hl
  generalize hargs : ([.ref (A 0), .int x1] : List Value).toArray = args at hg hts ⊢
  obtain ⟨Q, hQ⟩ : ∃ Q, Q = MQ below (YQi K A rr σ) args s 0 0 (YF A) := ⟨_, rfl⟩
  rw [← hQ]
  have hRet : ∀ (v : Int32), some v = some rr → ∀ (H : Heap) (locs : List Loc), va_P K.1 vwCl (wY K A σ) H → va_D (YF A) (wY K A σ) → va_S (YF A) s.heap H locs → ∀ (pc : Nat) (ls : Array Slot), decode b_Mo_arguments pc = .ok (.ireturn, 1) → W p l e (headSpec w_Mo_arguments r_Mo_arguments).room s m args below meth c H locs 0 0 Q (F0 m pc ls [.int v]) := by
    intro v h H locs hP hD hS pc ls hd
    cases h
    subst hQ
    exact W.iret hx hb hr (fun t ht hW => ⟨⟨_, (), rfl, rfl, by rw [ht]; exact hP, RK.warm hW hK, hD⟩, hS.F ht⟩) hS.2.2 hd
  clear hQ
  unfold p_Mo_arguments at h
  have J_70 : ∀ (k24 : Int32 → Int32 → Int32 → Option Int32) (hk24 : ∀ (x2 : Int32) (x3 : Int32) (x4 : Int32), k24 x2 x3 x4 = some rr → ∀ (H : Heap) (locs : List Loc), va_P K.1 vwCl (wY K A σ) H → va_D (YF A) (wY K A σ) → va_S (YF A) s.heap H locs → ∀ ls : Array Slot, lv_has ls 5 [(0, .ref (A 0)), (2, .int x2), (3, .int x3), (4, .int x4)] → W p l e (headSpec w_Mo_arguments r_Mo_arguments).room s m args below meth c H locs 0 0 Q (F0 m 24 ls [])) (x2 : Int32) (x3 : Int32) (x4 : Int32), p_Mo_arguments_b70 σ x1 k24 x2 x3 x4 = some rr → ∀ (H : Heap) (locs : List Loc), va_P K.1 vwCl (wY K A σ) H → va_D (YF A) (wY K A σ) → va_S (YF A) s.heap H locs → ∀ ls : Array Slot, lv_has ls 5 [(0, .ref (A 0)), (2, .int x2), (3, .int x3), (4, .int x4)] → W p l e (headSpec w_Mo_arguments r_Mo_arguments).room s m args below meth c H locs 0 0 Q (F0 m 70 ls []) := by
    intro k24 hk24 x2 x3 x4 h H locs hP hD hS ls hl
    rw [p_Mo_arguments_b70] at h
    refine lv_aload_n hx hb d_Mo_arguments_70 rfl (lv_at hl 0 rfl) ?_
    refine gf_Mo_16 hx hb hg hown hK hP d_Mo_arguments_71 ?_
    refine lv_iload hx hb d_Mo_arguments_74 (lv_at hl 3 rfl) ?_
    obtain ⟨i_76, h⟩ := itn h
    refine Yra_3 hx hb hK hP i_76 d_Mo_arguments_76 ?_
    refine lv_bipush (v := 44) hx hb d_Mo_arguments_77 (by decide) ?_
    refine lv_icmp_ne (tgt := 89) hx hb d_Mo_arguments_79 (by decide) (fun c_79 => ?_) (fun c_79 => ?_)
    · replace h := itf c_79 h
      refine lv_iinc (v := x4 + 1) (lv' := [(4, .int (x4 + 1)), (0, .ref (A 0)), (2, .int x2), (3, .int x3)]) hx hb d_Mo_arguments_89 hl (k := 3) rfl (by first | rfl | decide) (by decide) rfl (fun ls hl => ?_)
      refine lv_goto (tgt := 24) hx hb d_Mo_arguments_92 (by decide) ?_
      exact hk24 _ _ _ h _ _ hP hD hS ls (lv_sub hl [1, 2, 3, 0] rfl)
    · replace h := itp c_79 h
      refine lv_iload_n hx hb d_Mo_arguments_82 rfl (lv_at hl 2 rfl) ?_
      refine lv_if_ne (tgt := 89) hx hb d_Mo_arguments_83 (by decide) (fun c_83 => ?_) (fun c_83 => ?_)
      · replace h := itf c_83 h
        refine lv_iinc (v := x4 + 1) (lv' := [(4, .int (x4 + 1)), (0, .ref (A 0)), (2, .int x2), (3, .int x3)]) hx hb d_Mo_arguments_89 hl (k := 3) rfl (by first | rfl | decide) (by decide) rfl (fun ls hl => ?_)
        refine lv_goto (tgt := 24) hx hb d_Mo_arguments_92 (by decide) ?_
        exact hk24 _ _ _ h _ _ hP hD hS ls (lv_sub hl [1, 2, 3, 0] rfl)
      · replace h := itp c_83 h
        refine lv_iinc (v := x2 + 1) (lv' := [(2, .int (x2 + 1)), (0, .ref (A 0)), (3, .int x3), (4, .int x4)]) hx hb d_Mo_arguments_86 hl (k := 1) rfl (by first | rfl | decide) (by decide) rfl (fun ls hl => ?_)
        refine lv_iinc (v := x4 + 1) (lv' := [(4, .int (x4 + 1)), (2, .int (x2 + 1)), (0, .ref (A 0)), (3, .int x3)]) hx hb d_Mo_arguments_89 hl (k := 3) rfl (by first | rfl | decide) (by decide) rfl (fun ls hl => ?_)
        refine lv_goto (tgt := 24) hx hb d_Mo_arguments_92 (by decide) ?_
        exact hk24 _ _ _ h _ _ hP hD hS ls (lv_sub hl [2, 1, 3, 0] rfl)
  have J_55 : ∀ (k24 : Int32 → Int32 → Int32 → Option Int32) (hk24 : ∀ (x2 : Int32) (x3 : Int32) (x4 : Int32), k24 x2 x3 x4 = some rr → ∀ (H : Heap) (locs : List Loc), va_P K.1 vwCl (wY K A σ) H → va_D (YF A) (wY K A σ) → va_S (YF A) s.heap H locs → ∀ ls : Array Slot, lv_has ls 5 [(0, .ref (A 0)), (2, .int x2), (3, .int x3), (4, .int x4)] → W p l e (headSpec w_Mo_arguments r_Mo_arguments).room s m args below meth c H locs 0 0 Q (F0 m 24 ls [])) (x2 : Int32) (x3 : Int32) (x4 : Int32), p_Mo_arguments_b55 σ x1 k24 x2 x3 x4 = some rr → ∀ (H : Heap) (locs : List Loc), va_P K.1 vwCl (wY K A σ) H → va_D (YF A) (wY K A σ) → va_S (YF A) s.heap H locs → ∀ ls : Array Slot, lv_has ls 5 [(0, .ref (A 0)), (2, .int x2), (3, .int x3), (4, .int x4)] → W p l e (headSpec w_Mo_arguments r_Mo_arguments).room s m args below meth c H locs 0 0 Q (F0 m 55 ls []) := by
    intro k24 hk24 x2 x3 x4 h H locs hP hD hS ls hl
    rw [p_Mo_arguments_b55] at h
    refine lv_aload_n hx hb d_Mo_arguments_55 rfl (lv_at hl 0 rfl) ?_
    refine gf_Mo_16 hx hb hg hown hK hP d_Mo_arguments_56 ?_
    refine lv_iload hx hb d_Mo_arguments_59 (lv_at hl 3 rfl) ?_
    obtain ⟨i_61, h⟩ := itn h
    refine Yra_3 hx hb hK hP i_61 d_Mo_arguments_61 ?_
    refine lv_bipush (v := 41) hx hb d_Mo_arguments_62 (by decide) ?_
    refine lv_icmp_ne (tgt := 70) hx hb d_Mo_arguments_64 (by decide) (fun c_64 => ?_) (fun c_64 => ?_)
    · replace h := itf c_64 h
      exact J_70 _ hk24 _ _ _ h _ _ hP hD hS ls (lv_sub hl [0, 1, 2, 3] rfl)
    · replace h := itp c_64 h
      refine lv_iinc (v := x3 + (-1)) (lv' := [(3, .int (x3 + (-1))), (0, .ref (A 0)), (2, .int x2), (4, .int x4)]) hx hb d_Mo_arguments_67 hl (k := 2) rfl (by first | rfl | decide) (by decide) rfl (fun ls hl => ?_)
      exact J_70 _ hk24 _ _ _ h _ _ hP hD hS ls (lv_sub hl [1, 2, 0, 3] rfl)
  have J_40 : ∀ (k24 : Int32 → Int32 → Int32 → Option Int32) (hk24 : ∀ (x2 : Int32) (x3 : Int32) (x4 : Int32), k24 x2 x3 x4 = some rr → ∀ (H : Heap) (locs : List Loc), va_P K.1 vwCl (wY K A σ) H → va_D (YF A) (wY K A σ) → va_S (YF A) s.heap H locs → ∀ ls : Array Slot, lv_has ls 5 [(0, .ref (A 0)), (2, .int x2), (3, .int x3), (4, .int x4)] → W p l e (headSpec w_Mo_arguments r_Mo_arguments).room s m args below meth c H locs 0 0 Q (F0 m 24 ls [])) (x2 : Int32) (x3 : Int32) (x4 : Int32), p_Mo_arguments_b40 σ x1 k24 x2 x3 x4 = some rr → ∀ (H : Heap) (locs : List Loc), va_P K.1 vwCl (wY K A σ) H → va_D (YF A) (wY K A σ) → va_S (YF A) s.heap H locs → ∀ ls : Array Slot, lv_has ls 5 [(0, .ref (A 0)), (2, .int x2), (3, .int x3), (4, .int x4)] → W p l e (headSpec w_Mo_arguments r_Mo_arguments).room s m args below meth c H locs 0 0 Q (F0 m 40 ls []) := by
    intro k24 hk24 x2 x3 x4 h H locs hP hD hS ls hl
    rw [p_Mo_arguments_b40] at h
    refine lv_aload_n hx hb d_Mo_arguments_40 rfl (lv_at hl 0 rfl) ?_
    refine gf_Mo_16 hx hb hg hown hK hP d_Mo_arguments_41 ?_
    refine lv_iload hx hb d_Mo_arguments_44 (lv_at hl 3 rfl) ?_
    obtain ⟨i_46, h⟩ := itn h
    refine Yra_3 hx hb hK hP i_46 d_Mo_arguments_46 ?_
    refine lv_bipush (v := 40) hx hb d_Mo_arguments_47 (by decide) ?_
    refine lv_icmp_ne (tgt := 55) hx hb d_Mo_arguments_49 (by decide) (fun c_49 => ?_) (fun c_49 => ?_)
    · replace h := itf c_49 h
      exact J_55 _ hk24 _ _ _ h _ _ hP hD hS ls (lv_sub hl [0, 1, 2, 3] rfl)
    · replace h := itp c_49 h
      refine lv_iinc (v := x3 + 1) (lv' := [(3, .int (x3 + 1)), (0, .ref (A 0)), (2, .int x2), (4, .int x4)]) hx hb d_Mo_arguments_52 hl (k := 2) rfl (by first | rfl | decide) (by decide) rfl (fun ls hl => ?_)
      exact J_55 _ hk24 _ _ _ h _ _ hP hD hS ls (lv_sub hl [1, 2, 0, 3] rfl)
  have L_24 : ∀ (n : Nat) (x2 : Int32) (x3 : Int32) (x4 : Int32), p_Mo_arguments_L24 σ x1 n x2 x3 x4 = some rr → ∀ (H : Heap) (locs : List Loc), va_P K.1 vwCl (wY K A σ) H → va_D (YF A) (wY K A σ) → va_S (YF A) s.heap H locs → ∀ ls : Array Slot, lv_has ls 5 [(0, .ref (A 0)), (2, .int x2), (3, .int x3), (4, .int x4)] → W p l e (headSpec w_Mo_arguments r_Mo_arguments).room s m args below meth c H locs 0 0 Q (F0 m 24 ls []) := by
    intro n
    induction n with
    | zero => intro _ _ _ h; cases h
    | succ n ih =>
      intro x2 x3 x4 h H locs hP hD hS ls hl
      rw [p_Mo_arguments_L24] at h
      refine lv_aload_n hx hb d_Mo_arguments_24 rfl (lv_at hl 0 rfl) ?_
      refine gf_Mo_16 hx hb hg hown hK hP d_Mo_arguments_25 ?_
      refine lv_iload hx hb d_Mo_arguments_28 (lv_at hl 3 rfl) ?_
      obtain ⟨i_30, h⟩ := itn h
      refine Yra_3 hx hb hK hP i_30 d_Mo_arguments_30 ?_
      refine lv_bipush (v := 41) hx hb d_Mo_arguments_31 (by decide) ?_
      refine lv_icmp_ne (tgt := 40) hx hb d_Mo_arguments_33 (by decide) (fun c_33 => ?_) (fun c_33 => ?_)
      · replace h := itf c_33 h
        exact J_40 _ ih _ _ _ h _ _ hP hD hS ls (lv_sub hl [0, 1, 2, 3] rfl)
      · replace h := itp c_33 h
        refine lv_iload_n hx hb d_Mo_arguments_36 rfl (lv_at hl 2 rfl) ?_
        refine lv_if_le (tgt := 95) hx hb d_Mo_arguments_37 (by decide) (fun c_37 => ?_) (fun c_37 => ?_)
        · replace h := itp c_37 h
          refine lv_iload_n hx hb d_Mo_arguments_95 rfl (lv_at hl 1 rfl) ?_
          exact hRet _ h _ _ hP hD hS _ _ d_Mo_arguments_96
        · replace h := itf c_37 h
          exact J_40 _ ih _ _ _ h _ _ hP hD hS ls (lv_sub hl [0, 1, 2, 3] rfl)
  refine lv_aload_n hx hb d_Mo_arguments_0 rfl (lv_at hl 0 rfl) ?_
  refine gf_Mo_16 hx hb hg hown hK hP d_Mo_arguments_1 ?_
  refine lv_iload_n hx hb d_Mo_arguments_4 rfl (lv_at hl 1 rfl) ?_
  refine lv_iconst (v := 1) hx hb d_Mo_arguments_5 (by decide) ?_
  refine lv_iadd hx hb d_Mo_arguments_6 ?_
  obtain ⟨i_7, h⟩ := itn h
  refine Yra_3 hx hb hK hP i_7 d_Mo_arguments_7 ?_
  refine lv_bipush (v := 41) hx hb d_Mo_arguments_8 (by decide) ?_
  refine lv_icmp_ne (tgt := 15) hx hb d_Mo_arguments_10 (by decide) (fun c_10 => ?_) (fun c_10 => ?_)
  · replace h := itf c_10 h
    refine lv_iconst (v := 1) hx hb d_Mo_arguments_15 (by decide) ?_
    refine lv_istore_n (lv' := [(2, .int 1), (0, .ref (A 0)), (1, .int x1)]) hx hb d_Mo_arguments_16 rfl hl (by decide) rfl (fun ls hl => ?_)
    refine lv_iconst (v := 0) hx hb d_Mo_arguments_17 (by decide) ?_
    refine lv_istore_n (lv' := [(3, .int 0), (2, .int 1), (0, .ref (A 0)), (1, .int x1)]) hx hb d_Mo_arguments_18 rfl hl (by decide) rfl (fun ls hl => ?_)
    refine lv_iload_n hx hb d_Mo_arguments_19 rfl (lv_at hl 3 rfl) ?_
    refine lv_iconst (v := 1) hx hb d_Mo_arguments_20 (by decide) ?_
    refine lv_iadd hx hb d_Mo_arguments_21 ?_
    refine lv_istore (lv' := [(4, .int (x1 + 1)), (3, .int 0), (2, .int 1), (0, .ref (A 0)), (1, .int x1)]) hx hb d_Mo_arguments_22 hl (by decide) rfl (fun ls hl => ?_)
    exact L_24  FU _ _ _ h _ _ hP hD hS ls (lv_sub hl [3, 2, 1, 0] rfl)
  · replace h := itp c_10 h
    refine lv_iconst (v := 0) hx hb d_Mo_arguments_13 (by decide) ?_
    exact hRet _ h _ _ hP hD hS _ _ d_Mo_arguments_14
def p_Mo_parameter_L7 (σ : Sto) (x1 : Int32) (x2 : Int32) : Nat → Int32 → Int32 → Option Int32
  | 0, _, _ => none
  | n + 1, x3, x4 =>
    (if (σ.1 3) ≤ x4 then
        some (-1)
      else
        if inR x4 124 then (if (σ.2.1 7 x4.toNatClampNeg) = 7 then
          if inR x4 124 then (if (σ.2.1 9 x4.toNatClampNeg) = x1 then
            (if x3 = x2 then
              some x4
            else
              p_Mo_parameter_L7 σ x1 x2 n (x3 + 1) (x4 + 1))
          else
            p_Mo_parameter_L7 σ x1 x2 n x3 (x4 + 1)) else none
        else
          p_Mo_parameter_L7 σ x1 x2 n x3 (x4 + 1)) else none)
def p_Mo_parameter (σ : Sto) (x1 : Int32) (x2 : Int32) : Option Int32 :=
  p_Mo_parameter_L7 σ x1 x2 FU 0 (x1 + 1)
abbrev w_Mo_parameter : List Cond := Cond.code y_Mo_parameter b_Mo_parameter 5 (some .int) :: Tg
abbrev r_Mo_parameter : Room := { frames := 0, cells := 0, slots := 0, locals := 0 }
theorem dv_Mo_parameter : y_Mo_parameter.cls = "LanguageServerModel" ∧ y_Mo_parameter.cls ≠ "java/lang/invoke/MethodHandle" ∧ y_Mo_parameter.cls ≠ "java/lang/invoke/VarHandle" ∧ (parseMethodDescriptor y_Mo_parameter.desc).map (fun d => d.parameters.length) = some 2 := by decide +kernel
set_option maxHeartbeats 4000000 in
set_option maxRecDepth 100000 in
theorem c_Mo_parameter (l : Launch) (K : Kst) (A : Nat → Nat) {σ : Sto} {x1 : Int32} {x2 : Int32} {rr : Int32} (h : p_Mo_parameter σ x1 x2 = some rr) : Met l y_Mo_parameter w_Mo_parameter r_Mo_parameter (va_Pc [.ref (A 0), .int x1, .int x2] (YB K A σ)) (YQi K A rr σ) 0 0 (YF A) := by
  refine Met.ofW (cc := b_Mo_parameter) (maxL := 5) (ret := (some .int)) (by decide) rfl ?_
  intro p e s m args below meth c s₁ B hml hv
  obtain ⟨rfl, hP, hK, hD⟩ := hv
  have hx := B.exec
  have hb := B.bytes
  have hr := B.returns
  have hts := atoms_spec (ws := w_Mo_parameter) B.pre
  have hg : ∀ w ∈ Tg, w.before _ s = true := fun w q => hts w (List.mem_cons_of_mem _ q)
  have hown : s.vm.findClass "LanguageServerModel" = some m.cls := findClass_of_methodNamed B.named
  have hlocks := B.notSynchronized
  have hS : va_S (YF A) s.heap s.heap [] := va_S.rf
  have hl := lv_entry ([.ref (A 0), .int x1, .int x2]) (n := 5) (Nat.le_of_ble_eq_true rfl)
  rw [lg_entry_eq]
  generalize (lg_sl ([.ref (A 0), .int x1, .int x2]) ++ List.replicate (5 - (lg_sl ([.ref (A 0), .int x1, .int x2])).length) Slot.unset).toArray = ls at hl ⊢
  have hl : lv_has ls 5 [(0, .ref (A 0)), (1, .int x1), (2, .int x2)] := hl
  generalize hargs : ([.ref (A 0), .int x1, .int x2] : List Value).toArray = args at hg hts ⊢
  obtain ⟨Q, hQ⟩ : ∃ Q, Q = MQ below (YQi K A rr σ) args s 0 0 (YF A) := ⟨_, rfl⟩
  rw [← hQ]
  have hRet : ∀ (v : Int32), some v = some rr → ∀ (H : Heap) (locs : List Loc), va_P K.1 vwCl (wY K A σ) H → va_D (YF A) (wY K A σ) → va_S (YF A) s.heap H locs → ∀ (pc : Nat) (ls : Array Slot), decode b_Mo_parameter pc = .ok (.ireturn, 1) → W p l e (headSpec w_Mo_parameter r_Mo_parameter).room s m args below meth c H locs 0 0 Q (F0 m pc ls [.int v]) := by
    intro v h H locs hP hD hS pc ls hd
    cases h
    subst hQ
    exact W.iret hx hb hr (fun t ht hW => ⟨⟨_, (), rfl, rfl, by rw [ht]; exact hP, RK.warm hW hK, hD⟩, hS.F ht⟩) hS.2.2 hd
  clear hQ
  unfold p_Mo_parameter at h
  have L_7 : ∀ (n : Nat) (x3 : Int32) (x4 : Int32), p_Mo_parameter_L7 σ x1 x2 n x3 x4 = some rr → ∀ (H : Heap) (locs : List Loc), va_P K.1 vwCl (wY K A σ) H → va_D (YF A) (wY K A σ) → va_S (YF A) s.heap H locs → ∀ ls : Array Slot, lv_has ls 5 [(0, .ref (A 0)), (1, .int x1), (2, .int x2), (3, .int x3), (4, .int x4)] → W p l e (headSpec w_Mo_parameter r_Mo_parameter).room s m args below meth c H locs 0 0 Q (F0 m 7 ls []) := by
    intro n
    induction n with
    | zero => intro _ _ h; cases h
    | succ n ih =>
      intro x3 x4 h H locs hP hD hS ls hl
      rw [p_Mo_parameter_L7] at h
      refine lv_iload hx hb d_Mo_parameter_7 (lv_at hl 4 rfl) ?_
      refine lv_aload_n hx hb d_Mo_parameter_9 rfl (lv_at hl 0 rfl) ?_
      refine gf_Mo_118 hx hb hg hown hK hP d_Mo_parameter_10 ?_
      refine lv_icmp_ge (tgt := 59) hx hb d_Mo_parameter_13 (by decide) (fun c_13 => ?_) (fun c_13 => ?_)
      · replace h := itp c_13 h
        refine lv_iconst (v := (-1)) hx hb d_Mo_parameter_59 (by decide) ?_
        exact hRet _ h _ _ hP hD hS _ _ d_Mo_parameter_60
      · replace h := itf c_13 h
        refine lv_aload_n hx hb d_Mo_parameter_16 rfl (lv_at hl 0 rfl) ?_
        refine gf_Mo_29 hx hb hg hown hK hP d_Mo_parameter_17 ?_
        refine lv_iload hx hb d_Mo_parameter_20 (lv_at hl 4 rfl) ?_
        obtain ⟨i_22, h⟩ := itn h
        refine Yra_7 hx hb hK hP i_22 d_Mo_parameter_22 ?_
        refine lv_bipush (v := 7) hx hb d_Mo_parameter_23 (by decide) ?_
        refine lv_icmp_ne (tgt := 53) hx hb d_Mo_parameter_25 (by decide) (fun c_25 => ?_) (fun c_25 => ?_)
        · replace h := itf c_25 h
          refine lv_iinc (v := x4 + 1) (lv' := [(4, .int (x4 + 1)), (0, .ref (A 0)), (1, .int x1), (2, .int x2), (3, .int x3)]) hx hb d_Mo_parameter_53 hl (k := 4) rfl (by first | rfl | decide) (by decide) rfl (fun ls hl => ?_)
          refine lv_goto (tgt := 7) hx hb d_Mo_parameter_56 (by decide) ?_
          exact ih _ _ h _ _ hP hD hS ls (lv_sub hl [1, 2, 3, 4, 0] rfl)
        · replace h := itp c_25 h
          refine lv_aload_n hx hb d_Mo_parameter_28 rfl (lv_at hl 0 rfl) ?_
          refine gf_Mo_35 hx hb hg hown hK hP d_Mo_parameter_29 ?_
          refine lv_iload hx hb d_Mo_parameter_32 (lv_at hl 4 rfl) ?_
          obtain ⟨i_34, h⟩ := itn h
          refine Yra_9 hx hb hK hP i_34 d_Mo_parameter_34 ?_
          refine lv_iload_n hx hb d_Mo_parameter_35 rfl (lv_at hl 1 rfl) ?_
          refine lv_icmp_eq (tgt := 42) hx hb d_Mo_parameter_36 (by decide) (fun c_36 => ?_) (fun c_36 => ?_)
          · replace h := itp c_36 h
            refine lv_iload_n hx hb d_Mo_parameter_42 rfl (lv_at hl 3 rfl) ?_
            refine lv_iload_n hx hb d_Mo_parameter_43 rfl (lv_at hl 2 rfl) ?_
            refine lv_icmp_ne (tgt := 50) hx hb d_Mo_parameter_44 (by decide) (fun c_44 => ?_) (fun c_44 => ?_)
            · replace h := itf c_44 h
              refine lv_iinc (v := x3 + 1) (lv' := [(3, .int (x3 + 1)), (0, .ref (A 0)), (1, .int x1), (2, .int x2), (4, .int x4)]) hx hb d_Mo_parameter_50 hl (k := 3) rfl (by first | rfl | decide) (by decide) rfl (fun ls hl => ?_)
              refine lv_iinc (v := x4 + 1) (lv' := [(4, .int (x4 + 1)), (3, .int (x3 + 1)), (0, .ref (A 0)), (1, .int x1), (2, .int x2)]) hx hb d_Mo_parameter_53 hl (k := 4) rfl (by first | rfl | decide) (by decide) rfl (fun ls hl => ?_)
              refine lv_goto (tgt := 7) hx hb d_Mo_parameter_56 (by decide) ?_
              exact ih _ _ h _ _ hP hD hS ls (lv_sub hl [2, 3, 4, 1, 0] rfl)
            · replace h := itp c_44 h
              refine lv_iload hx hb d_Mo_parameter_47 (lv_at hl 4 rfl) ?_
              exact hRet _ h _ _ hP hD hS _ _ d_Mo_parameter_49
          · replace h := itf c_36 h
            refine lv_goto (tgt := 53) hx hb d_Mo_parameter_39 (by decide) ?_
            refine lv_iinc (v := x4 + 1) (lv' := [(4, .int (x4 + 1)), (0, .ref (A 0)), (1, .int x1), (2, .int x2), (3, .int x3)]) hx hb d_Mo_parameter_53 hl (k := 4) rfl (by first | rfl | decide) (by decide) rfl (fun ls hl => ?_)
            refine lv_goto (tgt := 7) hx hb d_Mo_parameter_56 (by decide) ?_
            exact ih _ _ h _ _ hP hD hS ls (lv_sub hl [1, 2, 3, 4, 0] rfl)
  refine lv_iconst (v := 0) hx hb d_Mo_parameter_0 (by decide) ?_
  refine lv_istore_n (lv' := [(3, .int 0), (0, .ref (A 0)), (1, .int x1), (2, .int x2)]) hx hb d_Mo_parameter_1 rfl hl (by decide) rfl (fun ls hl => ?_)
  refine lv_iload_n hx hb d_Mo_parameter_2 rfl (lv_at hl 2 rfl) ?_
  refine lv_iconst (v := 1) hx hb d_Mo_parameter_3 (by decide) ?_
  refine lv_iadd hx hb d_Mo_parameter_4 ?_
  refine lv_istore (lv' := [(4, .int (x1 + 1)), (3, .int 0), (0, .ref (A 0)), (1, .int x1), (2, .int x2)]) hx hb d_Mo_parameter_5 hl (by decide) rfl (fun ls hl => ?_)
  exact L_7  FU _ _ h _ _ hP hD hS ls (lv_sub hl [2, 3, 4, 1, 0] rfl)
def p_Mo_parametersOf_L2 (σ : Sto) (x1 : Int32) : Nat → Int32 → Option Int32
  | 0, _ => none
  | n + 1, x2 =>
    bd1 (p_Mo_parameter σ x1 x2) fun v_5 =>
      (if v_5 < 0 then
        some x2
      else
        p_Mo_parametersOf_L2 σ x1 n (x2 + 1))
def p_Mo_parametersOf (σ : Sto) (x1 : Int32) : Option Int32 :=
  p_Mo_parametersOf_L2 σ x1 FU 0
abbrev w_Mo_parametersOf : List Cond := Cond.code y_Mo_parametersOf b_Mo_parametersOf 3 (some .int) :: Tg
abbrev r_Mo_parametersOf : Room := { frames := 1, cells := 0, slots := 0, locals := 24 }
theorem dv_Mo_parametersOf : y_Mo_parametersOf.cls = "LanguageServerModel" ∧ y_Mo_parametersOf.cls ≠ "java/lang/invoke/MethodHandle" ∧ y_Mo_parametersOf.cls ≠ "java/lang/invoke/VarHandle" ∧ (parseMethodDescriptor y_Mo_parametersOf.desc).map (fun d => d.parameters.length) = some 1 := by decide +kernel
set_option maxHeartbeats 4000000 in
set_option maxRecDepth 100000 in
theorem c_Mo_parametersOf (l : Launch) (K : Kst) (A : Nat → Nat) {σ : Sto} {x1 : Int32} {rr : Int32} (h : p_Mo_parametersOf σ x1 = some rr) : Met l y_Mo_parametersOf w_Mo_parametersOf r_Mo_parametersOf (va_Pc [.ref (A 0), .int x1] (YB K A σ)) (YQi K A rr σ) 0 0 (YF A) := by
  refine Met.ofW (cc := b_Mo_parametersOf) (maxL := 3) (ret := (some .int)) (by decide) rfl ?_
  intro p e s m args below meth c s₁ B hml hv
  obtain ⟨rfl, hP, hK, hD⟩ := hv
  have hx := B.exec
  have hb := B.bytes
  have hr := B.returns
  have hts := atoms_spec (ws := w_Mo_parametersOf) B.pre
  have hg : ∀ w ∈ Tg, w.before _ s = true := fun w q => hts w (List.mem_cons_of_mem _ q)
  have hown : s.vm.findClass "LanguageServerModel" = some m.cls := findClass_of_methodNamed B.named
  have hlocks := B.notSynchronized
  have hS : va_S (YF A) s.heap s.heap [] := va_S.rf
  have hl := lv_entry ([.ref (A 0), .int x1]) (n := 3) (Nat.le_of_ble_eq_true rfl)
  rw [lg_entry_eq]
  generalize (lg_sl ([.ref (A 0), .int x1]) ++ List.replicate (3 - (lg_sl ([.ref (A 0), .int x1])).length) Slot.unset).toArray = ls at hl ⊢
  have hl : lv_has ls 3 [(0, .ref (A 0)), (1, .int x1)] := hl
  generalize hargs : ([.ref (A 0), .int x1] : List Value).toArray = args at hg hts ⊢
  obtain ⟨Q, hQ⟩ : ∃ Q, Q = MQ below (YQi K A rr σ) args s 0 0 (YF A) := ⟨_, rfl⟩
  rw [← hQ]
  have hRet : ∀ (v : Int32), some v = some rr → ∀ (H : Heap) (locs : List Loc), va_P K.1 vwCl (wY K A σ) H → va_D (YF A) (wY K A σ) → va_S (YF A) s.heap H locs → ∀ (pc : Nat) (ls : Array Slot), decode b_Mo_parametersOf pc = .ok (.ireturn, 1) → W p l e (headSpec w_Mo_parametersOf r_Mo_parametersOf).room s m args below meth c H locs 0 0 Q (F0 m pc ls [.int v]) := by
    intro v h H locs hP hD hS pc ls hd
    cases h
    subst hQ
    exact W.iret hx hb hr (fun t ht hW => ⟨⟨_, (), rfl, rfl, by rw [ht]; exact hP, RK.warm hW hK, hD⟩, hS.F ht⟩) hS.2.2 hd
  clear hQ
  unfold p_Mo_parametersOf at h
  have L_2 : ∀ (n : Nat) (x2 : Int32), p_Mo_parametersOf_L2 σ x1 n x2 = some rr → ∀ (H : Heap) (locs : List Loc), va_P K.1 vwCl (wY K A σ) H → va_D (YF A) (wY K A σ) → va_S (YF A) s.heap H locs → ∀ ls : Array Slot, lv_has ls 3 [(0, .ref (A 0)), (1, .int x1), (2, .int x2)] → W p l e (headSpec w_Mo_parametersOf r_Mo_parametersOf).room s m args below meth c H locs 0 0 Q (F0 m 2 ls []) := by
    intro n
    induction n with
    | zero => intro _ h; cases h
    | succ n ih =>
      intro x2 h H locs hP hD hS ls hl
      rw [p_Mo_parametersOf_L2] at h
      refine lv_aload_n hx hb d_Mo_parametersOf_2 rfl (lv_at hl 0 rfl) ?_
      refine lv_iload_n hx hb d_Mo_parametersOf_3 rfl (lv_at hl 1 rfl) ?_
      refine lv_iload_n hx hb d_Mo_parametersOf_4 rfl (lv_at hl 2 rfl) ?_
      obtain ⟨v_5, e_5, h⟩ := bd1_some h
      refine Y_calli (va_runV (As := [.int x1, .int x2]) (rest := []) ⟨hx, hb, hml, hown, hts⟩ (c_Mo_parameter l K A e_5) (cwV 2 hts (gd_V wd_1187 wd_1189 wp_78 wd_10 wd_1190) rfl rfl rfl dv_Mo_parameter ⟨Nat.le_of_ble_eq_true rfl, Nat.le_of_ble_eq_true rfl⟩) (Y_pv_0 hK hP hD) rfl rfl hl.1 rfl (lv_room (Nat.le_of_ble_eq_true rfl)) d_Mo_parametersOf_5 ⟨Nat.le_of_ble_eq_true rfl, Nat.le_of_ble_eq_true rfl⟩) hS (fun H locs hP hD hS => ?_)
      refine lv_if_lt (tgt := 17) hx hb d_Mo_parametersOf_8 (by decide) (fun c_8 => ?_) (fun c_8 => ?_)
      · replace h := itp c_8 h
        refine lv_iload_n hx hb d_Mo_parametersOf_17 rfl (lv_at hl 2 rfl) ?_
        exact hRet _ h _ _ hP hD hS _ _ d_Mo_parametersOf_18
      · replace h := itf c_8 h
        refine lv_iinc (v := x2 + 1) (lv' := [(2, .int (x2 + 1)), (0, .ref (A 0)), (1, .int x1)]) hx hb d_Mo_parametersOf_11 hl (k := 2) rfl (by first | rfl | decide) (by decide) rfl (fun ls hl => ?_)
        refine lv_goto (tgt := 2) hx hb d_Mo_parametersOf_14 (by decide) ?_
        exact ih _ h _ _ hP hD hS ls (lv_sub hl [1, 2, 0] rfl)
  refine lv_iconst (v := 0) hx hb d_Mo_parametersOf_0 (by decide) ?_
  refine lv_istore_n (lv' := [(2, .int 0), (0, .ref (A 0)), (1, .int x1)]) hx hb d_Mo_parametersOf_1 rfl hl (by decide) rfl (fun ls hl => ?_)
  exact L_2  FU _ h _ _ hP hD hS ls (lv_sub hl [1, 2, 0] rfl)
def p_Mo_means_b103 (σ : Sto) (x1 : Int32) (x2 : Int32) (x3 : Int32) (x4 : Int32) (x5 : Int32) (s0 : Int32) : Option Int32 :=
  (if s0 = x4 then
      some x5
    else
      some (-1))
def p_Mo_means_b79 (σ : Sto) (x1 : Int32) (x2 : Int32) (x3 : Int32) (x4 : Int32) (s0 : Int32) : Option Int32 :=
  (if s0 < 0 then
      some (-1)
    else
      if inR s0 124 then (if (σ.2.1 7 s0.toNatClampNeg) = 6 then
        p_Mo_means_b103 σ x1 x2 x3 x4 s0 1
      else
        p_Mo_means_b103 σ x1 x2 x3 x4 s0 0) else none)
def p_Mo_means_b50 (σ : Sto) (x1 : Int32) (x2 : Int32) (x3 : Int32) (x4 : Int32) (s0 : Int32) : Option Int32 :=
  (if s0 < 0 then
      (if x3 < 0 then
        p_Mo_means_b79 σ x1 x2 x3 x4 (-1)
      else
        if inR x1 124 then bd1 (p_Mo_find σ x3 (σ.2.2 x1.toNatClampNeg)) fun v_72 =>
        p_Mo_means_b79 σ x1 x2 x3 x4 v_72 else none)
    else
      some s0)
def p_Mo_means_b27 (σ : Sto) (x1 : Int32) (x2 : Int32) (x3 : Int32) (s0 : Int32) : Option Int32 :=
  if inR x1 124 then (if (σ.2.1 7 x1.toNatClampNeg) = 9 then
      bd1 (p_Mo_local σ x1 x2) fun v_43 =>
      p_Mo_means_b50 σ x1 x2 x3 s0 v_43
    else
      p_Mo_means_b50 σ x1 x2 x3 s0 (-1)) else none
def p_Mo_means_b22 (σ : Sto) (x1 : Int32) (x2 : Int32) (x3 : Int32) : Option Int32 :=
  p_Mo_means_b27 σ x1 x2 x3 1
def p_Mo_means (σ : Sto) (x1 : Int32) (x2 : Int32) (x3 : Int32) : Option Int32 :=
  if inR x1 124 then (if (σ.2.1 7 x1.toNatClampNeg) = 10 then
      p_Mo_means_b22 σ x1 x2 x3
    else
      if inR x1 124 then (if (σ.2.1 7 x1.toNatClampNeg) = 12 then
        p_Mo_means_b22 σ x1 x2 x3
      else
        p_Mo_means_b27 σ x1 x2 x3 0) else none) else none
abbrev w_Mo_means : List Cond := Cond.code y_Mo_means b_Mo_means 6 (some .int) :: Tg
abbrev r_Mo_means : Room := { frames := 5, cells := 0, slots := 0, locals := 113 }
theorem dv_Mo_means : y_Mo_means.cls = "LanguageServerModel" ∧ y_Mo_means.cls ≠ "java/lang/invoke/MethodHandle" ∧ y_Mo_means.cls ≠ "java/lang/invoke/VarHandle" ∧ (parseMethodDescriptor y_Mo_means.desc).map (fun d => d.parameters.length) = some 3 := by decide +kernel
set_option maxHeartbeats 4000000 in
set_option maxRecDepth 100000 in
theorem c_Mo_means (l : Launch) (K : Kst) (A : Nat → Nat) {σ : Sto} {x1 : Int32} {x2 : Int32} {x3 : Int32} {rr : Int32} (h : p_Mo_means σ x1 x2 x3 = some rr) : Met l y_Mo_means w_Mo_means r_Mo_means (va_Pc [.ref (A 0), .int x1, .int x2, .int x3] (YB K A σ)) (YQi K A rr σ) 0 0 (YF A) := by
  refine Met.ofW (cc := b_Mo_means) (maxL := 6) (ret := (some .int)) (by decide) rfl ?_
  intro p e s m args below meth c s₁ B hml hv
  obtain ⟨rfl, hP, hK, hD⟩ := hv
  have hx := B.exec
  have hb := B.bytes
  have hr := B.returns
  have hts := atoms_spec (ws := w_Mo_means) B.pre
  have hg : ∀ w ∈ Tg, w.before _ s = true := fun w q => hts w (List.mem_cons_of_mem _ q)
  have hown : s.vm.findClass "LanguageServerModel" = some m.cls := findClass_of_methodNamed B.named
  have hlocks := B.notSynchronized
  have hS : va_S (YF A) s.heap s.heap [] := va_S.rf
  have hl := lv_entry ([.ref (A 0), .int x1, .int x2, .int x3]) (n := 6) (Nat.le_of_ble_eq_true rfl)
  rw [lg_entry_eq]
  generalize (lg_sl ([.ref (A 0), .int x1, .int x2, .int x3]) ++ List.replicate (6 - (lg_sl ([.ref (A 0), .int x1, .int x2, .int x3])).length) Slot.unset).toArray = ls at hl ⊢
  have hl : lv_has ls 6 [(0, .ref (A 0)), (1, .int x1), (2, .int x2), (3, .int x3)] := hl
  generalize hargs : ([.ref (A 0), .int x1, .int x2, .int x3] : List Value).toArray = args at hg hts ⊢
  obtain ⟨Q, hQ⟩ : ∃ Q, Q = MQ below (YQi K A rr σ) args s 0 0 (YF A) := ⟨_, rfl⟩
  rw [← hQ]
  have hRet : ∀ (v : Int32), some v = some rr → ∀ (H : Heap) (locs : List Loc), va_P K.1 vwCl (wY K A σ) H → va_D (YF A) (wY K A σ) → va_S (YF A) s.heap H locs → ∀ (pc : Nat) (ls : Array Slot), decode b_Mo_means pc = .ok (.ireturn, 1) → W p l e (headSpec w_Mo_means r_Mo_means).room s m args below meth c H locs 0 0 Q (F0 m pc ls [.int v]) := by
    intro v h H locs hP hD hS pc ls hd
    cases h
    subst hQ
    exact W.iret hx hb hr (fun t ht hW => ⟨⟨_, (), rfl, rfl, by rw [ht]; exact hP, RK.warm hW hK, hD⟩, hS.F ht⟩) hS.2.2 hd
  clear hQ
  unfold p_Mo_means at h
  have J_103 : ∀ (x4 : Int32) (x5 : Int32) (s0 : Int32), p_Mo_means_b103 σ x1 x2 x3 x4 x5 s0 = some rr → ∀ (H : Heap) (locs : List Loc), va_P K.1 vwCl (wY K A σ) H → va_D (YF A) (wY K A σ) → va_S (YF A) s.heap H locs → ∀ ls : Array Slot, lv_has ls 6 [(4, .int x4), (5, .int x5)] → W p l e (headSpec w_Mo_means r_Mo_means).room s m args below meth c H locs 0 0 Q (F0 m 103 ls [.int s0]) := by
    intro  x4 x5 s0 h H locs hP hD hS ls hl
    rw [p_Mo_means_b103] at h
    refine lv_iload hx hb d_Mo_means_103 (lv_at hl 0 rfl) ?_
    refine lv_icmp_ne (tgt := 113) hx hb d_Mo_means_105 (by decide) (fun c_105 => ?_) (fun c_105 => ?_)
    · replace h := itf c_105 h
      refine lv_iconst (v := (-1)) hx hb d_Mo_means_113 (by decide) ?_
      exact hRet _ h _ _ hP hD hS _ _ d_Mo_means_114
    · replace h := itp c_105 h
      refine lv_iload hx hb d_Mo_means_108 (lv_at hl 1 rfl) ?_
      refine lv_goto (tgt := 114) hx hb d_Mo_means_110 (by decide) ?_
      exact hRet _ h _ _ hP hD hS _ _ d_Mo_means_114
  have J_79 : ∀ (x4 : Int32) (s0 : Int32), p_Mo_means_b79 σ x1 x2 x3 x4 s0 = some rr → ∀ (H : Heap) (locs : List Loc), va_P K.1 vwCl (wY K A σ) H → va_D (YF A) (wY K A σ) → va_S (YF A) s.heap H locs → ∀ ls : Array Slot, lv_has ls 6 [(0, .ref (A 0)), (4, .int x4)] → W p l e (headSpec w_Mo_means r_Mo_means).room s m args below meth c H locs 0 0 Q (F0 m 79 ls [.int s0]) := by
    intro  x4 s0 h H locs hP hD hS ls hl
    rw [p_Mo_means_b79] at h
    refine lv_istore (lv' := [(5, .int s0), (0, .ref (A 0)), (4, .int x4)]) hx hb d_Mo_means_79 hl (by decide) rfl (fun ls hl => ?_)
    refine lv_iload hx hb d_Mo_means_81 (lv_at hl 0 rfl) ?_
    refine lv_if_lt (tgt := 113) hx hb d_Mo_means_83 (by decide) (fun c_83 => ?_) (fun c_83 => ?_)
    · replace h := itp c_83 h
      refine lv_iconst (v := (-1)) hx hb d_Mo_means_113 (by decide) ?_
      exact hRet _ h _ _ hP hD hS _ _ d_Mo_means_114
    · replace h := itf c_83 h
      refine lv_aload_n hx hb d_Mo_means_86 rfl (lv_at hl 1 rfl) ?_
      refine gf_Mo_29 hx hb hg hown hK hP d_Mo_means_87 ?_
      refine lv_iload hx hb d_Mo_means_90 (lv_at hl 0 rfl) ?_
      obtain ⟨i_92, h⟩ := itn h
      refine Yra_7 hx hb hK hP i_92 d_Mo_means_92 ?_
      refine lv_bipush (v := 6) hx hb d_Mo_means_93 (by decide) ?_
      refine lv_icmp_ne (tgt := 102) hx hb d_Mo_means_95 (by decide) (fun c_95 => ?_) (fun c_95 => ?_)
      · replace h := itf c_95 h
        refine lv_iconst (v := 0) hx hb d_Mo_means_102 (by decide) ?_
        exact J_103  _ _ _ h _ _ hP hD hS ls (lv_sub hl [2, 0] rfl)
      · replace h := itp c_95 h
        refine lv_iconst (v := 1) hx hb d_Mo_means_98 (by decide) ?_
        refine lv_goto (tgt := 103) hx hb d_Mo_means_99 (by decide) ?_
        exact J_103  _ _ _ h _ _ hP hD hS ls (lv_sub hl [2, 0] rfl)
  have J_50 : ∀ (x4 : Int32) (s0 : Int32), p_Mo_means_b50 σ x1 x2 x3 x4 s0 = some rr → ∀ (H : Heap) (locs : List Loc), va_P K.1 vwCl (wY K A σ) H → va_D (YF A) (wY K A σ) → va_S (YF A) s.heap H locs → ∀ ls : Array Slot, lv_has ls 6 [(0, .ref (A 0)), (1, .int x1), (3, .int x3), (4, .int x4)] → W p l e (headSpec w_Mo_means r_Mo_means).room s m args below meth c H locs 0 0 Q (F0 m 50 ls [.int s0]) := by
    intro  x4 s0 h H locs hP hD hS ls hl
    rw [p_Mo_means_b50] at h
    refine lv_istore (lv' := [(5, .int s0), (0, .ref (A 0)), (1, .int x1), (3, .int x3), (4, .int x4)]) hx hb d_Mo_means_50 hl (by decide) rfl (fun ls hl => ?_)
    refine lv_iload hx hb d_Mo_means_52 (lv_at hl 0 rfl) ?_
    refine lv_if_lt (tgt := 60) hx hb d_Mo_means_54 (by decide) (fun c_54 => ?_) (fun c_54 => ?_)
    · replace h := itp c_54 h
      refine lv_iload_n hx hb d_Mo_means_60 rfl (lv_at hl 3 rfl) ?_
      refine lv_if_lt (tgt := 78) hx hb d_Mo_means_61 (by decide) (fun c_61 => ?_) (fun c_61 => ?_)
      · replace h := itp c_61 h
        refine lv_iconst (v := (-1)) hx hb d_Mo_means_78 (by decide) ?_
        exact J_79  _ _ h _ _ hP hD hS ls (lv_sub hl [1, 4] rfl)
      · replace h := itf c_61 h
        refine lv_aload_n hx hb d_Mo_means_64 rfl (lv_at hl 1 rfl) ?_
        refine lv_iload_n hx hb d_Mo_means_65 rfl (lv_at hl 3 rfl) ?_
        refine lv_aload_n hx hb d_Mo_means_66 rfl (lv_at hl 1 rfl) ?_
        refine gf_Mo_19 hx hb hg hown hK hP d_Mo_means_67 ?_
        refine lv_iload_n hx hb d_Mo_means_70 rfl (lv_at hl 2 rfl) ?_
        obtain ⟨i_71, h⟩ := itn h
        refine Yra_4 hx hb hK hP i_71 d_Mo_means_71 ?_
        obtain ⟨v_72, e_72, h⟩ := bd1_some h
        refine Y_calli (va_runV (As := [.int x3, .long (σ.2.2 x1.toNatClampNeg)]) (rest := []) ⟨hx, hb, hml, hown, hts⟩ (c_Mo_find l K A e_72) (cwV 2 hts (gd_V wd_1167 wd_1169 wp_73 wd_10 wd_1170) rfl rfl rfl dv_Mo_find ⟨Nat.le_of_ble_eq_true rfl, Nat.le_of_ble_eq_true rfl⟩) (Y_pv_0 hK hP hD) rfl rfl hl.1 rfl (lv_room (Nat.le_of_ble_eq_true rfl)) d_Mo_means_72 ⟨Nat.le_of_ble_eq_true rfl, Nat.le_of_ble_eq_true rfl⟩) hS (fun H locs hP hD hS => ?_)
        refine lv_goto (tgt := 79) hx hb d_Mo_means_75 (by decide) ?_
        exact J_79  _ _ h _ _ hP hD hS ls (lv_sub hl [1, 4] rfl)
    · replace h := itf c_54 h
      refine lv_iload hx hb d_Mo_means_57 (lv_at hl 0 rfl) ?_
      exact hRet _ h _ _ hP hD hS _ _ d_Mo_means_59
  have J_27 : ∀ (s0 : Int32), p_Mo_means_b27 σ x1 x2 x3 s0 = some rr → ∀ (H : Heap) (locs : List Loc), va_P K.1 vwCl (wY K A σ) H → va_D (YF A) (wY K A σ) → va_S (YF A) s.heap H locs → ∀ ls : Array Slot, lv_has ls 6 [(0, .ref (A 0)), (1, .int x1), (2, .int x2), (3, .int x3)] → W p l e (headSpec w_Mo_means r_Mo_means).room s m args below meth c H locs 0 0 Q (F0 m 27 ls [.int s0]) := by
    intro  s0 h H locs hP hD hS ls hl
    rw [p_Mo_means_b27] at h
    refine lv_istore (lv' := [(4, .int s0), (0, .ref (A 0)), (1, .int x1), (2, .int x2), (3, .int x3)]) hx hb d_Mo_means_27 hl (by decide) rfl (fun ls hl => ?_)
    refine lv_aload_n hx hb d_Mo_means_29 rfl (lv_at hl 1 rfl) ?_
    refine gf_Mo_29 hx hb hg hown hK hP d_Mo_means_30 ?_
    refine lv_iload_n hx hb d_Mo_means_33 rfl (lv_at hl 2 rfl) ?_
    obtain ⟨i_34, h⟩ := itn h
    refine Yra_7 hx hb hK hP i_34 d_Mo_means_34 ?_
    refine lv_bipush (v := 9) hx hb d_Mo_means_35 (by decide) ?_
    refine lv_icmp_ne (tgt := 49) hx hb d_Mo_means_37 (by decide) (fun c_37 => ?_) (fun c_37 => ?_)
    · replace h := itf c_37 h
      refine lv_iconst (v := (-1)) hx hb d_Mo_means_49 (by decide) ?_
      exact J_50  _ _ h _ _ hP hD hS ls (lv_sub hl [1, 2, 4, 0] rfl)
    · replace h := itp c_37 h
      refine lv_aload_n hx hb d_Mo_means_40 rfl (lv_at hl 1 rfl) ?_
      refine lv_iload_n hx hb d_Mo_means_41 rfl (lv_at hl 2 rfl) ?_
      refine lv_iload_n hx hb d_Mo_means_42 rfl (lv_at hl 3 rfl) ?_
      obtain ⟨v_43, e_43, h⟩ := bd1_some h
      refine Y_calli (va_runV (As := [.int x1, .int x2]) (rest := []) ⟨hx, hb, hml, hown, hts⟩ (c_Mo_locl l K A e_43) (cwV 2 hts (gd_V wd_1143 wd_1145 wp_67 wd_10 wd_1146) rfl rfl rfl dv_Mo_locl ⟨Nat.le_of_ble_eq_true rfl, Nat.le_of_ble_eq_true rfl⟩) (Y_pv_0 hK hP hD) rfl rfl hl.1 rfl (lv_room (Nat.le_of_ble_eq_true rfl)) d_Mo_means_43 ⟨Nat.le_of_ble_eq_true rfl, Nat.le_of_ble_eq_true rfl⟩) hS (fun H locs hP hD hS => ?_)
      refine lv_goto (tgt := 50) hx hb d_Mo_means_46 (by decide) ?_
      exact J_50  _ _ h _ _ hP hD hS ls (lv_sub hl [1, 2, 4, 0] rfl)
  have J_22 : p_Mo_means_b22 σ x1 x2 x3 = some rr → ∀ (H : Heap) (locs : List Loc), va_P K.1 vwCl (wY K A σ) H → va_D (YF A) (wY K A σ) → va_S (YF A) s.heap H locs → ∀ ls : Array Slot, lv_has ls 6 [(0, .ref (A 0)), (1, .int x1), (2, .int x2), (3, .int x3)] → W p l e (headSpec w_Mo_means r_Mo_means).room s m args below meth c H locs 0 0 Q (F0 m 22 ls []) := by
    intro   h H locs hP hD hS ls hl
    rw [p_Mo_means_b22] at h
    refine lv_iconst (v := 1) hx hb d_Mo_means_22 (by decide) ?_
    refine lv_goto (tgt := 27) hx hb d_Mo_means_23 (by decide) ?_
    exact J_27  _ h _ _ hP hD hS ls (lv_sub hl [0, 1, 2, 3] rfl)
  refine lv_aload_n hx hb d_Mo_means_0 rfl (lv_at hl 0 rfl) ?_
  refine gf_Mo_29 hx hb hg hown hK hP d_Mo_means_1 ?_
  refine lv_iload_n hx hb d_Mo_means_4 rfl (lv_at hl 1 rfl) ?_
  obtain ⟨i_5, h⟩ := itn h
  refine Yra_7 hx hb hK hP i_5 d_Mo_means_5 ?_
  refine lv_bipush (v := 10) hx hb d_Mo_means_6 (by decide) ?_
  refine lv_icmp_eq (tgt := 22) hx hb d_Mo_means_8 (by decide) (fun c_8 => ?_) (fun c_8 => ?_)
  · replace h := itp c_8 h
    exact J_22   h _ _ hP hD hS ls (lv_sub hl [0, 1, 2, 3] rfl)
  · replace h := itf c_8 h
    refine lv_aload_n hx hb d_Mo_means_11 rfl (lv_at hl 0 rfl) ?_
    refine gf_Mo_29 hx hb hg hown hK hP d_Mo_means_12 ?_
    refine lv_iload_n hx hb d_Mo_means_15 rfl (lv_at hl 1 rfl) ?_
    obtain ⟨i_16, h⟩ := itn h
    refine Yra_7 hx hb hK hP i_16 d_Mo_means_16 ?_
    refine lv_bipush (v := 12) hx hb d_Mo_means_17 (by decide) ?_
    refine lv_icmp_ne (tgt := 26) hx hb d_Mo_means_19 (by decide) (fun c_19 => ?_) (fun c_19 => ?_)
    · replace h := itf c_19 h
      refine lv_iconst (v := 0) hx hb d_Mo_means_26 (by decide) ?_
      exact J_27  _ h _ _ hP hD hS ls (lv_sub hl [0, 1, 2, 3] rfl)
    · replace h := itp c_19 h
      exact J_22   h _ _ hP hD hS ls (lv_sub hl [0, 1, 2, 3] rfl)
def p_Mo_takeName_b204 (x1 : Int32) (x2 : Int32) (σ : Sto) (x5 : Int32) (x6 : Int32) (x7 : Int32) (x8 : Int32) : Option Sto :=
  if inR (σ.1 7) 10 then (if x7 = 0 then
      some (sA σ 19 ((σ.1 7).toNatClampNeg) x6)
    else
      if inR ((sS (sA σ 19 ((σ.1 7).toNatClampNeg) x6) 7 (((sA σ 19 ((σ.1 7).toNatClampNeg) x6).1 7) + 1)).1 7) 10 then if inR ((sA (sS (sA σ 19 ((σ.1 7).toNatClampNeg) x6) 7 (((sA σ 19 ((σ.1 7).toNatClampNeg) x6).1 7) + 1)) 16 (((sS (sA σ 19 ((σ.1 7).toNatClampNeg) x6) 7 (((sA σ 19 ((σ.1 7).toNatClampNeg) x6).1 7) + 1)).1 7).toNatClampNeg) 1).1 7) 10 then (if x8 = 0 then
        if inR ((sA (sA (sS (sA σ 19 ((σ.1 7).toNatClampNeg) x6) 7 (((sA σ 19 ((σ.1 7).toNatClampNeg) x6).1 7) + 1)) 16 (((sS (sA σ 19 ((σ.1 7).toNatClampNeg) x6) 7 (((sA σ 19 ((σ.1 7).toNatClampNeg) x6).1 7) + 1)).1 7).toNatClampNeg) 1) 21 (((sA (sS (sA σ 19 ((σ.1 7).toNatClampNeg) x6) 7 (((sA σ 19 ((σ.1 7).toNatClampNeg) x6).1 7) + 1)) 16 (((sS (sA σ 19 ((σ.1 7).toNatClampNeg) x6) 7 (((sA σ 19 ((σ.1 7).toNatClampNeg) x6).1 7) + 1)).1 7).toNatClampNeg) 1).1 7).toNatClampNeg) 0).1 7) 10 then bd1 (p_Mo_start (sA (sA (sA (sS (sA σ 19 ((σ.1 7).toNatClampNeg) x6) 7 (((sA σ 19 ((σ.1 7).toNatClampNeg) x6).1 7) + 1)) 16 (((sS (sA σ 19 ((σ.1 7).toNatClampNeg) x6) 7 (((sA σ 19 ((σ.1 7).toNatClampNeg) x6).1 7) + 1)).1 7).toNatClampNeg) 1) 21 (((sA (sS (sA σ 19 ((σ.1 7).toNatClampNeg) x6) 7 (((sA σ 19 ((σ.1 7).toNatClampNeg) x6).1 7) + 1)) 16 (((sS (sA σ 19 ((σ.1 7).toNatClampNeg) x6) 7 (((sA σ 19 ((σ.1 7).toNatClampNeg) x6).1 7) + 1)).1 7).toNatClampNeg) 1).1 7).toNatClampNeg) 0) 23 (((sA (sA (sS (sA σ 19 ((σ.1 7).toNatClampNeg) x6) 7 (((sA σ 19 ((σ.1 7).toNatClampNeg) x6).1 7) + 1)) 16 (((sS (sA σ 19 ((σ.1 7).toNatClampNeg) x6) 7 (((sA σ 19 ((σ.1 7).toNatClampNeg) x6).1 7) + 1)).1 7).toNatClampNeg) 1) 21 (((sA (sS (sA σ 19 ((σ.1 7).toNatClampNeg) x6) 7 (((sA σ 19 ((σ.1 7).toNatClampNeg) x6).1 7) + 1)) 16 (((sS (sA σ 19 ((σ.1 7).toNatClampNeg) x6) 7 (((sA σ 19 ((σ.1 7).toNatClampNeg) x6).1 7) + 1)).1 7).toNatClampNeg) 1).1 7).toNatClampNeg) 0).1 7).toNatClampNeg) (-1)) (x1 + 2)) fun σ_275 =>
        some σ_275 else none
      else
        if inR ((sA (sA (sS (sA σ 19 ((σ.1 7).toNatClampNeg) x6) 7 (((sA σ 19 ((σ.1 7).toNatClampNeg) x6).1 7) + 1)) 16 (((sS (sA σ 19 ((σ.1 7).toNatClampNeg) x6) 7 (((sA σ 19 ((σ.1 7).toNatClampNeg) x6).1 7) + 1)).1 7).toNatClampNeg) 1) 21 (((sA (sS (sA σ 19 ((σ.1 7).toNatClampNeg) x6) 7 (((sA σ 19 ((σ.1 7).toNatClampNeg) x6).1 7) + 1)) 16 (((sS (sA σ 19 ((σ.1 7).toNatClampNeg) x6) 7 (((sA σ 19 ((σ.1 7).toNatClampNeg) x6).1 7) + 1)).1 7).toNatClampNeg) 1).1 7).toNatClampNeg) 0).1 7) 10 then bd1 (p_Mo_start (sA (sA (sA (sS (sA σ 19 ((σ.1 7).toNatClampNeg) x6) 7 (((sA σ 19 ((σ.1 7).toNatClampNeg) x6).1 7) + 1)) 16 (((sS (sA σ 19 ((σ.1 7).toNatClampNeg) x6) 7 (((sA σ 19 ((σ.1 7).toNatClampNeg) x6).1 7) + 1)).1 7).toNatClampNeg) 1) 21 (((sA (sS (sA σ 19 ((σ.1 7).toNatClampNeg) x6) 7 (((sA σ 19 ((σ.1 7).toNatClampNeg) x6).1 7) + 1)) 16 (((sS (sA σ 19 ((σ.1 7).toNatClampNeg) x6) 7 (((sA σ 19 ((σ.1 7).toNatClampNeg) x6).1 7) + 1)).1 7).toNatClampNeg) 1).1 7).toNatClampNeg) 0) 23 (((sA (sA (sS (sA σ 19 ((σ.1 7).toNatClampNeg) x6) 7 (((sA σ 19 ((σ.1 7).toNatClampNeg) x6).1 7) + 1)) 16 (((sS (sA σ 19 ((σ.1 7).toNatClampNeg) x6) 7 (((sA σ 19 ((σ.1 7).toNatClampNeg) x6).1 7) + 1)).1 7).toNatClampNeg) 1) 21 (((sA (sS (sA σ 19 ((σ.1 7).toNatClampNeg) x6) 7 (((sA σ 19 ((σ.1 7).toNatClampNeg) x6).1 7) + 1)) 16 (((sS (sA σ 19 ((σ.1 7).toNatClampNeg) x6) 7 (((sA σ 19 ((σ.1 7).toNatClampNeg) x6).1 7) + 1)).1 7).toNatClampNeg) 1).1 7).toNatClampNeg) 0).1 7).toNatClampNeg) x5) (x1 + 2)) fun σ_275 =>
        some σ_275 else none) else none else none) else none
def p_Mo_takeName_b185 (x1 : Int32) (x2 : Int32) (σ : Sto) (x5 : Int32) (x6 : Int32) (x7 : Int32) (s0 : Int32) : Option Sto :=
  (if x5 < 0 then
      p_Mo_takeName_b204 x1 x2 σ x5 x6 x7 s0
    else
      (if s0 = 0 then
        bd1 (p_Mo_note σ x1 8) fun σ_201 =>
        p_Mo_takeName_b204 x1 x2 σ_201 x5 x6 x7 s0
      else
        p_Mo_takeName_b204 x1 x2 σ x5 x6 x7 s0))
def p_Mo_takeName_b184 (x1 : Int32) (x2 : Int32) (σ : Sto) (x5 : Int32) (x6 : Int32) (x7 : Int32) : Option Sto :=
  p_Mo_takeName_b185 x1 x2 σ x5 x6 x7 0
def p_Mo_takeName_b119 (x1 : Int32) (x2 : Int32) (σ : Sto) (x5 : Int32) (s0 : Int32) : Option Sto :=
  if inR x1 124 then (if (σ.2.1 7 x1.toNatClampNeg) = 9 then
      if inR (σ.1 7) 10 then some (sA σ 19 ((σ.1 7).toNatClampNeg) s0) else none
    else
      if inR x1 124 then (if (σ.2.1 7 x1.toNatClampNeg) = 11 then
        if inR (σ.1 7) 10 then some (sA σ 19 ((σ.1 7).toNatClampNeg) s0) else none
      else
        bd1 (p_Mo_arguments σ (x1 + 1)) fun v_159 =>
        (if x5 < 0 then
          p_Mo_takeName_b184 x1 x2 σ x5 s0 v_159
        else
          bd1 (p_Mo_parametersOf σ x5) fun v_172 =>
          (if v_172 = v_159 then
            p_Mo_takeName_b185 x1 x2 σ x5 s0 v_159 1
          else
            p_Mo_takeName_b184 x1 x2 σ x5 s0 v_159))) else none) else none
def p_Mo_takeName_b103 (x1 : Int32) (x2 : Int32) (σ : Sto) (x5 : Int32) : Option Sto :=
  (if (0 : Int32) ≤ x5 then
      bd1 (p_Mo_declared σ x5) fun v_116 =>
      p_Mo_takeName_b119 x1 x2 σ x5 v_116
    else
      p_Mo_takeName_b119 x1 x2 σ x5 (-2))
def p_Mo_takeName_b90 (x1 : Int32) (x2 : Int32) (σ : Sto) (x5 : Int32) : Option Sto :=
  (if x5 < 0 then
      p_Mo_takeName_b103 x1 x2 σ x5
    else
      if inR x1 124 then p_Mo_takeName_b103 x1 x2 (sA σ 14 x1.toNatClampNeg x5) x5 else none)
def p_Mo_takeName_b87 (x1 : Int32) (x2 : Int32) (σ : Sto) (x5 : Int32) (s1 : Int32) (s2 : Int32) : Option Sto :=
  bd1 (p_Mo_note σ s1 s2) fun σ_87 =>
    p_Mo_takeName_b90 x1 x2 σ_87 x5
def p_Mo_takeName_b60 (x1 : Int32) (x2 : Int32) (σ : Sto) (x3 : Int32) (x4 : Int32) (s0 : Int32) : Option Sto :=
  (if (0 : Int32) ≤ s0 then
      p_Mo_takeName_b90 x1 x2 σ s0
    else
      (if x4 = (-2) then
        p_Mo_takeName_b90 x1 x2 σ s0
      else
        (if x3 = 0 then
          p_Mo_takeName_b87 x1 x2 σ s0 x1 6
        else
          p_Mo_takeName_b87 x1 x2 σ s0 x1 7)))
def p_Mo_takeName_b39 (x1 : Int32) (x2 : Int32) (σ : Sto) (x3 : Int32) (s0 : Int32) : Option Sto :=
  (if s0 = (-2) then
      p_Mo_takeName_b60 x1 x2 σ x3 s0 (-1)
    else
      bd1 (p_Mo_means σ x1 x2 s0) fun v_57 =>
      p_Mo_takeName_b60 x1 x2 σ x3 s0 v_57)
def p_Mo_takeName_b16 (x1 : Int32) (x2 : Int32) (σ : Sto) (s0 : Int32) : Option Sto :=
  (if s0 = 0 then
      if inR x1 124 then p_Mo_takeName_b39 x1 x2 σ s0 (σ.2.1 8 x1.toNatClampNeg) else none
    else
      if inR (σ.1 7) 10 then p_Mo_takeName_b39 x1 x2 σ s0 (σ.2.1 19 ((σ.1 7).toNatClampNeg)) else none)
def p_Mo_takeName (σ : Sto) (x1 : Int32) (x2 : Int32) : Option Sto :=
  if inR x1 124 then (if (σ.2.1 7 x1.toNatClampNeg) ≤ 10 then
      p_Mo_takeName_b16 x1 x2 σ 0
    else
      p_Mo_takeName_b16 x1 x2 σ 1) else none
abbrev w_Mo_takeName : List Cond := Cond.code y_Mo_takeName b_Mo_takeName 9 none :: Tg
abbrev r_Mo_takeName : Room := { frames := 6, cells := 0, slots := 0, locals := 138 }
theorem dv_Mo_takeName : y_Mo_takeName.cls = "LanguageServerModel" ∧ y_Mo_takeName.cls ≠ "java/lang/invoke/MethodHandle" ∧ y_Mo_takeName.cls ≠ "java/lang/invoke/VarHandle" ∧ (parseMethodDescriptor y_Mo_takeName.desc).map (fun d => d.parameters.length) = some 2 := by decide +kernel
set_option maxHeartbeats 4000000 in
set_option maxRecDepth 100000 in
theorem c_Mo_takeName (l : Launch) (K : Kst) (A : Nat → Nat) {σ : Sto} {x1 : Int32} {x2 : Int32} {ss : Sto} (h : p_Mo_takeName σ x1 x2 = some ss) : Met l y_Mo_takeName w_Mo_takeName r_Mo_takeName (va_Pc [.ref (A 0), .int x1, .int x2] (YB K A σ)) (YQv K A ss) 0 0 (YF A) := by
  refine Met.ofW (cc := b_Mo_takeName) (maxL := 9) (ret := none) (by decide) rfl ?_
  intro p e s m args below meth c s₁ B hml hv
  obtain ⟨rfl, hP, hK, hD⟩ := hv
  have hx := B.exec
  have hb := B.bytes
  have hr := B.returns
  have hts := atoms_spec (ws := w_Mo_takeName) B.pre
  have hg : ∀ w ∈ Tg, w.before _ s = true := fun w q => hts w (List.mem_cons_of_mem _ q)
  have hown : s.vm.findClass "LanguageServerModel" = some m.cls := findClass_of_methodNamed B.named
  have hlocks := B.notSynchronized
  have hS : va_S (YF A) s.heap s.heap [] := va_S.rf
  have hl := lv_entry ([.ref (A 0), .int x1, .int x2]) (n := 9) (Nat.le_of_ble_eq_true rfl)
  rw [lg_entry_eq]
  generalize (lg_sl ([.ref (A 0), .int x1, .int x2]) ++ List.replicate (9 - (lg_sl ([.ref (A 0), .int x1, .int x2])).length) Slot.unset).toArray = ls at hl ⊢
  have hl : lv_has ls 9 [(0, .ref (A 0)), (1, .int x1), (2, .int x2)] := hl
  generalize hargs : ([.ref (A 0), .int x1, .int x2] : List Value).toArray = args at hg hts ⊢
  obtain ⟨Q, hQ⟩ : ∃ Q, Q = MQ below (YQv K A ss) args s 0 0 (YF A) := ⟨_, rfl⟩
  rw [← hQ]
  have hRet : ∀ (σ : Sto), some σ = some ss → ∀ (H : Heap) (locs : List Loc), va_P K.1 vwCl (wY K A σ) H → va_D (YF A) (wY K A σ) → va_S (YF A) s.heap H locs → ∀ (pc : Nat) (ls : Array Slot), decode b_Mo_takeName pc = .ok (.return_, 1) → W p l e (headSpec w_Mo_takeName r_Mo_takeName).room s m args below meth c H locs 0 0 Q (F0 m pc ls []) := by
    intro σ h H locs hP hD hS pc ls hd
    cases h
    subst hQ
    exact W.vret hx hb hr (fun t ht hW => ⟨⟨(), rfl, trivial, by rw [ht]; exact hP, RK.warm hW hK, hD⟩, hS.F ht⟩) hS.2.2 hd
  clear hQ
  unfold p_Mo_takeName at h
  have J_204 : ∀ (σ : Sto) (x5 : Int32) (x6 : Int32) (x7 : Int32) (x8 : Int32), p_Mo_takeName_b204 x1 x2 σ x5 x6 x7 x8 = some ss → ∀ (H : Heap) (locs : List Loc), va_P K.1 vwCl (wY K A σ) H → va_D (YF A) (wY K A σ) → va_S (YF A) s.heap H locs → ∀ ls : Array Slot, lv_has ls 9 [(0, .ref (A 0)), (1, .int x1), (5, .int x5), (6, .int x6), (7, .int x7), (8, .int x8)] → W p l e (headSpec w_Mo_takeName r_Mo_takeName).room s m args below meth c H locs 0 0 Q (F0 m 204 ls []) := by
    intro  σ x5 x6 x7 x8 h H locs hP hD hS ls hl
    rw [p_Mo_takeName_b204] at h
    refine lv_aload_n hx hb d_Mo_takeName_204 rfl (lv_at hl 0 rfl) ?_
    refine gf_Mo_65 hx hb hg hown hK hP d_Mo_takeName_205 ?_
    refine lv_aload_n hx hb d_Mo_takeName_208 rfl (lv_at hl 0 rfl) ?_
    refine gf_Mo_148 hx hb hg hown hK hP d_Mo_takeName_209 ?_
    refine lv_iload hx hb d_Mo_takeName_212 (lv_at hl 3 rfl) ?_
    obtain ⟨i_214, h⟩ := itn h
    refine Ywa_19 hx hb hK hP hD hS i_214 d_Mo_takeName_214 (fun H locs hP hD hS => ?_)
    refine lv_iload hx hb d_Mo_takeName_215 (lv_at hl 4 rfl) ?_
    refine lv_if_ne (tgt := 221) hx hb d_Mo_takeName_217 (by decide) (fun c_217 => ?_) (fun c_217 => ?_)
    · replace h := itf c_217 h
      refine lv_aload_n hx hb d_Mo_takeName_221 rfl (lv_at hl 0 rfl) ?_
      refine lv_dup hx hb d_Mo_takeName_222 rfl ?_
      refine gf_Mo_148 hx hb hg hown hK hP d_Mo_takeName_223 ?_
      refine lv_iconst (v := 1) hx hb d_Mo_takeName_226 (by decide) ?_
      refine lv_iadd hx hb d_Mo_takeName_227 ?_
      refine pf_Mo_148 hx hb hg hown hK hP hD hS d_Mo_takeName_228 (fun H locs hP hD hS => ?_)
      refine lv_aload_n hx hb d_Mo_takeName_231 rfl (lv_at hl 0 rfl) ?_
      refine gf_Mo_56 hx hb hg hown hK hP d_Mo_takeName_232 ?_
      refine lv_aload_n hx hb d_Mo_takeName_235 rfl (lv_at hl 0 rfl) ?_
      refine gf_Mo_148 hx hb hg hown hK hP d_Mo_takeName_236 ?_
      refine lv_iconst (v := 1) hx hb d_Mo_takeName_239 (by decide) ?_
      obtain ⟨i_240, h⟩ := itn h
      refine Ywa_16 hx hb hK hP hD hS i_240 d_Mo_takeName_240 (fun H locs hP hD hS => ?_)
      refine lv_aload_n hx hb d_Mo_takeName_241 rfl (lv_at hl 0 rfl) ?_
      refine gf_Mo_72 hx hb hg hown hK hP d_Mo_takeName_242 ?_
      refine lv_aload_n hx hb d_Mo_takeName_245 rfl (lv_at hl 0 rfl) ?_
      refine gf_Mo_148 hx hb hg hown hK hP d_Mo_takeName_246 ?_
      refine lv_iconst (v := 0) hx hb d_Mo_takeName_249 (by decide) ?_
      obtain ⟨i_250, h⟩ := itn h
      refine Ywa_21 hx hb hK hP hD hS i_250 d_Mo_takeName_250 (fun H locs hP hD hS => ?_)
      refine lv_aload_n hx hb d_Mo_takeName_251 rfl (lv_at hl 0 rfl) ?_
      refine gf_Mo_78 hx hb hg hown hK hP d_Mo_takeName_252 ?_
      refine lv_aload_n hx hb d_Mo_takeName_255 rfl (lv_at hl 0 rfl) ?_
      refine gf_Mo_148 hx hb hg hown hK hP d_Mo_takeName_256 ?_
      refine lv_iload hx hb d_Mo_takeName_259 (lv_at hl 5 rfl) ?_
      refine lv_if_eq (tgt := 269) hx hb d_Mo_takeName_261 (by decide) (fun c_261 => ?_) (fun c_261 => ?_)
      · replace h := itp c_261 h
        refine lv_iconst (v := (-1)) hx hb d_Mo_takeName_269 (by decide) ?_
        obtain ⟨i_270, h⟩ := itn h
        refine Ywa_23 hx hb hK hP hD hS i_270 d_Mo_takeName_270 (fun H locs hP hD hS => ?_)
        refine lv_aload_n hx hb d_Mo_takeName_271 rfl (lv_at hl 0 rfl) ?_
        refine lv_iload_n hx hb d_Mo_takeName_272 rfl (lv_at hl 1 rfl) ?_
        refine lv_iconst (v := 2) hx hb d_Mo_takeName_273 (by decide) ?_
        refine lv_iadd hx hb d_Mo_takeName_274 ?_
        obtain ⟨σ_275, e_275, h⟩ := bd1_some h
        refine Y_callv (va_runV (As := [.int (x1 + 2)]) (rest := []) ⟨hx, hb, hml, hown, hts⟩ (c_Mo_start l K A e_275) (cwV 1 hts (gd_V wd_1155 wd_1157 wp_70 wd_10 wd_1158) rfl rfl rfl dv_Mo_start ⟨Nat.le_of_ble_eq_true rfl, Nat.le_of_ble_eq_true rfl⟩) (Y_pv_0 hK hP hD) rfl rfl hl.1 rfl (lv_room (Nat.le_of_ble_eq_true rfl)) d_Mo_takeName_275 ⟨Nat.le_of_ble_eq_true rfl, Nat.le_of_ble_eq_true rfl⟩) hS (fun H locs hP hD hS => ?_)
        exact hRet _ h _ _ hP hD hS _ _ d_Mo_takeName_278
      · replace h := itf c_261 h
        refine lv_iload hx hb d_Mo_takeName_264 (lv_at hl 2 rfl) ?_
        refine lv_goto (tgt := 270) hx hb d_Mo_takeName_266 (by decide) ?_
        obtain ⟨i_270, h⟩ := itn h
        refine Ywa_23 hx hb hK hP hD hS i_270 d_Mo_takeName_270 (fun H locs hP hD hS => ?_)
        refine lv_aload_n hx hb d_Mo_takeName_271 rfl (lv_at hl 0 rfl) ?_
        refine lv_iload_n hx hb d_Mo_takeName_272 rfl (lv_at hl 1 rfl) ?_
        refine lv_iconst (v := 2) hx hb d_Mo_takeName_273 (by decide) ?_
        refine lv_iadd hx hb d_Mo_takeName_274 ?_
        obtain ⟨σ_275, e_275, h⟩ := bd1_some h
        refine Y_callv (va_runV (As := [.int (x1 + 2)]) (rest := []) ⟨hx, hb, hml, hown, hts⟩ (c_Mo_start l K A e_275) (cwV 1 hts (gd_V wd_1155 wd_1157 wp_70 wd_10 wd_1158) rfl rfl rfl dv_Mo_start ⟨Nat.le_of_ble_eq_true rfl, Nat.le_of_ble_eq_true rfl⟩) (Y_pv_0 hK hP hD) rfl rfl hl.1 rfl (lv_room (Nat.le_of_ble_eq_true rfl)) d_Mo_takeName_275 ⟨Nat.le_of_ble_eq_true rfl, Nat.le_of_ble_eq_true rfl⟩) hS (fun H locs hP hD hS => ?_)
        exact hRet _ h _ _ hP hD hS _ _ d_Mo_takeName_278
    · replace h := itp c_217 h
      exact hRet _ h _ _ hP hD hS _ _ d_Mo_takeName_220
  have J_185 : ∀ (σ : Sto) (x5 : Int32) (x6 : Int32) (x7 : Int32) (s0 : Int32), p_Mo_takeName_b185 x1 x2 σ x5 x6 x7 s0 = some ss → ∀ (H : Heap) (locs : List Loc), va_P K.1 vwCl (wY K A σ) H → va_D (YF A) (wY K A σ) → va_S (YF A) s.heap H locs → ∀ ls : Array Slot, lv_has ls 9 [(0, .ref (A 0)), (1, .int x1), (5, .int x5), (6, .int x6), (7, .int x7)] → W p l e (headSpec w_Mo_takeName r_Mo_takeName).room s m args below meth c H locs 0 0 Q (F0 m 185 ls [.int s0]) := by
    intro  σ x5 x6 x7 s0 h H locs hP hD hS ls hl
    rw [p_Mo_takeName_b185] at h
    refine lv_istore (lv' := [(8, .int s0), (0, .ref (A 0)), (1, .int x1), (5, .int x5), (6, .int x6), (7, .int x7)]) hx hb d_Mo_takeName_185 hl (by decide) rfl (fun ls hl => ?_)
    refine lv_iload hx hb d_Mo_takeName_187 (lv_at hl 3 rfl) ?_
    refine lv_if_lt (tgt := 204) hx hb d_Mo_takeName_189 (by decide) (fun c_189 => ?_) (fun c_189 => ?_)
    · replace h := itp c_189 h
      exact J_204  _ _ _ _ _ h _ _ hP hD hS ls (lv_sub hl [1, 2, 3, 4, 5, 0] rfl)
    · replace h := itf c_189 h
      refine lv_iload hx hb d_Mo_takeName_192 (lv_at hl 0 rfl) ?_
      refine lv_if_ne (tgt := 204) hx hb d_Mo_takeName_194 (by decide) (fun c_194 => ?_) (fun c_194 => ?_)
      · replace h := itf c_194 h
        exact J_204  _ _ _ _ _ h _ _ hP hD hS ls (lv_sub hl [1, 2, 3, 4, 5, 0] rfl)
      · replace h := itp c_194 h
        refine lv_aload_n hx hb d_Mo_takeName_197 rfl (lv_at hl 1 rfl) ?_
        refine lv_iload_n hx hb d_Mo_takeName_198 rfl (lv_at hl 2 rfl) ?_
        refine lv_bipush (v := 8) hx hb d_Mo_takeName_199 (by decide) ?_
        obtain ⟨σ_201, e_201, h⟩ := bd1_some h
        refine Y_callv (va_runV (As := [.int x1, .int 8]) (rest := []) ⟨hx, hb, hml, hown, hts⟩ (c_Mo_note l K A e_201) (cwV 2 hts (gd_V wd_1124 wd_1126 wp_63 wd_10 wd_1127) rfl rfl rfl dv_Mo_note ⟨Nat.le_of_ble_eq_true rfl, Nat.le_of_ble_eq_true rfl⟩) (Y_pv_0 hK hP hD) rfl rfl hl.1 rfl (lv_room (Nat.le_of_ble_eq_true rfl)) d_Mo_takeName_201 ⟨Nat.le_of_ble_eq_true rfl, Nat.le_of_ble_eq_true rfl⟩) hS (fun H locs hP hD hS => ?_)
        exact J_204  _ _ _ _ _ h _ _ hP hD hS ls (lv_sub hl [1, 2, 3, 4, 5, 0] rfl)
  have J_184 : ∀ (σ : Sto) (x5 : Int32) (x6 : Int32) (x7 : Int32), p_Mo_takeName_b184 x1 x2 σ x5 x6 x7 = some ss → ∀ (H : Heap) (locs : List Loc), va_P K.1 vwCl (wY K A σ) H → va_D (YF A) (wY K A σ) → va_S (YF A) s.heap H locs → ∀ ls : Array Slot, lv_has ls 9 [(0, .ref (A 0)), (1, .int x1), (5, .int x5), (6, .int x6), (7, .int x7)] → W p l e (headSpec w_Mo_takeName r_Mo_takeName).room s m args below meth c H locs 0 0 Q (F0 m 184 ls []) := by
    intro  σ x5 x6 x7 h H locs hP hD hS ls hl
    rw [p_Mo_takeName_b184] at h
    refine lv_iconst (v := 0) hx hb d_Mo_takeName_184 (by decide) ?_
    exact J_185  _ _ _ _ _ h _ _ hP hD hS ls (lv_sub hl [0, 1, 2, 3, 4] rfl)
  have J_119 : ∀ (σ : Sto) (x5 : Int32) (s0 : Int32), p_Mo_takeName_b119 x1 x2 σ x5 s0 = some ss → ∀ (H : Heap) (locs : List Loc), va_P K.1 vwCl (wY K A σ) H → va_D (YF A) (wY K A σ) → va_S (YF A) s.heap H locs → ∀ ls : Array Slot, lv_has ls 9 [(0, .ref (A 0)), (1, .int x1), (5, .int x5)] → W p l e (headSpec w_Mo_takeName r_Mo_takeName).room s m args below meth c H locs 0 0 Q (F0 m 119 ls [.int s0]) := by
    intro  σ x5 s0 h H locs hP hD hS ls hl
    rw [p_Mo_takeName_b119] at h
    refine lv_istore (lv' := [(6, .int s0), (0, .ref (A 0)), (1, .int x1), (5, .int x5)]) hx hb d_Mo_takeName_119 hl (by decide) rfl (fun ls hl => ?_)
    refine lv_aload_n hx hb d_Mo_takeName_121 rfl (lv_at hl 1 rfl) ?_
    refine gf_Mo_29 hx hb hg hown hK hP d_Mo_takeName_122 ?_
    refine lv_iload_n hx hb d_Mo_takeName_125 rfl (lv_at hl 2 rfl) ?_
    obtain ⟨i_126, h⟩ := itn h
    refine Yra_7 hx hb hK hP i_126 d_Mo_takeName_126 ?_
    refine lv_bipush (v := 9) hx hb d_Mo_takeName_127 (by decide) ?_
    refine lv_icmp_eq (tgt := 143) hx hb d_Mo_takeName_129 (by decide) (fun c_129 => ?_) (fun c_129 => ?_)
    · replace h := itp c_129 h
      refine lv_aload_n hx hb d_Mo_takeName_143 rfl (lv_at hl 1 rfl) ?_
      refine gf_Mo_65 hx hb hg hown hK hP d_Mo_takeName_144 ?_
      refine lv_aload_n hx hb d_Mo_takeName_147 rfl (lv_at hl 1 rfl) ?_
      refine gf_Mo_148 hx hb hg hown hK hP d_Mo_takeName_148 ?_
      refine lv_iload hx hb d_Mo_takeName_151 (lv_at hl 0 rfl) ?_
      obtain ⟨i_153, h⟩ := itn h
      refine Ywa_19 hx hb hK hP hD hS i_153 d_Mo_takeName_153 (fun H locs hP hD hS => ?_)
      exact hRet _ h _ _ hP hD hS _ _ d_Mo_takeName_154
    · replace h := itf c_129 h
      refine lv_aload_n hx hb d_Mo_takeName_132 rfl (lv_at hl 1 rfl) ?_
      refine gf_Mo_29 hx hb hg hown hK hP d_Mo_takeName_133 ?_
      refine lv_iload_n hx hb d_Mo_takeName_136 rfl (lv_at hl 2 rfl) ?_
      obtain ⟨i_137, h⟩ := itn h
      refine Yra_7 hx hb hK hP i_137 d_Mo_takeName_137 ?_
      refine lv_bipush (v := 11) hx hb d_Mo_takeName_138 (by decide) ?_
      refine lv_icmp_ne (tgt := 155) hx hb d_Mo_takeName_140 (by decide) (fun c_140 => ?_) (fun c_140 => ?_)
      · replace h := itf c_140 h
        refine lv_aload_n hx hb d_Mo_takeName_155 rfl (lv_at hl 1 rfl) ?_
        refine lv_iload_n hx hb d_Mo_takeName_156 rfl (lv_at hl 2 rfl) ?_
        refine lv_iconst (v := 1) hx hb d_Mo_takeName_157 (by decide) ?_
        refine lv_iadd hx hb d_Mo_takeName_158 ?_
        obtain ⟨v_159, e_159, h⟩ := bd1_some h
        refine Y_calli (va_runV (As := [.int (x1 + 1)]) (rest := []) ⟨hx, hb, hml, hown, hts⟩ (c_Mo_arguments l K A e_159) (cwV 1 hts (gd_V wd_1179 wd_1181 wp_76 wd_10 wd_1182) rfl rfl rfl dv_Mo_arguments ⟨Nat.le_of_ble_eq_true rfl, Nat.le_of_ble_eq_true rfl⟩) (Y_pv_0 hK hP hD) rfl rfl hl.1 rfl (lv_room (Nat.le_of_ble_eq_true rfl)) d_Mo_takeName_159 ⟨Nat.le_of_ble_eq_true rfl, Nat.le_of_ble_eq_true rfl⟩) hS (fun H locs hP hD hS => ?_)
        refine lv_istore (lv' := [(7, .int v_159), (6, .int s0), (0, .ref (A 0)), (1, .int x1), (5, .int x5)]) hx hb d_Mo_takeName_162 hl (by decide) rfl (fun ls hl => ?_)
        refine lv_iload hx hb d_Mo_takeName_164 (lv_at hl 4 rfl) ?_
        refine lv_if_lt (tgt := 184) hx hb d_Mo_takeName_166 (by decide) (fun c_166 => ?_) (fun c_166 => ?_)
        · replace h := itp c_166 h
          exact J_184  _ _ _ _ h _ _ hP hD hS ls (lv_sub hl [2, 3, 4, 1, 0] rfl)
        · replace h := itf c_166 h
          refine lv_aload_n hx hb d_Mo_takeName_169 rfl (lv_at hl 2 rfl) ?_
          refine lv_iload hx hb d_Mo_takeName_170 (lv_at hl 4 rfl) ?_
          obtain ⟨v_172, e_172, h⟩ := bd1_some h
          refine Y_calli (va_runV (As := [.int x5]) (rest := []) ⟨hx, hb, hml, hown, hts⟩ (c_Mo_parametersOf l K A e_172) (cwV 1 hts (gd_V wd_1183 wd_1185 wp_77 wd_10 wd_1186) rfl rfl rfl dv_Mo_parametersOf ⟨Nat.le_of_ble_eq_true rfl, Nat.le_of_ble_eq_true rfl⟩) (Y_pv_0 hK hP hD) rfl rfl hl.1 rfl (lv_room (Nat.le_of_ble_eq_true rfl)) d_Mo_takeName_172 ⟨Nat.le_of_ble_eq_true rfl, Nat.le_of_ble_eq_true rfl⟩) hS (fun H locs hP hD hS => ?_)
          refine lv_iload hx hb d_Mo_takeName_175 (lv_at hl 0 rfl) ?_
          refine lv_icmp_ne (tgt := 184) hx hb d_Mo_takeName_177 (by decide) (fun c_177 => ?_) (fun c_177 => ?_)
          · replace h := itf c_177 h
            exact J_184  _ _ _ _ h _ _ hP hD hS ls (lv_sub hl [2, 3, 4, 1, 0] rfl)
          · replace h := itp c_177 h
            refine lv_iconst (v := 1) hx hb d_Mo_takeName_180 (by decide) ?_
            refine lv_goto (tgt := 185) hx hb d_Mo_takeName_181 (by decide) ?_
            exact J_185  _ _ _ _ _ h _ _ hP hD hS ls (lv_sub hl [2, 3, 4, 1, 0] rfl)
      · replace h := itp c_140 h
        refine lv_aload_n hx hb d_Mo_takeName_143 rfl (lv_at hl 1 rfl) ?_
        refine gf_Mo_65 hx hb hg hown hK hP d_Mo_takeName_144 ?_
        refine lv_aload_n hx hb d_Mo_takeName_147 rfl (lv_at hl 1 rfl) ?_
        refine gf_Mo_148 hx hb hg hown hK hP d_Mo_takeName_148 ?_
        refine lv_iload hx hb d_Mo_takeName_151 (lv_at hl 0 rfl) ?_
        obtain ⟨i_153, h⟩ := itn h
        refine Ywa_19 hx hb hK hP hD hS i_153 d_Mo_takeName_153 (fun H locs hP hD hS => ?_)
        exact hRet _ h _ _ hP hD hS _ _ d_Mo_takeName_154
  have J_103 : ∀ (σ : Sto) (x5 : Int32), p_Mo_takeName_b103 x1 x2 σ x5 = some ss → ∀ (H : Heap) (locs : List Loc), va_P K.1 vwCl (wY K A σ) H → va_D (YF A) (wY K A σ) → va_S (YF A) s.heap H locs → ∀ ls : Array Slot, lv_has ls 9 [(0, .ref (A 0)), (1, .int x1), (5, .int x5)] → W p l e (headSpec w_Mo_takeName r_Mo_takeName).room s m args below meth c H locs 0 0 Q (F0 m 103 ls []) := by
    intro  σ x5 h H locs hP hD hS ls hl
    rw [p_Mo_takeName_b103] at h
    refine lv_iload hx hb d_Mo_takeName_103 (lv_at hl 2 rfl) ?_
    refine lv_if_ge (tgt := 113) hx hb d_Mo_takeName_105 (by decide) (fun c_105 => ?_) (fun c_105 => ?_)
    · replace h := itp c_105 h
      refine lv_aload_n hx hb d_Mo_takeName_113 rfl (lv_at hl 0 rfl) ?_
      refine lv_iload hx hb d_Mo_takeName_114 (lv_at hl 2 rfl) ?_
      obtain ⟨v_116, e_116, h⟩ := bd1_some h
      refine Y_calli (va_runV (As := [.int x5]) (rest := []) ⟨hx, hb, hml, hown, hts⟩ (c_Mo_declared l K A e_116) (cwV 1 hts (gd_V wd_1175 wd_1177 wp_75 wd_10 wd_1178) rfl rfl rfl dv_Mo_declared ⟨Nat.le_of_ble_eq_true rfl, Nat.le_of_ble_eq_true rfl⟩) (Y_pv_0 hK hP hD) rfl rfl hl.1 rfl (lv_room (Nat.le_of_ble_eq_true rfl)) d_Mo_takeName_116 ⟨Nat.le_of_ble_eq_true rfl, Nat.le_of_ble_eq_true rfl⟩) hS (fun H locs hP hD hS => ?_)
      exact J_119  _ _ _ h _ _ hP hD hS ls (lv_sub hl [0, 1, 2] rfl)
    · replace h := itf c_105 h
      refine lv_bipush (v := (-2)) hx hb d_Mo_takeName_108 (by decide) ?_
      refine lv_goto (tgt := 119) hx hb d_Mo_takeName_110 (by decide) ?_
      exact J_119  _ _ _ h _ _ hP hD hS ls (lv_sub hl [0, 1, 2] rfl)
  have J_90 : ∀ (σ : Sto) (x5 : Int32), p_Mo_takeName_b90 x1 x2 σ x5 = some ss → ∀ (H : Heap) (locs : List Loc), va_P K.1 vwCl (wY K A σ) H → va_D (YF A) (wY K A σ) → va_S (YF A) s.heap H locs → ∀ ls : Array Slot, lv_has ls 9 [(0, .ref (A 0)), (1, .int x1), (5, .int x5)] → W p l e (headSpec w_Mo_takeName r_Mo_takeName).room s m args below meth c H locs 0 0 Q (F0 m 90 ls []) := by
    intro  σ x5 h H locs hP hD hS ls hl
    rw [p_Mo_takeName_b90] at h
    refine lv_iload hx hb d_Mo_takeName_90 (lv_at hl 2 rfl) ?_
    refine lv_if_lt (tgt := 103) hx hb d_Mo_takeName_92 (by decide) (fun c_92 => ?_) (fun c_92 => ?_)
    · replace h := itp c_92 h
      exact J_103  _ _ h _ _ hP hD hS ls (lv_sub hl [0, 1, 2] rfl)
    · replace h := itf c_92 h
      refine lv_aload_n hx hb d_Mo_takeName_95 rfl (lv_at hl 0 rfl) ?_
      refine gf_Mo_50 hx hb hg hown hK hP d_Mo_takeName_96 ?_
      refine lv_iload_n hx hb d_Mo_takeName_99 rfl (lv_at hl 1 rfl) ?_
      refine lv_iload hx hb d_Mo_takeName_100 (lv_at hl 2 rfl) ?_
      obtain ⟨i_102, h⟩ := itn h
      refine Ywa_14 hx hb hK hP hD hS i_102 d_Mo_takeName_102 (fun H locs hP hD hS => ?_)
      exact J_103  _ _ h _ _ hP hD hS ls (lv_sub hl [0, 1, 2] rfl)
  have J_87 : ∀ (σ : Sto) (x5 : Int32) (s1 : Int32) (s2 : Int32), p_Mo_takeName_b87 x1 x2 σ x5 s1 s2 = some ss → ∀ (H : Heap) (locs : List Loc), va_P K.1 vwCl (wY K A σ) H → va_D (YF A) (wY K A σ) → va_S (YF A) s.heap H locs → ∀ ls : Array Slot, lv_has ls 9 [(0, .ref (A 0)), (1, .int x1), (5, .int x5)] → W p l e (headSpec w_Mo_takeName r_Mo_takeName).room s m args below meth c H locs 0 0 Q (F0 m 87 ls [.int s2, .int s1, .ref (A 0)]) := by
    intro  σ x5 s1 s2 h H locs hP hD hS ls hl
    rw [p_Mo_takeName_b87] at h
    obtain ⟨σ_87, e_87, h⟩ := bd1_some h
    refine Y_callv (va_runV (As := [.int s1, .int s2]) (rest := []) ⟨hx, hb, hml, hown, hts⟩ (c_Mo_note l K A e_87) (cwV 2 hts (gd_V wd_1124 wd_1126 wp_63 wd_10 wd_1127) rfl rfl rfl dv_Mo_note ⟨Nat.le_of_ble_eq_true rfl, Nat.le_of_ble_eq_true rfl⟩) (Y_pv_0 hK hP hD) rfl rfl hl.1 rfl (lv_room (Nat.le_of_ble_eq_true rfl)) d_Mo_takeName_87 ⟨Nat.le_of_ble_eq_true rfl, Nat.le_of_ble_eq_true rfl⟩) hS (fun H locs hP hD hS => ?_)
    exact J_90  _ _ h _ _ hP hD hS ls (lv_sub hl [0, 1, 2] rfl)
  have J_60 : ∀ (σ : Sto) (x3 : Int32) (x4 : Int32) (s0 : Int32), p_Mo_takeName_b60 x1 x2 σ x3 x4 s0 = some ss → ∀ (H : Heap) (locs : List Loc), va_P K.1 vwCl (wY K A σ) H → va_D (YF A) (wY K A σ) → va_S (YF A) s.heap H locs → ∀ ls : Array Slot, lv_has ls 9 [(0, .ref (A 0)), (1, .int x1), (3, .int x3), (4, .int x4)] → W p l e (headSpec w_Mo_takeName r_Mo_takeName).room s m args below meth c H locs 0 0 Q (F0 m 60 ls [.int s0]) := by
    intro  σ x3 x4 s0 h H locs hP hD hS ls hl
    rw [p_Mo_takeName_b60] at h
    refine lv_istore (lv' := [(5, .int s0), (0, .ref (A 0)), (1, .int x1), (3, .int x3), (4, .int x4)]) hx hb d_Mo_takeName_60 hl (by decide) rfl (fun ls hl => ?_)
    refine lv_iload hx hb d_Mo_takeName_62 (lv_at hl 0 rfl) ?_
    refine lv_if_ge (tgt := 90) hx hb d_Mo_takeName_64 (by decide) (fun c_64 => ?_) (fun c_64 => ?_)
    · replace h := itp c_64 h
      exact J_90  _ _ h _ _ hP hD hS ls (lv_sub hl [1, 2, 0] rfl)
    · replace h := itf c_64 h
      refine lv_iload hx hb d_Mo_takeName_67 (lv_at hl 4 rfl) ?_
      refine lv_bipush (v := (-2)) hx hb d_Mo_takeName_69 (by decide) ?_
      refine lv_icmp_eq (tgt := 90) hx hb d_Mo_takeName_71 (by decide) (fun c_71 => ?_) (fun c_71 => ?_)
      · replace h := itp c_71 h
        exact J_90  _ _ h _ _ hP hD hS ls (lv_sub hl [1, 2, 0] rfl)
      · replace h := itf c_71 h
        refine lv_aload_n hx hb d_Mo_takeName_74 rfl (lv_at hl 1 rfl) ?_
        refine lv_iload_n hx hb d_Mo_takeName_75 rfl (lv_at hl 2 rfl) ?_
        refine lv_iload_n hx hb d_Mo_takeName_76 rfl (lv_at hl 3 rfl) ?_
        refine lv_if_eq (tgt := 85) hx hb d_Mo_takeName_77 (by decide) (fun c_77 => ?_) (fun c_77 => ?_)
        · replace h := itp c_77 h
          refine lv_bipush (v := 6) hx hb d_Mo_takeName_85 (by decide) ?_
          exact J_87  _ _ _ _ h _ _ hP hD hS ls (lv_sub hl [1, 2, 0] rfl)
        · replace h := itf c_77 h
          refine lv_bipush (v := 7) hx hb d_Mo_takeName_80 (by decide) ?_
          refine lv_goto (tgt := 87) hx hb d_Mo_takeName_82 (by decide) ?_
          exact J_87  _ _ _ _ h _ _ hP hD hS ls (lv_sub hl [1, 2, 0] rfl)
  have J_39 : ∀ (σ : Sto) (x3 : Int32) (s0 : Int32), p_Mo_takeName_b39 x1 x2 σ x3 s0 = some ss → ∀ (H : Heap) (locs : List Loc), va_P K.1 vwCl (wY K A σ) H → va_D (YF A) (wY K A σ) → va_S (YF A) s.heap H locs → ∀ ls : Array Slot, lv_has ls 9 [(0, .ref (A 0)), (1, .int x1), (2, .int x2), (3, .int x3)] → W p l e (headSpec w_Mo_takeName r_Mo_takeName).room s m args below meth c H locs 0 0 Q (F0 m 39 ls [.int s0]) := by
    intro  σ x3 s0 h H locs hP hD hS ls hl
    rw [p_Mo_takeName_b39] at h
    refine lv_istore (lv' := [(4, .int s0), (0, .ref (A 0)), (1, .int x1), (2, .int x2), (3, .int x3)]) hx hb d_Mo_takeName_39 hl (by decide) rfl (fun ls hl => ?_)
    refine lv_iload hx hb d_Mo_takeName_41 (lv_at hl 0 rfl) ?_
    refine lv_bipush (v := (-2)) hx hb d_Mo_takeName_43 (by decide) ?_
    refine lv_icmp_ne (tgt := 52) hx hb d_Mo_takeName_45 (by decide) (fun c_45 => ?_) (fun c_45 => ?_)
    · replace h := itf c_45 h
      refine lv_aload_n hx hb d_Mo_takeName_52 rfl (lv_at hl 1 rfl) ?_
      refine lv_iload_n hx hb d_Mo_takeName_53 rfl (lv_at hl 2 rfl) ?_
      refine lv_iload_n hx hb d_Mo_takeName_54 rfl (lv_at hl 3 rfl) ?_
      refine lv_iload hx hb d_Mo_takeName_55 (lv_at hl 0 rfl) ?_
      obtain ⟨v_57, e_57, h⟩ := bd1_some h
      refine Y_calli (va_runV (As := [.int x1, .int x2, .int s0]) (rest := []) ⟨hx, hb, hml, hown, hts⟩ (c_Mo_means l K A e_57) (cwV 3 hts (gd_V wd_1163 wd_1165 wp_72 wd_10 wd_1166) rfl rfl rfl dv_Mo_means ⟨Nat.le_of_ble_eq_true rfl, Nat.le_of_ble_eq_true rfl⟩) (Y_pv_0 hK hP hD) rfl rfl hl.1 rfl (lv_room (Nat.le_of_ble_eq_true rfl)) d_Mo_takeName_57 ⟨Nat.le_of_ble_eq_true rfl, Nat.le_of_ble_eq_true rfl⟩) hS (fun H locs hP hD hS => ?_)
      exact J_60  _ _ _ _ h _ _ hP hD hS ls (lv_sub hl [1, 2, 4, 0] rfl)
    · replace h := itp c_45 h
      refine lv_iconst (v := (-1)) hx hb d_Mo_takeName_48 (by decide) ?_
      refine lv_goto (tgt := 60) hx hb d_Mo_takeName_49 (by decide) ?_
      exact J_60  _ _ _ _ h _ _ hP hD hS ls (lv_sub hl [1, 2, 4, 0] rfl)
  have J_16 : ∀ (σ : Sto) (s0 : Int32), p_Mo_takeName_b16 x1 x2 σ s0 = some ss → ∀ (H : Heap) (locs : List Loc), va_P K.1 vwCl (wY K A σ) H → va_D (YF A) (wY K A σ) → va_S (YF A) s.heap H locs → ∀ ls : Array Slot, lv_has ls 9 [(0, .ref (A 0)), (1, .int x1), (2, .int x2)] → W p l e (headSpec w_Mo_takeName r_Mo_takeName).room s m args below meth c H locs 0 0 Q (F0 m 16 ls [.int s0]) := by
    intro  σ s0 h H locs hP hD hS ls hl
    rw [p_Mo_takeName_b16] at h
    refine lv_istore_n (lv' := [(3, .int s0), (0, .ref (A 0)), (1, .int x1), (2, .int x2)]) hx hb d_Mo_takeName_16 rfl hl (by decide) rfl (fun ls hl => ?_)
    refine lv_iload_n hx hb d_Mo_takeName_17 rfl (lv_at hl 0 rfl) ?_
    refine lv_if_eq (tgt := 33) hx hb d_Mo_takeName_18 (by decide) (fun c_18 => ?_) (fun c_18 => ?_)
    · replace h := itp c_18 h
      refine lv_aload_n hx hb d_Mo_takeName_33 rfl (lv_at hl 1 rfl) ?_
      refine gf_Mo_32 hx hb hg hown hK hP d_Mo_takeName_34 ?_
      refine lv_iload_n hx hb d_Mo_takeName_37 rfl (lv_at hl 2 rfl) ?_
      obtain ⟨i_38, h⟩ := itn h
      refine Yra_8 hx hb hK hP i_38 d_Mo_takeName_38 ?_
      exact J_39  _ _ _ h _ _ hP hD hS ls (lv_sub hl [1, 2, 3, 0] rfl)
    · replace h := itf c_18 h
      refine lv_aload_n hx hb d_Mo_takeName_21 rfl (lv_at hl 1 rfl) ?_
      refine gf_Mo_65 hx hb hg hown hK hP d_Mo_takeName_22 ?_
      refine lv_aload_n hx hb d_Mo_takeName_25 rfl (lv_at hl 1 rfl) ?_
      refine gf_Mo_148 hx hb hg hown hK hP d_Mo_takeName_26 ?_
      obtain ⟨i_29, h⟩ := itn h
      refine Yra_19 hx hb hK hP i_29 d_Mo_takeName_29 ?_
      refine lv_goto (tgt := 39) hx hb d_Mo_takeName_30 (by decide) ?_
      exact J_39  _ _ _ h _ _ hP hD hS ls (lv_sub hl [1, 2, 3, 0] rfl)
  refine lv_aload_n hx hb d_Mo_takeName_0 rfl (lv_at hl 0 rfl) ?_
  refine gf_Mo_29 hx hb hg hown hK hP d_Mo_takeName_1 ?_
  refine lv_iload_n hx hb d_Mo_takeName_4 rfl (lv_at hl 1 rfl) ?_
  obtain ⟨i_5, h⟩ := itn h
  refine Yra_7 hx hb hK hP i_5 d_Mo_takeName_5 ?_
  refine lv_bipush (v := 10) hx hb d_Mo_takeName_6 (by decide) ?_
  refine lv_icmp_le (tgt := 15) hx hb d_Mo_takeName_8 (by decide) (fun c_8 => ?_) (fun c_8 => ?_)
  · replace h := itp c_8 h
    refine lv_iconst (v := 0) hx hb d_Mo_takeName_15 (by decide) ?_
    exact J_16  _ _ h _ _ hP hD hS ls (lv_sub hl [0, 1, 2] rfl)
  · replace h := itf c_8 h
    refine lv_iconst (v := 1) hx hb d_Mo_takeName_11 (by decide) ?_
    refine lv_goto (tgt := 16) hx hb d_Mo_takeName_12 (by decide) ?_
    exact J_16  _ _ h _ _ hP hD hS ls (lv_sub hl [0, 1, 2] rfl)
def p_Mo_over_b35 (σ : Sto) : Option (Int32 × Sto) :=
  if inR (σ.1 7) 10 then (if (σ.2.1 20 ((σ.1 7).toNatClampNeg)) = 0 then
      if inR (σ.1 7) 10 then some (σ.2.1 19 ((σ.1 7).toNatClampNeg), σ) else none
    else
      some ((-1), σ)) else none
def p_Mo_over (σ : Sto) : Option (Int32 × Sto) :=
  if inR (σ.1 7) 10 then (if (σ.2.1 20 ((σ.1 7).toNatClampNeg)) = 0 then
      p_Mo_over_b35 σ
    else
      if inR (σ.1 7) 10 then if inR (σ.1 7) 10 then bd1 (p_Mo_should σ (σ.2.1 19 ((σ.1 7).toNatClampNeg)) (-1) (σ.2.1 18 ((σ.1 7).toNatClampNeg))) fun σ_32 =>
      p_Mo_over_b35 σ_32 else none else none) else none
abbrev w_Mo_over : List Cond := Cond.code y_Mo_over b_Mo_over 1 (some .int) :: Tg
abbrev r_Mo_over : Room := { frames := 6, cells := 0, slots := 0, locals := 134 }
theorem dv_Mo_over : y_Mo_over.cls = "LanguageServerModel" ∧ y_Mo_over.cls ≠ "java/lang/invoke/MethodHandle" ∧ y_Mo_over.cls ≠ "java/lang/invoke/VarHandle" ∧ (parseMethodDescriptor y_Mo_over.desc).map (fun d => d.parameters.length) = some 0 := by decide +kernel
set_option maxHeartbeats 4000000 in
set_option maxRecDepth 100000 in
theorem c_Mo_over (l : Launch) (K : Kst) (A : Nat → Nat) {σ : Sto} {rr : Int32} {ss : Sto} (h : p_Mo_over σ = some (rr, ss)) : Met l y_Mo_over w_Mo_over r_Mo_over (va_Pc [.ref (A 0)] (YB K A σ)) (YQi K A rr ss) 0 0 (YF A) := by
  refine Met.ofW (cc := b_Mo_over) (maxL := 1) (ret := (some .int)) (by decide) rfl ?_
  intro p e s m args below meth c s₁ B hml hv
  obtain ⟨rfl, hP, hK, hD⟩ := hv
  have hx := B.exec
  have hb := B.bytes
  have hr := B.returns
  have hts := atoms_spec (ws := w_Mo_over) B.pre
  have hg : ∀ w ∈ Tg, w.before _ s = true := fun w q => hts w (List.mem_cons_of_mem _ q)
  have hown : s.vm.findClass "LanguageServerModel" = some m.cls := findClass_of_methodNamed B.named
  have hlocks := B.notSynchronized
  have hS : va_S (YF A) s.heap s.heap [] := va_S.rf
  have hl := lv_entry ([.ref (A 0)]) (n := 1) (Nat.le_of_ble_eq_true rfl)
  rw [lg_entry_eq]
  generalize (lg_sl ([.ref (A 0)]) ++ List.replicate (1 - (lg_sl ([.ref (A 0)])).length) Slot.unset).toArray = ls at hl ⊢
  have hl : lv_has ls 1 [(0, .ref (A 0))] := hl
  generalize hargs : ([.ref (A 0)] : List Value).toArray = args at hg hts ⊢
  obtain ⟨Q, hQ⟩ : ∃ Q, Q = MQ below (YQi K A rr ss) args s 0 0 (YF A) := ⟨_, rfl⟩
  rw [← hQ]
  have hRet : ∀ (v : Int32) (σ : Sto), some (v, σ) = some (rr, ss) → ∀ (H : Heap) (locs : List Loc), va_P K.1 vwCl (wY K A σ) H → va_D (YF A) (wY K A σ) → va_S (YF A) s.heap H locs → ∀ (pc : Nat) (ls : Array Slot), decode b_Mo_over pc = .ok (.ireturn, 1) → W p l e (headSpec w_Mo_over r_Mo_over).room s m args below meth c H locs 0 0 Q (F0 m pc ls [.int v]) := by
    intro v σ h H locs hP hD hS pc ls hd
    cases h
    subst hQ
    exact W.iret hx hb hr (fun t ht hW => ⟨⟨_, (), rfl, rfl, by rw [ht]; exact hP, RK.warm hW hK, hD⟩, hS.F ht⟩) hS.2.2 hd
  clear hQ
  unfold p_Mo_over at h
  have J_35 : ∀ (σ : Sto), p_Mo_over_b35 σ = some (rr, ss) → ∀ (H : Heap) (locs : List Loc), va_P K.1 vwCl (wY K A σ) H → va_D (YF A) (wY K A σ) → va_S (YF A) s.heap H locs → ∀ ls : Array Slot, lv_has ls 1 [(0, .ref (A 0))] → W p l e (headSpec w_Mo_over r_Mo_over).room s m args below meth c H locs 0 0 Q (F0 m 35 ls []) := by
    intro  σ h H locs hP hD hS ls hl
    rw [p_Mo_over_b35] at h
    refine lv_aload_n hx hb d_Mo_over_35 rfl (lv_at hl 0 rfl) ?_
    refine gf_Mo_68 hx hb hg hown hK hP d_Mo_over_36 ?_
    refine lv_aload_n hx hb d_Mo_over_39 rfl (lv_at hl 0 rfl) ?_
    refine gf_Mo_148 hx hb hg hown hK hP d_Mo_over_40 ?_
    obtain ⟨i_43, h⟩ := itn h
    refine Yra_20 hx hb hK hP i_43 d_Mo_over_43 ?_
    refine lv_if_eq (tgt := 51) hx hb d_Mo_over_44 (by decide) (fun c_44 => ?_) (fun c_44 => ?_)
    · replace h := itp c_44 h
      refine lv_aload_n hx hb d_Mo_over_51 rfl (lv_at hl 0 rfl) ?_
      refine gf_Mo_65 hx hb hg hown hK hP d_Mo_over_52 ?_
      refine lv_aload_n hx hb d_Mo_over_55 rfl (lv_at hl 0 rfl) ?_
      refine gf_Mo_148 hx hb hg hown hK hP d_Mo_over_56 ?_
      obtain ⟨i_59, h⟩ := itn h
      refine Yra_19 hx hb hK hP i_59 d_Mo_over_59 ?_
      exact hRet _ _ h _ _ hP hD hS _ _ d_Mo_over_60
    · replace h := itf c_44 h
      refine lv_iconst (v := (-1)) hx hb d_Mo_over_47 (by decide) ?_
      refine lv_goto (tgt := 60) hx hb d_Mo_over_48 (by decide) ?_
      exact hRet _ _ h _ _ hP hD hS _ _ d_Mo_over_60
  refine lv_aload_n hx hb d_Mo_over_0 rfl (lv_at hl 0 rfl) ?_
  refine gf_Mo_68 hx hb hg hown hK hP d_Mo_over_1 ?_
  refine lv_aload_n hx hb d_Mo_over_4 rfl (lv_at hl 0 rfl) ?_
  refine gf_Mo_148 hx hb hg hown hK hP d_Mo_over_5 ?_
  obtain ⟨i_8, h⟩ := itn h
  refine Yra_20 hx hb hK hP i_8 d_Mo_over_8 ?_
  refine lv_if_eq (tgt := 35) hx hb d_Mo_over_9 (by decide) (fun c_9 => ?_) (fun c_9 => ?_)
  · replace h := itp c_9 h
    exact J_35  _ h _ _ hP hD hS ls (lv_sub hl [0] rfl)
  · replace h := itf c_9 h
    refine lv_aload_n hx hb d_Mo_over_12 rfl (lv_at hl 0 rfl) ?_
    refine lv_aload_n hx hb d_Mo_over_13 rfl (lv_at hl 0 rfl) ?_
    refine gf_Mo_65 hx hb hg hown hK hP d_Mo_over_14 ?_
    refine lv_aload_n hx hb d_Mo_over_17 rfl (lv_at hl 0 rfl) ?_
    refine gf_Mo_148 hx hb hg hown hK hP d_Mo_over_18 ?_
    obtain ⟨i_21, h⟩ := itn h
    refine Yra_19 hx hb hK hP i_21 d_Mo_over_21 ?_
    refine lv_iconst (v := (-1)) hx hb d_Mo_over_22 (by decide) ?_
    refine lv_aload_n hx hb d_Mo_over_23 rfl (lv_at hl 0 rfl) ?_
    refine gf_Mo_62 hx hb hg hown hK hP d_Mo_over_24 ?_
    refine lv_aload_n hx hb d_Mo_over_27 rfl (lv_at hl 0 rfl) ?_
    refine gf_Mo_148 hx hb hg hown hK hP d_Mo_over_28 ?_
    obtain ⟨i_31, h⟩ := itn h
    refine Yra_18 hx hb hK hP i_31 d_Mo_over_31 ?_
    obtain ⟨σ_32, e_32, h⟩ := bd1_some h
    refine Y_callv (va_runV (As := [.int (σ.2.1 19 ((σ.1 7).toNatClampNeg)), .int (-1), .int (σ.2.1 18 ((σ.1 7).toNatClampNeg))]) (rest := []) ⟨hx, hb, hml, hown, hts⟩ (c_Mo_should l K A e_32) (cwV 3 hts (gd_V wd_1195 wd_1197 wp_80 wd_10 wd_1198) rfl rfl rfl dv_Mo_should ⟨Nat.le_of_ble_eq_true rfl, Nat.le_of_ble_eq_true rfl⟩) (Y_pv_0 hK hP hD) rfl rfl hl.1 rfl (lv_room (Nat.le_of_ble_eq_true rfl)) d_Mo_over_32 ⟨Nat.le_of_ble_eq_true rfl, Nat.le_of_ble_eq_true rfl⟩) hS (fun H locs hP hD hS => ?_)
    exact J_35  _ h _ _ hP hD hS ls (lv_sub hl [0] rfl)
