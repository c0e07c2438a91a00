def p_Reading_touch (σ : Sto) : Option Sto :=
  some (sS σ 0 1)
abbrev w_Reading_touch : List Cond := Cond.code y_Reading_touch b_Reading_touch 1 none :: Tg
abbrev r_Reading_touch : Room := { frames := 0, cells := 0, slots := 0, locals := 0 }
theorem dv_Reading_touch : y_Reading_touch.cls = "LanguageServer$Reading" ∧ y_Reading_touch.cls ≠ "java/lang/invoke/MethodHandle" ∧ y_Reading_touch.cls ≠ "java/lang/invoke/VarHandle" ∧ (parseMethodDescriptor y_Reading_touch.desc).map (fun d => d.parameters.length) = some 0 := by decide +kernel
set_option maxHeartbeats 4000000 in
set_option maxRecDepth 100000 in
theorem c_Reading_touch (l : Launch) (K : Kst) (A : Nat → Nat) {σ : Sto} {ss : Sto} (h : p_Reading_touch σ = some ss) : Met l y_Reading_touch w_Reading_touch r_Reading_touch (va_Pc [.ref (A 0)] (RB K A σ)) (RQv K A ss) 0 0 (RF A) := by
  refine Met.ofW (cc := b_Reading_touch) (maxL := 1) (ret := none) (by decide) rfl ?_
  intro p e s m args below meth c s₁ B hml hv
  obtain ⟨rfl, hP, hK, hD⟩ := hv
  have hx := B.exec
  have hb := B.bytes
  have hr := B.returns
  have hts := atoms_spec (ws := w_Reading_touch) B.pre
  have hg : ∀ w ∈ Tg, w.before _ s = true := fun w q => hts w (List.mem_cons_of_mem _ q)
  have hown : s.vm.findClass "LanguageServer$Reading" = some m.cls := findClass_of_methodNamed B.named
  have hlocks := B.notSynchronized
  have hS : va_S (RF A) s.heap s.heap [] := va_S.rf
  have hl := lv_entry ([.ref (A 0)]) (n := 1) (Nat.le_of_ble_eq_true rfl)
  rw [lg_entry_eq]
  generalize (lg_sl ([.ref (A 0)]) ++ List.replicate (1 - (lg_sl ([.ref (A 0)])).length) Slot.unset).toArray = ls at hl ⊢
  have hl : lv_has ls 1 [(0, .ref (A 0))] := hl
  generalize hargs : ([.ref (A 0)] : List Value).toArray = args at hg hts ⊢
  obtain ⟨Q, hQ⟩ : ∃ Q, Q = MQ below (RQv K A ss) args s 0 0 (RF A) := ⟨_, rfl⟩
  rw [← hQ]
  have hRet : ∀ (σ : Sto), some σ = some ss → ∀ (H : Heap) (locs : List Loc), va_P K.1 vwCl (wR K A σ) H → va_D (RF A) (wR K A σ) → va_S (RF A) s.heap H locs → ∀ (pc : Nat) (ls : Array Slot), decode b_Reading_touch pc = .ok (.return_, 1) → W p l e (headSpec w_Reading_touch r_Reading_touch).room s m args below meth c H locs 0 0 Q (F0 m pc ls []) := by
    intro σ h H locs hP hD hS pc ls hd
    cases h
    subst hQ
    exact W.vret hx hb hr (fun t ht hW => ⟨⟨(), rfl, trivial, by rw [ht]; exact hP, RK.warm hW hK, hD⟩, hS.F ht⟩) hS.2.2 hd
  clear hQ
  unfold p_Reading_touch at h
  refine lv_aload_n hx hb d_Reading_touch_0 rfl (lv_at hl 0 rfl) ?_
  refine lv_iconst (v := 1) hx hb d_Reading_touch_1 (by decide) ?_
  refine pf_Reading_64 hx hb hg hown hK hP hD hS d_Reading_touch_2 rfl rfl (fun H locs hP hD hS => ?_)
  exact hRet _ h _ _ hP hD hS _ _ d_Reading_touch_5
def p_Reading_refresh (σ : Sto) : Option Sto :=
  (if (σ.1 0) = 0 then
      some σ
    else
      bd1 (p_Tokens_cut (sS σ 0 0)) fun σ_21 =>
      bd1 (p_Parser_parse σ_21) fun σ_28 =>
      bd1 (p_Complaints_hasFault σ_28) fun v_35 =>
      (if v_35 = 0 then
        bd1 (p_Declarer_declare σ_28) fun σ_45 =>
        bd1 (p_Judge_judge σ_45) fun σ_52 =>
        some σ_52
      else
        some σ_28))
abbrev w_Reading_refresh : List Cond := Cond.code y_Reading_refresh b_Reading_refresh 1 none :: Tg
abbrev r_Reading_refresh : Room := { frames := 6, cells := 0, slots := 0, locals := 142 }
theorem dv_Reading_refresh : y_Reading_refresh.cls = "LanguageServer$Reading" ∧ y_Reading_refresh.cls ≠ "java/lang/invoke/MethodHandle" ∧ y_Reading_refresh.cls ≠ "java/lang/invoke/VarHandle" ∧ (parseMethodDescriptor y_Reading_refresh.desc).map (fun d => d.parameters.length) = some 0 := by decide +kernel
set_option maxHeartbeats 4000000 in
set_option maxRecDepth 100000 in
theorem c_Reading_refresh (l : Launch) (K : Kst) (A : Nat → Nat) {σ : Sto} {ss : Sto} (h : p_Reading_refresh σ = some ss) : Met l y_Reading_refresh w_Reading_refresh r_Reading_refresh (va_Pc [.ref (A 0)] (RB K A σ)) (RQv K A ss) 0 0 (RF A) := by
  refine Met.ofW (cc := b_Reading_refresh) (maxL := 1) (ret := none) (by decide) rfl ?_
  intro p e s m args below meth c s₁ B hml hv
  obtain ⟨rfl, hP, hK, hD⟩ := hv
  have hx := B.exec
  have hb := B.bytes
  have hr := B.returns
  have hts := atoms_spec (ws := w_Reading_refresh) B.pre
  have hg : ∀ w ∈ Tg, w.before _ s = true := fun w q => hts w (List.mem_cons_of_mem _ q)
  have hown : s.vm.findClass "LanguageServer$Reading" = some m.cls := findClass_of_methodNamed B.named
  have hlocks := B.notSynchronized
  have hS : va_S (RF A) s.heap s.heap [] := va_S.rf
  have hl := lv_entry ([.ref (A 0)]) (n := 1) (Nat.le_of_ble_eq_true rfl)
  rw [lg_entry_eq]
  generalize (lg_sl ([.ref (A 0)]) ++ List.replicate (1 - (lg_sl ([.ref (A 0)])).length) Slot.unset).toArray = ls at hl ⊢
  have hl : lv_has ls 1 [(0, .ref (A 0))] := hl
  generalize hargs : ([.ref (A 0)] : List Value).toArray = args at hg hts ⊢
  obtain ⟨Q, hQ⟩ : ∃ Q, Q = MQ below (RQv K A ss) args s 0 0 (RF A) := ⟨_, rfl⟩
  rw [← hQ]
  have hRet : ∀ (σ : Sto), some σ = some ss → ∀ (H : Heap) (locs : List Loc), va_P K.1 vwCl (wR K A σ) H → va_D (RF A) (wR K A σ) → va_S (RF A) s.heap H locs → ∀ (pc : Nat) (ls : Array Slot), decode b_Reading_refresh pc = .ok (.return_, 1) → W p l e (headSpec w_Reading_refresh r_Reading_refresh).room s m args below meth c H locs 0 0 Q (F0 m pc ls []) := by
    intro σ h H locs hP hD hS pc ls hd
    cases h
    subst hQ
    exact W.vret hx hb hr (fun t ht hW => ⟨⟨(), rfl, trivial, by rw [ht]; exact hP, RK.warm hW hK, hD⟩, hS.F ht⟩) hS.2.2 hd
  clear hQ
  unfold p_Reading_refresh at h
  refine lv_aload_n hx hb d_Reading_refresh_0 rfl (lv_at hl 0 rfl) ?_
  refine gf_Reading_64 hx hb hg hown hK hP d_Reading_refresh_1 ?_
  refine lv_if_ne (tgt := 8) hx hb d_Reading_refresh_4 (by decide) (fun c_4 => ?_) (fun c_4 => ?_)
  · replace h := itf c_4 h
    refine lv_aload_n hx hb d_Reading_refresh_8 rfl (lv_at hl 0 rfl) ?_
    refine lv_iconst (v := 0) hx hb d_Reading_refresh_9 (by decide) ?_
    refine pf_Reading_64 hx hb hg hown hK hP hD hS d_Reading_refresh_10 rfl rfl (fun H locs hP hD hS => ?_)
    refine lv_aload_n hx hb d_Reading_refresh_13 rfl (lv_at hl 0 rfl) ?_
    refine gf_Reading_21 hx hb hg hown hK hP d_Reading_refresh_14 ?_
    refine lv_aload_n hx hb d_Reading_refresh_17 rfl (lv_at hl 0 rfl) ?_
    refine gf_Reading_12 hx hb hg hown hK hP d_Reading_refresh_18 ?_
    obtain ⟨σ_21, e_21, h⟩ := bd1_some h
    refine R_callv (va_runV (As := [.ref (A 1)]) (rest := []) ⟨hx, hb, hml, hown, hts⟩ (c_Tokens_cut l K A e_21) (cwV 1 hts (gd_V wd_313 wd_314 wd_315 wd_4 wd_316) rfl rfl rfl dv_Tokens_cut ⟨Nat.le_of_ble_eq_true rfl, Nat.le_of_ble_eq_true rfl⟩) (R_pv_3 hK hP hD) rfl rfl hl.1 rfl (lv_room (Nat.le_of_ble_eq_true rfl)) d_Reading_refresh_21 ⟨Nat.le_of_ble_eq_true rfl, Nat.le_of_ble_eq_true rfl⟩) hS (fun H locs hP hD hS => ?_)
    refine lv_aload_n hx hb d_Reading_refresh_24 rfl (lv_at hl 0 rfl) ?_
    refine gf_Reading_46 hx hb hg hown hK hP d_Reading_refresh_25 ?_
    obtain ⟨σ_28, e_28, h⟩ := bd1_some h
    refine R_callv (va_runV (As := []) (rest := []) ⟨hx, hb, hml, hown, hts⟩ (c_Parser_parse l K A e_28) (cwV 0 hts (gd_V wd_348 wd_349 wd_350 wd_7 wd_351) rfl rfl rfl dv_Parser_parse ⟨Nat.le_of_ble_eq_true rfl, Nat.le_of_ble_eq_true rfl⟩) (R_pv_18 hK hP hD) rfl rfl hl.1 rfl (lv_room (Nat.le_of_ble_eq_true rfl)) d_Reading_refresh_28 ⟨Nat.le_of_ble_eq_true rfl, Nat.le_of_ble_eq_true rfl⟩) hS (fun H locs hP hD hS => ?_)
    refine lv_aload_n hx hb d_Reading_refresh_31 rfl (lv_at hl 0 rfl) ?_
    refine gf_Reading_37 hx hb hg hown hK hP d_Reading_refresh_32 ?_
    obtain ⟨v_35, e_35, h⟩ := bd1_some h
    refine R_calli (va_runV (As := []) (rest := []) ⟨hx, hb, hml, hown, hts⟩ (c_Complaints_hasFault l K A e_35) (cwV 0 hts (gd_V wd_455 wd_456 wd_457 wd_6 wd_458) rfl rfl rfl dv_Complaints_hasFault ⟨Nat.le_of_ble_eq_true rfl, Nat.le_of_ble_eq_true rfl⟩) (R_pv_16 hK hP hD) rfl rfl hl.1 rfl (lv_room (Nat.le_of_ble_eq_true rfl)) d_Reading_refresh_35 ⟨Nat.le_of_ble_eq_true rfl, Nat.le_of_ble_eq_true rfl⟩) hS (fun H locs hP hD hS => ?_)
    refine lv_if_ne (tgt := 55) hx hb d_Reading_refresh_38 (by decide) (fun c_38 => ?_) (fun c_38 => ?_)
    · replace h := itf c_38 h
      exact hRet _ h _ _ hP hD hS _ _ d_Reading_refresh_55
    · replace h := itp c_38 h
      refine lv_aload_n hx hb d_Reading_refresh_41 rfl (lv_at hl 0 rfl) ?_
      refine gf_Reading_53 hx hb hg hown hK hP d_Reading_refresh_42 ?_
      obtain ⟨σ_45, e_45, h⟩ := bd1_some h
      refine R_callv (va_runV (As := []) (rest := []) ⟨hx, hb, hml, hown, hts⟩ (c_Declarer_declare l K A e_45) (cwV 0 hts (gd_V wd_459 wd_460 wd_461 wd_8 wd_462) rfl rfl rfl dv_Declarer_declare ⟨Nat.le_of_ble_eq_true rfl, Nat.le_of_ble_eq_true rfl⟩) (R_pv_20 hK hP hD) rfl rfl hl.1 rfl (lv_room (Nat.le_of_ble_eq_true rfl)) d_Reading_refresh_45 ⟨Nat.le_of_ble_eq_true rfl, Nat.le_of_ble_eq_true rfl⟩) hS (fun H locs hP hD hS => ?_)
      refine lv_aload_n hx hb d_Reading_refresh_48 rfl (lv_at hl 0 rfl) ?_
      refine gf_Reading_60 hx hb hg hown hK hP d_Reading_refresh_49 ?_
      obtain ⟨σ_52, e_52, h⟩ := bd1_some h
      refine R_callv (va_runV (As := []) (rest := []) ⟨hx, hb, hml, hown, hts⟩ (c_Judge_judge l K A e_52) (cwV 0 hts (gd_V wd_506 wd_507 wd_508 wd_9 wd_509) rfl rfl rfl dv_Judge_judge ⟨Nat.le_of_ble_eq_true rfl, Nat.le_of_ble_eq_true rfl⟩) (R_pv_22 hK hP hD) rfl rfl hl.1 rfl (lv_room (Nat.le_of_ble_eq_true rfl)) d_Reading_refresh_52 ⟨Nat.le_of_ble_eq_true rfl, Nat.le_of_ble_eq_true rfl⟩) hS (fun H locs hP hD hS => ?_)
      exact hRet _ h _ _ hP hD hS _ _ d_Reading_refresh_55
  · replace h := itp c_4 h
    exact hRet _ h _ _ hP hD hS _ _ d_Reading_refresh_7
def p_Reading_declarationAt_L2 (σ : Sto) (x1 : Int32) : Nat → Int32 → Option Int32
  | 0, _ => none
  | n + 1, x2 =>
    (if (σ.1 3) ≤ x2 then
        some (-1)
      else
        if inR x2 121 then (if x1 < (σ.2.1 4 x2.toNatClampNeg) then
          p_Reading_declarationAt_L2 σ x1 n (x2 + 1)
        else
          if inR x2 121 then (if (σ.2.1 5 x2.toNatClampNeg) ≤ x1 then
            p_Reading_declarationAt_L2 σ x1 n (x2 + 1)
          else
            if inR x2 121 then some (σ.2.1 11 x2.toNatClampNeg) else none) else none) else none)
def p_Reading_declarationAt (σ : Sto) (x1 : Int32) : Option Int32 :=
  p_Reading_declarationAt_L2 σ x1 FU 0
abbrev w_Reading_declarationAt : List Cond := Cond.code y_Reading_declarationAt b_Reading_declarationAt 3 (some .int) :: Tg
abbrev r_Reading_declarationAt : Room := { frames := 0, cells := 0, slots := 0, locals := 0 }
theorem dv_Reading_declarationAt : y_Reading_declarationAt.cls = "LanguageServer$Reading" ∧ y_Reading_declarationAt.cls ≠ "java/lang/invoke/MethodHandle" ∧ y_Reading_declarationAt.cls ≠ "java/lang/invoke/VarHandle" ∧ (parseMethodDescriptor y_Reading_declarationAt.desc).map (fun d => d.parameters.length) = some 1 := by decide +kernel
set_option maxHeartbeats 4000000 in
set_option maxRecDepth 100000 in
theorem c_Reading_declarationAt (l : Launch) (K : Kst) (A : Nat → Nat) {σ : Sto} {x1 : Int32} {rr : Int32} (h : p_Reading_declarationAt σ x1 = some rr) : Met l y_Reading_declarationAt w_Reading_declarationAt r_Reading_declarationAt (va_Pc [.ref (A 0), .int x1] (RB K A σ)) (RQi K A rr σ) 0 0 (RF A) := by
  refine Met.ofW (cc := b_Reading_declarationAt) (maxL := 3) (ret := (some .int)) (by decide) rfl ?_
  intro p e s m args below meth c s₁ B hml hv
  obtain ⟨rfl, hP, hK, hD⟩ := hv
  have hx := B.exec
  have hb := B.bytes
  have hr := B.returns
  have hts := atoms_spec (ws := w_Reading_declarationAt) B.pre
  have hg : ∀ w ∈ Tg, w.before _ s = true := fun w q => hts w (List.mem_cons_of_mem _ q)
  have hown : s.vm.findClass "LanguageServer$Reading" = some m.cls := findClass_of_methodNamed B.named
  have hlocks := B.notSynchronized
  have hS : va_S (RF A) s.heap s.heap [] := va_S.rf
  have hl := lv_entry ([.ref (A 0), .int x1]) (n := 3) (Nat.le_of_ble_eq_true rfl)
  rw [lg_entry_eq]
  generalize (lg_sl ([.ref (A 0), .int x1]) ++ List.replicate (3 - (lg_sl ([.ref (A 0), .int x1])).length) Slot.unset).toArray = ls at hl ⊢
  have hl : lv_has ls 3 [(0, .ref (A 0)), (1, .int x1)] := hl
  generalize hargs : ([.ref (A 0), .int x1] : List Value).toArray = args at hg hts ⊢
  obtain ⟨Q, hQ⟩ : ∃ Q, Q = MQ below (RQi K A rr σ) args s 0 0 (RF A) := ⟨_, rfl⟩
  rw [← hQ]
  have hRet : ∀ (v : Int32), some v = some rr → ∀ (H : Heap) (locs : List Loc), va_P K.1 vwCl (wR K A σ) H → va_D (RF A) (wR K A σ) → va_S (RF A) s.heap H locs → ∀ (pc : Nat) (ls : Array Slot), decode b_Reading_declarationAt pc = .ok (.ireturn, 1) → W p l e (headSpec w_Reading_declarationAt r_Reading_declarationAt).room s m args below meth c H locs 0 0 Q (F0 m pc ls [.int v]) := by
    intro v h H locs hP hD hS pc ls hd
    cases h
    subst hQ
    exact W.iret hx hb hr (fun t ht hW => ⟨⟨_, (), rfl, rfl, by rw [ht]; exact hP, RK.warm hW hK, hD⟩, hS.F ht⟩) hS.2.2 hd
  clear hQ
  unfold p_Reading_declarationAt at h
  have L_2 : ∀ (n : Nat) (x2 : Int32), p_Reading_declarationAt_L2 σ x1 n x2 = some rr → ∀ (H : Heap) (locs : List Loc), va_P K.1 vwCl (wR K A σ) H → va_D (RF A) (wR K A σ) → va_S (RF A) s.heap H locs → ∀ ls : Array Slot, lv_has ls 3 [(0, .ref (A 0)), (1, .int x1), (2, .int x2)] → W p l e (headSpec w_Reading_declarationAt r_Reading_declarationAt).room s m args below meth c H locs 0 0 Q (F0 m 2 ls []) := by
    intro n
    induction n with
    | zero => intro _ h; cases h
    | succ n ih =>
      intro x2 h H locs hP hD hS ls hl
      rw [p_Reading_declarationAt_L2] at h
      refine lv_iload_n hx hb d_Reading_declarationAt_2 rfl (lv_at hl 2 rfl) ?_
      refine lv_aload_n hx hb d_Reading_declarationAt_3 rfl (lv_at hl 0 rfl) ?_
      refine gf_Reading_30 hx hb hg hown hK hP d_Reading_declarationAt_4 ?_
      refine gf_Reading_84 hx hb hg hown hK hP d_Reading_declarationAt_7 ?_
      refine lv_icmp_ge (tgt := 55) hx hb d_Reading_declarationAt_10 (by decide) (fun c_10 => ?_) (fun c_10 => ?_)
      · replace h := itp c_10 h
        refine lv_iconst (v := (-1)) hx hb d_Reading_declarationAt_55 (by decide) ?_
        exact hRet _ h _ _ hP hD hS _ _ d_Reading_declarationAt_56
      · replace h := itf c_10 h
        refine lv_aload_n hx hb d_Reading_declarationAt_13 rfl (lv_at hl 0 rfl) ?_
        refine gf_Reading_21 hx hb hg hown hK hP d_Reading_declarationAt_14 ?_
        refine gf_Reading_88 hx hb hg hown hK hP d_Reading_declarationAt_17 ?_
        refine lv_iload_n hx hb d_Reading_declarationAt_20 rfl (lv_at hl 2 rfl) ?_
        obtain ⟨i_21, h⟩ := itn h
        refine ra_4 hx hb hK hP i_21 d_Reading_declarationAt_21 ?_
        refine lv_iload_n hx hb d_Reading_declarationAt_22 rfl (lv_at hl 1 rfl) ?_
        refine lv_icmp_gt (tgt := 49) hx hb d_Reading_declarationAt_23 (by decide) (fun c_23 => ?_) (fun c_23 => ?_)
        · replace h := itp c_23 h
          refine lv_iinc (v := x2 + 1) (lv' := [(2, .int (x2 + 1)), (0, .ref (A 0)), (1, .int x1)]) hx hb d_Reading_declarationAt_49 hl (k := 2) rfl (by first | rfl | decide) (by decide) rfl (fun ls hl => ?_)
          refine lv_goto (tgt := 2) hx hb d_Reading_declarationAt_52 (by decide) ?_
          exact ih _ h _ _ hP hD hS ls (lv_sub hl [1, 2, 0] rfl)
        · replace h := itf c_23 h
          refine lv_iload_n hx hb d_Reading_declarationAt_26 rfl (lv_at hl 1 rfl) ?_
          refine lv_aload_n hx hb d_Reading_declarationAt_27 rfl (lv_at hl 0 rfl) ?_
          refine gf_Reading_21 hx hb hg hown hK hP d_Reading_declarationAt_28 ?_
          refine gf_Reading_92 hx hb hg hown hK hP d_Reading_declarationAt_31 ?_
          refine lv_iload_n hx hb d_Reading_declarationAt_34 rfl (lv_at hl 2 rfl) ?_
          obtain ⟨i_35, h⟩ := itn h
          refine ra_5 hx hb hK hP i_35 d_Reading_declarationAt_35 ?_
          refine lv_icmp_ge (tgt := 49) hx hb d_Reading_declarationAt_36 (by decide) (fun c_36 => ?_) (fun c_36 => ?_)
          · replace h := itp c_36 h
            refine lv_iinc (v := x2 + 1) (lv' := [(2, .int (x2 + 1)), (0, .ref (A 0)), (1, .int x1)]) hx hb d_Reading_declarationAt_49 hl (k := 2) rfl (by first | rfl | decide) (by decide) rfl (fun ls hl => ?_)
            refine lv_goto (tgt := 2) hx hb d_Reading_declarationAt_52 (by decide) ?_
            exact ih _ h _ _ hP hD hS ls (lv_sub hl [1, 2, 0] rfl)
          · replace h := itf c_36 h
            refine lv_aload_n hx hb d_Reading_declarationAt_39 rfl (lv_at hl 0 rfl) ?_
            refine gf_Reading_30 hx hb hg hown hK hP d_Reading_declarationAt_40 ?_
            refine gf_Reading_95 hx hb hg hown hK hP d_Reading_declarationAt_43 ?_
            refine lv_iload_n hx hb d_Reading_declarationAt_46 rfl (lv_at hl 2 rfl) ?_
            obtain ⟨i_47, h⟩ := itn h
            refine ra_11 hx hb hK hP i_47 d_Reading_declarationAt_47 ?_
            exact hRet _ h _ _ hP hD hS _ _ d_Reading_declarationAt_48
  refine lv_iconst (v := 0) hx hb d_Reading_declarationAt_0 (by decide) ?_
  refine lv_istore_n (lv' := [(2, .int 0), (0, .ref (A 0)), (1, .int x1)]) hx hb d_Reading_declarationAt_1 rfl hl (by decide) rfl (fun ls hl => ?_)
  exact L_2  FU _ h _ _ hP hD hS ls (lv_sub hl [1, 2, 0] rfl)
def p_Reading_uses_L4 (σ : Sto) (x1 : Int32) : Nat → Int32 → Int32 → Option Int32
  | 0, _, _ => none
  | n + 1, x2, x3 =>
    (if (σ.1 3) ≤ x3 then
        some x2
      else
        if inR x3 121 then (if (σ.2.1 11 x3.toNatClampNeg) = x1 then
          p_Reading_uses_L4 σ x1 n (x2 + 1) (x3 + 1)
        else
          p_Reading_uses_L4 σ x1 n x2 (x3 + 1)) else none)
def p_Reading_uses (σ : Sto) (x1 : Int32) : Option Int32 :=
  p_Reading_uses_L4 σ x1 FU 0 0
abbrev w_Reading_uses : List Cond := Cond.code y_Reading_uses b_Reading_uses 4 (some .int) :: Tg
abbrev r_Reading_uses : Room := { frames := 0, cells := 0, slots := 0, locals := 0 }
theorem dv_Reading_uses : y_Reading_uses.cls = "LanguageServer$Reading" ∧ y_Reading_uses.cls ≠ "java/lang/invoke/MethodHandle" ∧ y_Reading_uses.cls ≠ "java/lang/invoke/VarHandle" ∧ (parseMethodDescriptor y_Reading_uses.desc).map (fun d => d.parameters.length) = some 1 := by decide +kernel
set_option maxHeartbeats 4000000 in
set_option maxRecDepth 100000 in
theorem c_Reading_uses (l : Launch) (K : Kst) (A : Nat → Nat) {σ : Sto} {x1 : Int32} {rr : Int32} (h : p_Reading_uses σ x1 = some rr) : Met l y_Reading_uses w_Reading_uses r_Reading_uses (va_Pc [.ref (A 0), .int x1] (RB K A σ)) (RQi K A rr σ) 0 0 (RF A) := by
  refine Met.ofW (cc := b_Reading_uses) (maxL := 4) (ret := (some .int)) (by decide) rfl ?_
  intro p e s m args below meth c s₁ B hml hv
  obtain ⟨rfl, hP, hK, hD⟩ := hv
  have hx := B.exec
  have hb := B.bytes
  have hr := B.returns
  have hts := atoms_spec (ws := w_Reading_uses) B.pre
  have hg : ∀ w ∈ Tg, w.before _ s = true := fun w q => hts w (List.mem_cons_of_mem _ q)
  have hown : s.vm.findClass "LanguageServer$Reading" = some m.cls := findClass_of_methodNamed B.named
  have hlocks := B.notSynchronized
  have hS : va_S (RF A) s.heap s.heap [] := va_S.rf
  have hl := lv_entry ([.ref (A 0), .int x1]) (n := 4) (Nat.le_of_ble_eq_true rfl)
  rw [lg_entry_eq]
  generalize (lg_sl ([.ref (A 0), .int x1]) ++ List.replicate (4 - (lg_sl ([.ref (A 0), .int x1])).length) Slot.unset).toArray = ls at hl ⊢
  have hl : lv_has ls 4 [(0, .ref (A 0)), (1, .int x1)] := hl
  generalize hargs : ([.ref (A 0), .int x1] : List Value).toArray = args at hg hts ⊢
  obtain ⟨Q, hQ⟩ : ∃ Q, Q = MQ below (RQi K A rr σ) args s 0 0 (RF A) := ⟨_, rfl⟩
  rw [← hQ]
  have hRet : ∀ (v : Int32), some v = some rr → ∀ (H : Heap) (locs : List Loc), va_P K.1 vwCl (wR K A σ) H → va_D (RF A) (wR K A σ) → va_S (RF A) s.heap H locs → ∀ (pc : Nat) (ls : Array Slot), decode b_Reading_uses pc = .ok (.ireturn, 1) → W p l e (headSpec w_Reading_uses r_Reading_uses).room s m args below meth c H locs 0 0 Q (F0 m pc ls [.int v]) := by
    intro v h H locs hP hD hS pc ls hd
    cases h
    subst hQ
    exact W.iret hx hb hr (fun t ht hW => ⟨⟨_, (), rfl, rfl, by rw [ht]; exact hP, RK.warm hW hK, hD⟩, hS.F ht⟩) hS.2.2 hd
  clear hQ
  unfold p_Reading_uses at h
  have L_4 : ∀ (n : Nat) (x2 : Int32) (x3 : Int32), p_Reading_uses_L4 σ x1 n x2 x3 = some rr → ∀ (H : Heap) (locs : List Loc), va_P K.1 vwCl (wR K A σ) H → va_D (RF A) (wR K A σ) → va_S (RF A) s.heap H locs → ∀ ls : Array Slot, lv_has ls 4 [(0, .ref (A 0)), (1, .int x1), (2, .int x2), (3, .int x3)] → W p l e (headSpec w_Reading_uses r_Reading_uses).room s m args below meth c H locs 0 0 Q (F0 m 4 ls []) := by
    intro n
    induction n with
    | zero => intro _ _ h; cases h
    | succ n ih =>
      intro x2 x3 h H locs hP hD hS ls hl
      rw [p_Reading_uses_L4] at h
      refine lv_iload_n hx hb d_Reading_uses_4 rfl (lv_at hl 3 rfl) ?_
      refine lv_aload_n hx hb d_Reading_uses_5 rfl (lv_at hl 0 rfl) ?_
      refine gf_Reading_30 hx hb hg hown hK hP d_Reading_uses_6 ?_
      refine gf_Reading_84 hx hb hg hown hK hP d_Reading_uses_9 ?_
      refine lv_icmp_ge (tgt := 37) hx hb d_Reading_uses_12 (by decide) (fun c_12 => ?_) (fun c_12 => ?_)
      · replace h := itp c_12 h
        refine lv_iload_n hx hb d_Reading_uses_37 rfl (lv_at hl 2 rfl) ?_
        exact hRet _ h _ _ hP hD hS _ _ d_Reading_uses_38
      · replace h := itf c_12 h
        refine lv_aload_n hx hb d_Reading_uses_15 rfl (lv_at hl 0 rfl) ?_
        refine gf_Reading_30 hx hb hg hown hK hP d_Reading_uses_16 ?_
        refine gf_Reading_95 hx hb hg hown hK hP d_Reading_uses_19 ?_
        refine lv_iload_n hx hb d_Reading_uses_22 rfl (lv_at hl 3 rfl) ?_
        obtain ⟨i_23, h⟩ := itn h
        refine ra_11 hx hb hK hP i_23 d_Reading_uses_23 ?_
        refine lv_iload_n hx hb d_Reading_uses_24 rfl (lv_at hl 1 rfl) ?_
        refine lv_icmp_ne (tgt := 31) hx hb d_Reading_uses_25 (by decide) (fun c_25 => ?_) (fun c_25 => ?_)
        · replace h := itf c_25 h
          refine lv_iinc (v := x3 + 1) (lv' := [(3, .int (x3 + 1)), (0, .ref (A 0)), (1, .int x1), (2, .int x2)]) hx hb d_Reading_uses_31 hl (k := 3) rfl (by first | rfl | decide) (by decide) rfl (fun ls hl => ?_)
          refine lv_goto (tgt := 4) hx hb d_Reading_uses_34 (by decide) ?_
          exact ih _ _ h _ _ hP hD hS ls (lv_sub hl [1, 2, 3, 0] rfl)
        · replace h := itp c_25 h
          refine lv_iinc (v := x2 + 1) (lv' := [(2, .int (x2 + 1)), (0, .ref (A 0)), (1, .int x1), (3, .int x3)]) hx hb d_Reading_uses_28 hl (k := 2) rfl (by first | rfl | decide) (by decide) rfl (fun ls hl => ?_)
          refine lv_iinc (v := x3 + 1) (lv' := [(3, .int (x3 + 1)), (2, .int (x2 + 1)), (0, .ref (A 0)), (1, .int x1)]) hx hb d_Reading_uses_31 hl (k := 3) rfl (by first | rfl | decide) (by decide) rfl (fun ls hl => ?_)
          refine lv_goto (tgt := 4) hx hb d_Reading_uses_34 (by decide) ?_
          exact ih _ _ h _ _ hP hD hS ls (lv_sub hl [2, 3, 1, 0] rfl)
  refine lv_iconst (v := 0) hx hb d_Reading_uses_0 (by decide) ?_
  refine lv_istore_n (lv' := [(2, .int 0), (0, .ref (A 0)), (1, .int x1)]) hx hb d_Reading_uses_1 rfl hl (by decide) rfl (fun ls hl => ?_)
  refine lv_iconst (v := 0) hx hb d_Reading_uses_2 (by decide) ?_
  refine lv_istore_n (lv' := [(3, .int 0), (2, .int 0), (0, .ref (A 0)), (1, .int x1)]) hx hb d_Reading_uses_3 rfl hl (by decide) rfl (fun ls hl => ?_)
  exact L_4  FU _ _ h _ _ hP hD hS ls (lv_sub hl [2, 3, 1, 0] rfl)
def p_Reading_useAt_L5 (σ : Sto) (x1 : Int32) (x2 : Int32) : Nat → Int32 → Int32 → Option Int32
  | 0, _, _ => none
  | n + 1, x3, x4 =>
    (if (σ.1 3) ≤ x4 then
        some (-1)
      else
        if inR x4 121 then (if (σ.2.1 11 x4.toNatClampNeg) = x1 then
          (if x3 = x2 then
            some x4
          else
            p_Reading_useAt_L5 σ x1 x2 n (x3 + 1) (x4 + 1))
        else
          p_Reading_useAt_L5 σ x1 x2 n x3 (x4 + 1)) else none)
def p_Reading_useAt (σ : Sto) (x1 : Int32) (x2 : Int32) : Option Int32 :=
  p_Reading_useAt_L5 σ x1 x2 FU 0 0
abbrev w_Reading_useAt : List Cond := Cond.code y_Reading_useAt b_Reading_useAt 5 (some .int) :: Tg
abbrev r_Reading_useAt : Room := { frames := 0, cells := 0, slots := 0, locals := 0 }
theorem dv_Reading_useAt : y_Reading_useAt.cls = "LanguageServer$Reading" ∧ y_Reading_useAt.cls ≠ "java/lang/invoke/MethodHandle" ∧ y_Reading_useAt.cls ≠ "java/lang/invoke/VarHandle" ∧ (parseMethodDescriptor y_Reading_useAt.desc).map (fun d => d.parameters.length) = some 2 := by decide +kernel
set_option maxHeartbeats 4000000 in
set_option maxRecDepth 100000 in
theorem c_Reading_useAt (l : Launch) (K : Kst) (A : Nat → Nat) {σ : Sto} {x1 : Int32} {x2 : Int32} {rr : Int32} (h : p_Reading_useAt σ x1 x2 = some rr) : Met l y_Reading_useAt w_Reading_useAt r_Reading_useAt (va_Pc [.ref (A 0), .int x1, .int x2] (RB K A σ)) (RQi K A rr σ) 0 0 (RF A) := by
  refine Met.ofW (cc := b_Reading_useAt) (maxL := 5) (ret := (some .int)) (by decide) rfl ?_
  intro p e s m args below meth c s₁ B hml hv
  obtain ⟨rfl, hP, hK, hD⟩ := hv
  have hx := B.exec
  have hb := B.bytes
  have hr := B.returns
  have hts := atoms_spec (ws := w_Reading_useAt) B.pre
  have hg : ∀ w ∈ Tg, w.before _ s = true := fun w q => hts w (List.mem_cons_of_mem _ q)
  have hown : s.vm.findClass "LanguageServer$Reading" = some m.cls := findClass_of_methodNamed B.named
  have hlocks := B.notSynchronized
  have hS : va_S (RF A) s.heap s.heap [] := va_S.rf
  have hl := lv_entry ([.ref (A 0), .int x1, .int x2]) (n := 5) (Nat.le_of_ble_eq_true rfl)
  rw [lg_entry_eq]
  generalize (lg_sl ([.ref (A 0), .int x1, .int x2]) ++ List.replicate (5 - (lg_sl ([.ref (A 0), .int x1, .int x2])).length) Slot.unset).toArray = ls at hl ⊢
  have hl : lv_has ls 5 [(0, .ref (A 0)), (1, .int x1), (2, .int x2)] := hl
  generalize hargs : ([.ref (A 0), .int x1, .int x2] : List Value).toArray = args at hg hts ⊢
  obtain ⟨Q, hQ⟩ : ∃ Q, Q = MQ below (RQi K A rr σ) args s 0 0 (RF A) := ⟨_, rfl⟩
  rw [← hQ]
  have hRet : ∀ (v : Int32), some v = some rr → ∀ (H : Heap) (locs : List Loc), va_P K.1 vwCl (wR K A σ) H → va_D (RF A) (wR K A σ) → va_S (RF A) s.heap H locs → ∀ (pc : Nat) (ls : Array Slot), decode b_Reading_useAt pc = .ok (.ireturn, 1) → W p l e (headSpec w_Reading_useAt r_Reading_useAt).room s m args below meth c H locs 0 0 Q (F0 m pc ls [.int v]) := by
    intro v h H locs hP hD hS pc ls hd
    cases h
    subst hQ
    exact W.iret hx hb hr (fun t ht hW => ⟨⟨_, (), rfl, rfl, by rw [ht]; exact hP, RK.warm hW hK, hD⟩, hS.F ht⟩) hS.2.2 hd
  clear hQ
  unfold p_Reading_useAt at h
  have L_5 : ∀ (n : Nat) (x3 : Int32) (x4 : Int32), p_Reading_useAt_L5 σ x1 x2 n x3 x4 = some rr → ∀ (H : Heap) (locs : List Loc), va_P K.1 vwCl (wR K A σ) H → va_D (RF A) (wR K A σ) → va_S (RF A) s.heap H locs → ∀ ls : Array Slot, lv_has ls 5 [(0, .ref (A 0)), (1, .int x1), (2, .int x2), (3, .int x3), (4, .int x4)] → W p l e (headSpec w_Reading_useAt r_Reading_useAt).room s m args below meth c H locs 0 0 Q (F0 m 5 ls []) := by
    intro n
    induction n with
    | zero => intro _ _ h; cases h
    | succ n ih =>
      intro x3 x4 h H locs hP hD hS ls hl
      rw [p_Reading_useAt_L5] at h
      refine lv_iload hx hb d_Reading_useAt_5 (lv_at hl 4 rfl) ?_
      refine lv_aload_n hx hb d_Reading_useAt_7 rfl (lv_at hl 0 rfl) ?_
      refine gf_Reading_30 hx hb hg hown hK hP d_Reading_useAt_8 ?_
      refine gf_Reading_84 hx hb hg hown hK hP d_Reading_useAt_11 ?_
      refine lv_icmp_ge (tgt := 48) hx hb d_Reading_useAt_14 (by decide) (fun c_14 => ?_) (fun c_14 => ?_)
      · replace h := itp c_14 h
        refine lv_iconst (v := (-1)) hx hb d_Reading_useAt_48 (by decide) ?_
        exact hRet _ h _ _ hP hD hS _ _ d_Reading_useAt_49
      · replace h := itf c_14 h
        refine lv_aload_n hx hb d_Reading_useAt_17 rfl (lv_at hl 0 rfl) ?_
        refine gf_Reading_30 hx hb hg hown hK hP d_Reading_useAt_18 ?_
        refine gf_Reading_95 hx hb hg hown hK hP d_Reading_useAt_21 ?_
        refine lv_iload hx hb d_Reading_useAt_24 (lv_at hl 4 rfl) ?_
        obtain ⟨i_26, h⟩ := itn h
        refine ra_11 hx hb hK hP i_26 d_Reading_useAt_26 ?_
        refine lv_iload_n hx hb d_Reading_useAt_27 rfl (lv_at hl 1 rfl) ?_
        refine lv_icmp_ne (tgt := 42) hx hb d_Reading_useAt_28 (by decide) (fun c_28 => ?_) (fun c_28 => ?_)
        · replace h := itf c_28 h
          refine lv_iinc (v := x4 + 1) (lv' := [(4, .int (x4 + 1)), (0, .ref (A 0)), (1, .int x1), (2, .int x2), (3, .int x3)]) hx hb d_Reading_useAt_42 hl (k := 4) rfl (by first | rfl | decide) (by decide) rfl (fun ls hl => ?_)
          refine lv_goto (tgt := 5) hx hb d_Reading_useAt_45 (by decide) ?_
          exact ih _ _ h _ _ hP hD hS ls (lv_sub hl [1, 2, 3, 4, 0] rfl)
        · replace h := itp c_28 h
          refine lv_iload_n hx hb d_Reading_useAt_31 rfl (lv_at hl 3 rfl) ?_
          refine lv_iload_n hx hb d_Reading_useAt_32 rfl (lv_at hl 2 rfl) ?_
          refine lv_icmp_ne (tgt := 39) hx hb d_Reading_useAt_33 (by decide) (fun c_33 => ?_) (fun c_33 => ?_)
          · replace h := itf c_33 h
            refine lv_iinc (v := x3 + 1) (lv' := [(3, .int (x3 + 1)), (0, .ref (A 0)), (1, .int x1), (2, .int x2), (4, .int x4)]) hx hb d_Reading_useAt_39 hl (k := 3) rfl (by first | rfl | decide) (by decide) rfl (fun ls hl => ?_)
            refine lv_iinc (v := x4 + 1) (lv' := [(4, .int (x4 + 1)), (3, .int (x3 + 1)), (0, .ref (A 0)), (1, .int x1), (2, .int x2)]) hx hb d_Reading_useAt_42 hl (k := 4) rfl (by first | rfl | decide) (by decide) rfl (fun ls hl => ?_)
            refine lv_goto (tgt := 5) hx hb d_Reading_useAt_45 (by decide) ?_
            exact ih _ _ h _ _ hP hD hS ls (lv_sub hl [2, 3, 4, 1, 0] rfl)
          · replace h := itp c_33 h
            refine lv_iload hx hb d_Reading_useAt_36 (lv_at hl 4 rfl) ?_
            exact hRet _ h _ _ hP hD hS _ _ d_Reading_useAt_38
  refine lv_iconst (v := 0) hx hb d_Reading_useAt_0 (by decide) ?_
  refine lv_istore_n (lv' := [(3, .int 0), (0, .ref (A 0)), (1, .int x1), (2, .int x2)]) hx hb d_Reading_useAt_1 rfl hl (by decide) rfl (fun ls hl => ?_)
  refine lv_iconst (v := 0) hx hb d_Reading_useAt_2 (by decide) ?_
  refine lv_istore (lv' := [(4, .int 0), (3, .int 0), (0, .ref (A 0)), (1, .int x1), (2, .int x2)]) hx hb d_Reading_useAt_3 hl (by decide) rfl (fun ls hl => ?_)
  exact L_5  FU _ _ h _ _ hP hD hS ls (lv_sub hl [2, 3, 4, 1, 0] rfl)
