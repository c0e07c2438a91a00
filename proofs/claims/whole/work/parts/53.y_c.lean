def p_Mo_references (σ : Sto) (x1 : Int32) : Option (Int32 × Sto) :=
  bd2 (p_Mo_named (sS σ 0 0) x1) fun v_7 σ_7 =>
    (if (0 : Int32) ≤ v_7 then
      if inR v_7 124 then bd1 (p_Mo_uses σ_7 (σ_7.2.1 14 v_7.toNatClampNeg)) fun v_30 =>
      some (v_30, σ_7) else none
    else
      bd2 (p_Mo_fail σ_7 1) fun v_17 σ_17 =>
      some (v_17, σ_17))
abbrev w_Mo_references : List Cond := Cond.code y_Mo_references b_Mo_references 3 (some .int) :: Tg
abbrev r_Mo_references : Room := { frames := 13, cells := 0, slots := 0, locals := 291 }
theorem dv_Mo_references : y_Mo_references.cls = "LanguageServerModel" ∧ y_Mo_references.cls ≠ "java/lang/invoke/MethodHandle" ∧ y_Mo_references.cls ≠ "java/lang/invoke/VarHandle" ∧ (parseMethodDescriptor y_Mo_references.desc).map (fun d => d.parameters.length) = some 1 := by decide +kernel
set_option maxHeartbeats 4000000 in
set_option maxRecDepth 100000 in
theorem c_Mo_references (l : Launch) (K : Kst) (A : Nat → Nat) {σ : Sto} {x1 : Int32} {rr : Int32} {ss : Sto} (h : p_Mo_references σ x1 = some (rr, ss)) : Met l y_Mo_references w_Mo_references r_Mo_references (va_Pc [.ref (A 0), .int x1] (YB K A σ)) (YQi K A rr ss) 0 0 (YF A) := by
  refine Met.ofW (cc := b_Mo_references) (maxL := 3) (ret := (some .int)) (by decide) rfl ?_
  intro p e s m args below meth c s₁ B hml hv
  obtain ⟨rfl, hP, hK, hD⟩ := hv
  have hx := B.exec
  have hb := B.bytes
  have hr := B.returns
  have hts := atoms_spec (ws := w_Mo_references) B.pre
  have hg : ∀ w ∈ Tg, w.before _ s = true := fun w q => hts w (List.mem_cons_of_mem _ q)
  have hown : s.vm.findClass "LanguageServerModel" = some m.cls := findClass_of_methodNamed B.named
  have hlocks := B.notSynchronized
  have hS : va_S (YF A) s.heap s.heap [] := va_S.rf
  have hl := lv_entry ([.ref (A 0), .int x1]) (n := 3) (Nat.le_of_ble_eq_true rfl)
  rw [lg_entry_eq]
  generalize (lg_sl ([.ref (A 0), .int x1]) ++ List.replicate (3 - (lg_sl ([.ref (A 0), .int x1])).length) Slot.unset).toArray = ls at hl ⊢
  have hl : lv_has ls 3 [(0, .ref (A 0)), (1, .int x1)] := hl
  generalize hargs : ([.ref (A 0), .int x1] : List Value).toArray = args at hg hts ⊢
  obtain ⟨Q, hQ⟩ : ∃ Q, Q = MQ below (YQi K A rr ss) args s 0 0 (YF A) := ⟨_, rfl⟩
  rw [← hQ]
  have hRet : ∀ (v : Int32) (σ : Sto), some (v, σ) = some (rr, ss) → ∀ (H : Heap) (locs : List Loc), va_P K.1 vwCl (wY K A σ) H → va_D (YF A) (wY K A σ) → va_S (YF A) s.heap H locs → ∀ (pc : Nat) (ls : Array Slot), decode b_Mo_references pc = .ok (.ireturn, 1) → W p l e (headSpec w_Mo_references r_Mo_references).room s m args below meth c H locs 0 0 Q (F0 m pc ls [.int v]) := by
    intro v σ h H locs hP hD hS pc ls hd
    cases h
    subst hQ
    exact W.iret hx hb hr (fun t ht hW => ⟨⟨_, (), rfl, rfl, by rw [ht]; exact hP, RK.warm hW hK, hD⟩, hS.F ht⟩) hS.2.2 hd
  clear hQ
  unfold p_Mo_references at h
  refine lv_aload_n hx hb d_Mo_references_0 rfl (lv_at hl 0 rfl) ?_
  refine lv_iconst (v := 0) hx hb d_Mo_references_1 (by decide) ?_
  refine pf_Mo_81 hx hb hg hown hK hP hD hS d_Mo_references_2 (fun H locs hP hD hS => ?_)
  refine lv_aload_n hx hb d_Mo_references_5 rfl (lv_at hl 0 rfl) ?_
  refine lv_iload_n hx hb d_Mo_references_6 rfl (lv_at hl 1 rfl) ?_
  obtain ⟨v_7, σ_7, e_7, h⟩ := bd2_some h
  refine Y_calli (va_runV (As := [.int x1]) (rest := []) ⟨hx, hb, hml, hown, hts⟩ (c_Mo_named l K A e_7) (cwV 1 hts (gd_V wd_1223 wd_1225 wp_85 wd_10 wd_1226) rfl rfl rfl dv_Mo_named ⟨Nat.le_of_ble_eq_true rfl, Nat.le_of_ble_eq_true rfl⟩) (Y_pv_0 hK hP hD) rfl rfl hl.1 rfl (lv_room (Nat.le_of_ble_eq_true rfl)) d_Mo_references_7 ⟨Nat.le_of_ble_eq_true rfl, Nat.le_of_ble_eq_true rfl⟩) hS (fun H locs hP hD hS => ?_)
  refine lv_istore_n (lv' := [(2, .int v_7), (0, .ref (A 0)), (1, .int x1)]) hx hb d_Mo_references_10 rfl hl (by decide) rfl (fun ls hl => ?_)
  refine lv_iload_n hx hb d_Mo_references_11 rfl (lv_at hl 0 rfl) ?_
  refine lv_if_ge (tgt := 23) hx hb d_Mo_references_12 (by decide) (fun c_12 => ?_) (fun c_12 => ?_)
  · replace h := itp c_12 h
    refine lv_aload_n hx hb d_Mo_references_23 rfl (lv_at hl 1 rfl) ?_
    refine lv_aload_n hx hb d_Mo_references_24 rfl (lv_at hl 1 rfl) ?_
    refine gf_Mo_50 hx hb hg hown hK hP d_Mo_references_25 ?_
    refine lv_iload_n hx hb d_Mo_references_28 rfl (lv_at hl 0 rfl) ?_
    obtain ⟨i_29, h⟩ := itn h
    refine Yra_14 hx hb hK hP i_29 d_Mo_references_29 ?_
    obtain ⟨v_30, e_30, h⟩ := bd1_some h
    refine Y_calli (va_runV (As := [.int (σ_7.2.1 14 v_7.toNatClampNeg)]) (rest := []) ⟨hx, hb, hml, hown, hts⟩ (c_Mo_uses l K A e_30) (cwV 1 hts (gd_V wd_1235 wd_1237 wp_86 wd_10 wd_1238) rfl rfl rfl dv_Mo_uses ⟨Nat.le_of_ble_eq_true rfl, Nat.le_of_ble_eq_true rfl⟩) (Y_pv_0 hK hP hD) rfl rfl hl.1 rfl (lv_room (Nat.le_of_ble_eq_true rfl)) d_Mo_references_30 ⟨Nat.le_of_ble_eq_true rfl, Nat.le_of_ble_eq_true rfl⟩) hS (fun H locs hP hD hS => ?_)
    exact hRet _ _ h _ _ hP hD hS _ _ d_Mo_references_33
  · replace h := itf c_12 h
    refine lv_aload_n hx hb d_Mo_references_15 rfl (lv_at hl 1 rfl) ?_
    refine lv_iconst (v := 1) hx hb d_Mo_references_16 (by decide) ?_
    obtain ⟨v_17, σ_17, e_17, h⟩ := bd2_some h
    refine Y_calli (va_runV (As := [.int 1]) (rest := []) ⟨hx, hb, hml, hown, hts⟩ (c_Mo_fail l K A e_17) (cwV 1 hts (gd_V wd_1007 wd_1009 wp_43 wd_10 wd_1010) rfl rfl rfl dv_Mo_fail ⟨Nat.le_of_ble_eq_true rfl, Nat.le_of_ble_eq_true rfl⟩) (Y_pv_0 hK hP hD) rfl rfl hl.1 rfl (lv_room (Nat.le_of_ble_eq_true rfl)) d_Mo_references_17 ⟨Nat.le_of_ble_eq_true rfl, Nat.le_of_ble_eq_true rfl⟩) hS (fun H locs hP hD hS => ?_)
    refine lv_goto (tgt := 33) hx hb d_Mo_references_20 (by decide) ?_
    exact hRet _ _ h _ _ hP hD hS _ _ d_Mo_references_33
def p_Mo_reference_L31 (x1 : Int32) (x2 : Int32) : Nat → Sto → Int32 → Int32 → Int32 → Option (Int32 × Sto)
  | 0, _, _, _, _ => none
  | n + 1, σ, x3, x4, x5 =>
    (if (σ.1 3) ≤ x5 then
        bd2 (p_Mo_fail σ 1) fun v_83 σ_83 =>
        some (v_83, σ_83)
      else
        if inR x5 124 then if inR x3 124 then (if (σ.2.1 14 x5.toNatClampNeg) = (σ.2.1 14 x3.toNatClampNeg) then
          (if x4 = 0 then
            if inR x5 124 then some (σ.2.1 5 x5.toNatClampNeg, σ) else none
          else
            p_Mo_reference_L31 x1 x2 n σ x3 (x4 + (-1)) (x5 + 1))
        else
          p_Mo_reference_L31 x1 x2 n σ x3 x4 (x5 + 1)) else none else none)
def p_Mo_reference (σ : Sto) (x1 : Int32) (x2 : Int32) : Option (Int32 × Sto) :=
  bd2 (p_Mo_named (sS σ 0 0) x1) fun v_7 σ_7 =>
    (if v_7 < 0 then
      bd2 (p_Mo_fail σ_7 1) fun v_21 σ_21 =>
      some (v_21, σ_21)
    else
      (if (0 : Int32) ≤ x2 then
        p_Mo_reference_L31 x1 x2 FU σ_7 v_7 x2 0
      else
        bd2 (p_Mo_fail σ_7 1) fun v_21 σ_21 =>
        some (v_21, σ_21)))
abbrev w_Mo_reference : List Cond := Cond.code y_Mo_reference b_Mo_reference 6 (some .int) :: Tg
abbrev r_Mo_reference : Room := { frames := 13, cells := 0, slots := 0, locals := 291 }
theorem dv_Mo_reference : y_Mo_reference.cls = "LanguageServerModel" ∧ y_Mo_reference.cls ≠ "java/lang/invoke/MethodHandle" ∧ y_Mo_reference.cls ≠ "java/lang/invoke/VarHandle" ∧ (parseMethodDescriptor y_Mo_reference.desc).map (fun d => d.parameters.length) = some 2 := by decide +kernel
set_option maxHeartbeats 4000000 in
set_option maxRecDepth 100000 in
theorem c_Mo_reference (l : Launch) (K : Kst) (A : Nat → Nat) {σ : Sto} {x1 : Int32} {x2 : Int32} {rr : Int32} {ss : Sto} (h : p_Mo_reference σ x1 x2 = some (rr, ss)) : Met l y_Mo_reference w_Mo_reference r_Mo_reference (va_Pc [.ref (A 0), .int x1, .int x2] (YB K A σ)) (YQi K A rr ss) 0 0 (YF A) := by
  refine Met.ofW (cc := b_Mo_reference) (maxL := 6) (ret := (some .int)) (by decide) rfl ?_
  intro p e s m args below meth c s₁ B hml hv
  obtain ⟨rfl, hP, hK, hD⟩ := hv
  have hx := B.exec
  have hb := B.bytes
  have hr := B.returns
  have hts := atoms_spec (ws := w_Mo_reference) B.pre
  have hg : ∀ w ∈ Tg, w.before _ s = true := fun w q => hts w (List.mem_cons_of_mem _ q)
  have hown : s.vm.findClass "LanguageServerModel" = some m.cls := findClass_of_methodNamed B.named
  have hlocks := B.notSynchronized
  have hS : va_S (YF A) s.heap s.heap [] := va_S.rf
  have hl := lv_entry ([.ref (A 0), .int x1, .int x2]) (n := 6) (Nat.le_of_ble_eq_true rfl)
  rw [lg_entry_eq]
  generalize (lg_sl ([.ref (A 0), .int x1, .int x2]) ++ List.replicate (6 - (lg_sl ([.ref (A 0), .int x1, .int x2])).length) Slot.unset).toArray = ls at hl ⊢
  have hl : lv_has ls 6 [(0, .ref (A 0)), (1, .int x1), (2, .int x2)] := hl
  generalize hargs : ([.ref (A 0), .int x1, .int x2] : List Value).toArray = args at hg hts ⊢
  obtain ⟨Q, hQ⟩ : ∃ Q, Q = MQ below (YQi K A rr ss) args s 0 0 (YF A) := ⟨_, rfl⟩
  rw [← hQ]
  have hRet : ∀ (v : Int32) (σ : Sto), some (v, σ) = some (rr, ss) → ∀ (H : Heap) (locs : List Loc), va_P K.1 vwCl (wY K A σ) H → va_D (YF A) (wY K A σ) → va_S (YF A) s.heap H locs → ∀ (pc : Nat) (ls : Array Slot), decode b_Mo_reference pc = .ok (.ireturn, 1) → W p l e (headSpec w_Mo_reference r_Mo_reference).room s m args below meth c H locs 0 0 Q (F0 m pc ls [.int v]) := by
    intro v σ h H locs hP hD hS pc ls hd
    cases h
    subst hQ
    exact W.iret hx hb hr (fun t ht hW => ⟨⟨_, (), rfl, rfl, by rw [ht]; exact hP, RK.warm hW hK, hD⟩, hS.F ht⟩) hS.2.2 hd
  clear hQ
  unfold p_Mo_reference at h
  have L_31 : ∀ (n : Nat) (σ : Sto) (x3 : Int32) (x4 : Int32) (x5 : Int32), p_Mo_reference_L31 x1 x2 n σ x3 x4 x5 = some (rr, ss) → ∀ (H : Heap) (locs : List Loc), va_P K.1 vwCl (wY K A σ) H → va_D (YF A) (wY K A σ) → va_S (YF A) s.heap H locs → ∀ ls : Array Slot, lv_has ls 6 [(0, .ref (A 0)), (3, .int x3), (4, .int x4), (5, .int x5)] → W p l e (headSpec w_Mo_reference r_Mo_reference).room s m args below meth c H locs 0 0 Q (F0 m 31 ls []) := by
    intro n
    induction n with
    | zero => intro _ _ _ _ h; cases h
    | succ n ih =>
      intro σ x3 x4 x5 h H locs hP hD hS ls hl
      rw [p_Mo_reference_L31] at h
      refine lv_iload hx hb d_Mo_reference_31 (lv_at hl 3 rfl) ?_
      refine lv_aload_n hx hb d_Mo_reference_33 rfl (lv_at hl 0 rfl) ?_
      refine gf_Mo_118 hx hb hg hown hK hP d_Mo_reference_34 ?_
      refine lv_icmp_ge (tgt := 81) hx hb d_Mo_reference_37 (by decide) (fun c_37 => ?_) (fun c_37 => ?_)
      · replace h := itp c_37 h
        refine lv_aload_n hx hb d_Mo_reference_81 rfl (lv_at hl 0 rfl) ?_
        refine lv_iconst (v := 1) hx hb d_Mo_reference_82 (by decide) ?_
        obtain ⟨v_83, σ_83, e_83, h⟩ := bd2_some h
        refine Y_calli (va_runV (As := [.int 1]) (rest := []) ⟨hx, hb, hml, hown, hts⟩ (c_Mo_fail l K A e_83) (cwV 1 hts (gd_V wd_1007 wd_1009 wp_43 wd_10 wd_1010) rfl rfl rfl dv_Mo_fail ⟨Nat.le_of_ble_eq_true rfl, Nat.le_of_ble_eq_true rfl⟩) (Y_pv_0 hK hP hD) rfl rfl hl.1 rfl (lv_room (Nat.le_of_ble_eq_true rfl)) d_Mo_reference_83 ⟨Nat.le_of_ble_eq_true rfl, Nat.le_of_ble_eq_true rfl⟩) hS (fun H locs hP hD hS => ?_)
        exact hRet _ _ h _ _ hP hD hS _ _ d_Mo_reference_86
      · replace h := itf c_37 h
        refine lv_aload_n hx hb d_Mo_reference_40 rfl (lv_at hl 0 rfl) ?_
        refine gf_Mo_50 hx hb hg hown hK hP d_Mo_reference_41 ?_
        refine lv_iload hx hb d_Mo_reference_44 (lv_at hl 3 rfl) ?_
        obtain ⟨i_46, h⟩ := itn h
        refine Yra_14 hx hb hK hP i_46 d_Mo_reference_46 ?_
        refine lv_aload_n hx hb d_Mo_reference_47 rfl (lv_at hl 0 rfl) ?_
        refine gf_Mo_50 hx hb hg hown hK hP d_Mo_reference_48 ?_
        refine lv_iload_n hx hb d_Mo_reference_51 rfl (lv_at hl 1 rfl) ?_
        obtain ⟨i_52, h⟩ := itn h
        refine Yra_14 hx hb hK hP i_52 d_Mo_reference_52 ?_
        refine lv_icmp_eq (tgt := 59) hx hb d_Mo_reference_53 (by decide) (fun c_53 => ?_) (fun c_53 => ?_)
        · replace h := itp c_53 h
          refine lv_iload hx hb d_Mo_reference_59 (lv_at hl 2 rfl) ?_
          refine lv_if_ne (tgt := 72) hx hb d_Mo_reference_61 (by decide) (fun c_61 => ?_) (fun c_61 => ?_)
          · replace h := itf c_61 h
            refine lv_iinc (v := x4 + (-1)) (lv' := [(4, .int (x4 + (-1))), (0, .ref (A 0)), (3, .int x3), (5, .int x5)]) hx hb d_Mo_reference_72 hl (k := 2) rfl (by first | rfl | decide) (by decide) rfl (fun ls hl => ?_)
            refine lv_iinc (v := x5 + 1) (lv' := [(5, .int (x5 + 1)), (4, .int (x4 + (-1))), (0, .ref (A 0)), (3, .int x3)]) hx hb d_Mo_reference_75 hl (k := 3) rfl (by first | rfl | decide) (by decide) rfl (fun ls hl => ?_)
            refine lv_goto (tgt := 31) hx hb d_Mo_reference_78 (by decide) ?_
            exact ih _ _ _ _ h _ _ hP hD hS ls (lv_sub hl [2, 3, 1, 0] rfl)
          · replace h := itp c_61 h
            refine lv_aload_n hx hb d_Mo_reference_64 rfl (lv_at hl 0 rfl) ?_
            refine gf_Mo_23 hx hb hg hown hK hP d_Mo_reference_65 ?_
            refine lv_iload hx hb d_Mo_reference_68 (lv_at hl 3 rfl) ?_
            obtain ⟨i_70, h⟩ := itn h
            refine Yra_5 hx hb hK hP i_70 d_Mo_reference_70 ?_
            exact hRet _ _ h _ _ hP hD hS _ _ d_Mo_reference_71
        · replace h := itf c_53 h
          refine lv_goto (tgt := 75) hx hb d_Mo_reference_56 (by decide) ?_
          refine lv_iinc (v := x5 + 1) (lv' := [(5, .int (x5 + 1)), (0, .ref (A 0)), (3, .int x3), (4, .int x4)]) hx hb d_Mo_reference_75 hl (k := 3) rfl (by first | rfl | decide) (by decide) rfl (fun ls hl => ?_)
          refine lv_goto (tgt := 31) hx hb d_Mo_reference_78 (by decide) ?_
          exact ih _ _ _ _ h _ _ hP hD hS ls (lv_sub hl [1, 2, 3, 0] rfl)
  refine lv_aload_n hx hb d_Mo_reference_0 rfl (lv_at hl 0 rfl) ?_
  refine lv_iconst (v := 0) hx hb d_Mo_reference_1 (by decide) ?_
  refine pf_Mo_81 hx hb hg hown hK hP hD hS d_Mo_reference_2 (fun H locs hP hD hS => ?_)
  refine lv_aload_n hx hb d_Mo_reference_5 rfl (lv_at hl 0 rfl) ?_
  refine lv_iload_n hx hb d_Mo_reference_6 rfl (lv_at hl 1 rfl) ?_
  obtain ⟨v_7, σ_7, e_7, h⟩ := bd2_some h
  refine Y_calli (va_runV (As := [.int x1]) (rest := []) ⟨hx, hb, hml, hown, hts⟩ (c_Mo_named l K A e_7) (cwV 1 hts (gd_V wd_1223 wd_1225 wp_85 wd_10 wd_1226) rfl rfl rfl dv_Mo_named ⟨Nat.le_of_ble_eq_true rfl, Nat.le_of_ble_eq_true rfl⟩) (Y_pv_0 hK hP hD) rfl rfl hl.1 rfl (lv_room (Nat.le_of_ble_eq_true rfl)) d_Mo_reference_7 ⟨Nat.le_of_ble_eq_true rfl, Nat.le_of_ble_eq_true rfl⟩) hS (fun H locs hP hD hS => ?_)
  refine lv_istore_n (lv' := [(3, .int v_7), (0, .ref (A 0)), (1, .int x1), (2, .int x2)]) hx hb d_Mo_reference_10 rfl hl (by decide) rfl (fun ls hl => ?_)
  refine lv_iload_n hx hb d_Mo_reference_11 rfl (lv_at hl 0 rfl) ?_
  refine lv_if_lt (tgt := 19) hx hb d_Mo_reference_12 (by decide) (fun c_12 => ?_) (fun c_12 => ?_)
  · replace h := itp c_12 h
    refine lv_aload_n hx hb d_Mo_reference_19 rfl (lv_at hl 1 rfl) ?_
    refine lv_iconst (v := 1) hx hb d_Mo_reference_20 (by decide) ?_
    obtain ⟨v_21, σ_21, e_21, h⟩ := bd2_some h
    refine Y_calli (va_runV (As := [.int 1]) (rest := []) ⟨hx, hb, hml, hown, hts⟩ (c_Mo_fail l K A e_21) (cwV 1 hts (gd_V wd_1007 wd_1009 wp_43 wd_10 wd_1010) rfl rfl rfl dv_Mo_fail ⟨Nat.le_of_ble_eq_true rfl, Nat.le_of_ble_eq_true rfl⟩) (Y_pv_0 hK hP hD) rfl rfl hl.1 rfl (lv_room (Nat.le_of_ble_eq_true rfl)) d_Mo_reference_21 ⟨Nat.le_of_ble_eq_true rfl, Nat.le_of_ble_eq_true rfl⟩) hS (fun H locs hP hD hS => ?_)
    exact hRet _ _ h _ _ hP hD hS _ _ d_Mo_reference_24
  · replace h := itf c_12 h
    refine lv_iload_n hx hb d_Mo_reference_15 rfl (lv_at hl 3 rfl) ?_
    refine lv_if_ge (tgt := 25) hx hb d_Mo_reference_16 (by decide) (fun c_16 => ?_) (fun c_16 => ?_)
    · replace h := itp c_16 h
      refine lv_iload_n hx hb d_Mo_reference_25 rfl (lv_at hl 3 rfl) ?_
      refine lv_istore (lv' := [(4, .int x2), (3, .int v_7), (0, .ref (A 0)), (1, .int x1), (2, .int x2)]) hx hb d_Mo_reference_26 hl (by decide) rfl (fun ls hl => ?_)
      refine lv_iconst (v := 0) hx hb d_Mo_reference_28 (by decide) ?_
      refine lv_istore (lv' := [(5, .int 0), (4, .int x2), (3, .int v_7), (0, .ref (A 0)), (1, .int x1), (2, .int x2)]) hx hb d_Mo_reference_29 hl (by decide) rfl (fun ls hl => ?_)
      exact L_31  FU _ _ _ _ h _ _ hP hD hS ls (lv_sub hl [3, 2, 1, 0] rfl)
    · replace h := itf c_16 h
      refine lv_aload_n hx hb d_Mo_reference_19 rfl (lv_at hl 1 rfl) ?_
      refine lv_iconst (v := 1) hx hb d_Mo_reference_20 (by decide) ?_
      obtain ⟨v_21, σ_21, e_21, h⟩ := bd2_some h
      refine Y_calli (va_runV (As := [.int 1]) (rest := []) ⟨hx, hb, hml, hown, hts⟩ (c_Mo_fail l K A e_21) (cwV 1 hts (gd_V wd_1007 wd_1009 wp_43 wd_10 wd_1010) rfl rfl rfl dv_Mo_fail ⟨Nat.le_of_ble_eq_true rfl, Nat.le_of_ble_eq_true rfl⟩) (Y_pv_0 hK hP hD) rfl rfl hl.1 rfl (lv_room (Nat.le_of_ble_eq_true rfl)) d_Mo_reference_21 ⟨Nat.le_of_ble_eq_true rfl, Nat.le_of_ble_eq_true rfl⟩) hS (fun H locs hP hD hS => ?_)
      exact hRet _ _ h _ _ hP hD hS _ _ d_Mo_reference_24
def p_Mo_hasMember (σ : Sto) (x1 : Int32) (x2 : Int32) : Option Int32 :=
  if inR x2 124 then bd1 (p_Mo_declares (σ.2.1 7 x2.toNatClampNeg)) fun v_6 =>
    (if v_6 = 0 then
      some 0
    else
      if inR x2 124 then bd1 (p_Mo_find σ x1 (σ.2.2 x2.toNatClampNeg)) fun v_20 =>
      (if v_20 = x2 then
        some 1
      else
        some 0) else none) else none
abbrev w_Mo_hasMember : List Cond := Cond.code y_Mo_hasMember b_Mo_hasMember 3 (some .boolean) :: Tg
abbrev r_Mo_hasMember : Room := { frames := 5, cells := 0, slots := 0, locals := 113 }
theorem dv_Mo_hasMember : y_Mo_hasMember.cls = "LanguageServerModel" ∧ y_Mo_hasMember.cls ≠ "java/lang/invoke/MethodHandle" ∧ y_Mo_hasMember.cls ≠ "java/lang/invoke/VarHandle" ∧ (parseMethodDescriptor y_Mo_hasMember.desc).map (fun d => d.parameters.length) = some 2 := by decide +kernel
set_option maxHeartbeats 4000000 in
set_option maxRecDepth 100000 in
theorem c_Mo_hasMember (l : Launch) (K : Kst) (A : Nat → Nat) {σ : Sto} {x1 : Int32} {x2 : Int32} {rr : Int32} (h : p_Mo_hasMember σ x1 x2 = some rr) : Met l y_Mo_hasMember w_Mo_hasMember r_Mo_hasMember (va_Pc [.ref (A 0), .int x1, .int x2] (YB K A σ)) (YQi K A rr σ) 0 0 (YF A) := by
  refine Met.ofW (cc := b_Mo_hasMember) (maxL := 3) (ret := (some .boolean)) (by decide) rfl ?_
  intro p e s m args below meth c s₁ B hml hv
  obtain ⟨rfl, hP, hK, hD⟩ := hv
  have hx := B.exec
  have hb := B.bytes
  have hr := B.returns
  have hts := atoms_spec (ws := w_Mo_hasMember) B.pre
  have hg : ∀ w ∈ Tg, w.before _ s = true := fun w q => hts w (List.mem_cons_of_mem _ q)
  have hown : s.vm.findClass "LanguageServerModel" = some m.cls := findClass_of_methodNamed B.named
  have hlocks := B.notSynchronized
  have hS : va_S (YF A) s.heap s.heap [] := va_S.rf
  have hl := lv_entry ([.ref (A 0), .int x1, .int x2]) (n := 3) (Nat.le_of_ble_eq_true rfl)
  rw [lg_entry_eq]
  generalize (lg_sl ([.ref (A 0), .int x1, .int x2]) ++ List.replicate (3 - (lg_sl ([.ref (A 0), .int x1, .int x2])).length) Slot.unset).toArray = ls at hl ⊢
  have hl : lv_has ls 3 [(0, .ref (A 0)), (1, .int x1), (2, .int x2)] := hl
  generalize hargs : ([.ref (A 0), .int x1, .int x2] : List Value).toArray = args at hg hts ⊢
  obtain ⟨Q, hQ⟩ : ∃ Q, Q = MQ below (YQi K A rr σ) args s 0 0 (YF A) := ⟨_, rfl⟩
  rw [← hQ]
  have hRet : ∀ (v : Int32), (narrow .boolean (.int v) = .int v) → some v = some rr → ∀ (H : Heap) (locs : List Loc), va_P K.1 vwCl (wY K A σ) H → va_D (YF A) (wY K A σ) → va_S (YF A) s.heap H locs → ∀ (pc : Nat) (ls : Array Slot), decode b_Mo_hasMember pc = .ok (.ireturn, 1) → W p l e (headSpec w_Mo_hasMember r_Mo_hasMember).room s m args below meth c H locs 0 0 Q (F0 m pc ls [.int v]) := by
    intro v hn h H locs hP hD hS pc ls hd
    cases h
    subst hQ
    exact W.zret hx hb hr hn (fun t ht hW => ⟨⟨_, (), rfl, rfl, by rw [ht]; exact hP, RK.warm hW hK, hD⟩, hS.F ht⟩) hS.2.2 hd
  clear hQ
  unfold p_Mo_hasMember at h
  refine lv_aload_n hx hb d_Mo_hasMember_0 rfl (lv_at hl 0 rfl) ?_
  refine gf_Mo_29 hx hb hg hown hK hP d_Mo_hasMember_1 ?_
  refine lv_iload_n hx hb d_Mo_hasMember_4 rfl (lv_at hl 2 rfl) ?_
  obtain ⟨i_5, h⟩ := itn h
  refine Yra_7 hx hb hK hP i_5 d_Mo_hasMember_5 ?_
  obtain ⟨v_6, e_6, h⟩ := bd1_some h
  refine R_cpi (va_runS (As := [.int (σ.2.1 7 x2.toNatClampNeg)]) (rest := []) ⟨hx, hb, hml, hown, hts⟩ (c_Mo_declares l e_6) (va_cwS 1 hts (gd_S wd_1136 wd_1137 wd_10 wd_1138) rfl rfl rfl ds_Mo_declares ⟨Nat.le_of_ble_eq_true rfl, Nat.le_of_ble_eq_true rfl⟩) (P_ps hK.2) rfl rfl hl.1 rfl (lv_room (Nat.le_of_ble_eq_true rfl)) d_Mo_hasMember_6 ⟨Nat.le_of_ble_eq_true rfl, Nat.le_of_ble_eq_true rfl⟩) hP hD hS (fun H locs hP hD hS => ?_)
  refine lv_if_eq (tgt := 31) hx hb d_Mo_hasMember_9 (by decide) (fun c_9 => ?_) (fun c_9 => ?_)
  · replace h := itp c_9 h
    refine lv_iconst (v := 0) hx hb d_Mo_hasMember_31 (by decide) ?_
    exact hRet _ rfl h _ _ hP hD hS _ _ d_Mo_hasMember_32
  · replace h := itf c_9 h
    refine lv_aload_n hx hb d_Mo_hasMember_12 rfl (lv_at hl 0 rfl) ?_
    refine lv_iload_n hx hb d_Mo_hasMember_13 rfl (lv_at hl 1 rfl) ?_
    refine lv_aload_n hx hb d_Mo_hasMember_14 rfl (lv_at hl 0 rfl) ?_
    refine gf_Mo_19 hx hb hg hown hK hP d_Mo_hasMember_15 ?_
    refine lv_iload_n hx hb d_Mo_hasMember_18 rfl (lv_at hl 2 rfl) ?_
    obtain ⟨i_19, h⟩ := itn h
    refine Yra_4 hx hb hK hP i_19 d_Mo_hasMember_19 ?_
    obtain ⟨v_20, e_20, h⟩ := bd1_some h
    refine Y_calli (va_runV (As := [.int x1, .long (σ.2.2 x2.toNatClampNeg)]) (rest := []) ⟨hx, hb, hml, hown, hts⟩ (c_Mo_find l K A e_20) (cwV 2 hts (gd_V wd_1167 wd_1169 wp_73 wd_10 wd_1170) rfl rfl rfl dv_Mo_find ⟨Nat.le_of_ble_eq_true rfl, Nat.le_of_ble_eq_true rfl⟩) (Y_pv_0 hK hP hD) rfl rfl hl.1 rfl (lv_room (Nat.le_of_ble_eq_true rfl)) d_Mo_hasMember_20 ⟨Nat.le_of_ble_eq_true rfl, Nat.le_of_ble_eq_true rfl⟩) hS (fun H locs hP hD hS => ?_)
    refine lv_iload_n hx hb d_Mo_hasMember_23 rfl (lv_at hl 2 rfl) ?_
    refine lv_icmp_ne (tgt := 31) hx hb d_Mo_hasMember_24 (by decide) (fun c_24 => ?_) (fun c_24 => ?_)
    · replace h := itf c_24 h
      refine lv_iconst (v := 0) hx hb d_Mo_hasMember_31 (by decide) ?_
      exact hRet _ rfl h _ _ hP hD hS _ _ d_Mo_hasMember_32
    · replace h := itp c_24 h
      refine lv_iconst (v := 1) hx hb d_Mo_hasMember_27 (by decide) ?_
      refine lv_goto (tgt := 32) hx hb d_Mo_hasMember_28 (by decide) ?_
      exact hRet _ rfl h _ _ hP hD hS _ _ d_Mo_hasMember_32
def p_Mo_members_L31 (x1 : Int32) : Nat → Sto → Int32 → Int32 → Option (Int32 × Sto)
  | 0, _, _, _ => none
  | n + 1, σ, x2, x3 =>
    (if (σ.1 3) ≤ x3 then
        some (x2, σ)
      else
        bd1 (p_Mo_hasMember σ x1 x3) fun v_42 =>
        (if v_42 = 0 then
          p_Mo_members_L31 x1 n σ x2 (x3 + 1)
        else
          p_Mo_members_L31 x1 n σ (x2 + 1) (x3 + 1)))
def p_Mo_members (σ : Sto) (x1 : Int32) : Option (Int32 × Sto) :=
  bd1 (p_Mo_analyse (sS σ 0 0)) fun σ_6 =>
    (if x1 < 0 then
      bd2 (p_Mo_fail σ_6 1) fun v_23 σ_23 =>
      some (v_23, σ_23)
    else
      (if x1 < (σ_6.1 6) then
        p_Mo_members_L31 x1 FU σ_6 0 0
      else
        bd2 (p_Mo_fail σ_6 1) fun v_23 σ_23 =>
        some (v_23, σ_23)))
abbrev w_Mo_members : List Cond := Cond.code y_Mo_members b_Mo_members 4 (some .int) :: Tg
abbrev r_Mo_members : Room := { frames := 12, cells := 0, slots := 0, locals := 269 }
theorem dv_Mo_members : y_Mo_members.cls = "LanguageServerModel" ∧ y_Mo_members.cls ≠ "java/lang/invoke/MethodHandle" ∧ y_Mo_members.cls ≠ "java/lang/invoke/VarHandle" ∧ (parseMethodDescriptor y_Mo_members.desc).map (fun d => d.parameters.length) = some 1 := by decide +kernel
set_option maxHeartbeats 4000000 in
set_option maxRecDepth 100000 in
theorem c_Mo_members (l : Launch) (K : Kst) (A : Nat → Nat) {σ : Sto} {x1 : Int32} {rr : Int32} {ss : Sto} (h : p_Mo_members σ x1 = some (rr, ss)) : Met l y_Mo_members w_Mo_members r_Mo_members (va_Pc [.ref (A 0), .int x1] (YB K A σ)) (YQi K A rr ss) 0 0 (YF A) := by
  refine Met.ofW (cc := b_Mo_members) (maxL := 4) (ret := (some .int)) (by decide) rfl ?_
  intro p e s m args below meth c s₁ B hml hv
  obtain ⟨rfl, hP, hK, hD⟩ := hv
  have hx := B.exec
  have hb := B.bytes
  have hr := B.returns
  have hts := atoms_spec (ws := w_Mo_members) B.pre
  have hg : ∀ w ∈ Tg, w.before _ s = true := fun w q => hts w (List.mem_cons_of_mem _ q)
  have hown : s.vm.findClass "LanguageServerModel" = some m.cls := findClass_of_methodNamed B.named
  have hlocks := B.notSynchronized
  have hS : va_S (YF A) s.heap s.heap [] := va_S.rf
  have hl := lv_entry ([.ref (A 0), .int x1]) (n := 4) (Nat.le_of_ble_eq_true rfl)
  rw [lg_entry_eq]
  generalize (lg_sl ([.ref (A 0), .int x1]) ++ List.replicate (4 - (lg_sl ([.ref (A 0), .int x1])).length) Slot.unset).toArray = ls at hl ⊢
  have hl : lv_has ls 4 [(0, .ref (A 0)), (1, .int x1)] := hl
  generalize hargs : ([.ref (A 0), .int x1] : List Value).toArray = args at hg hts ⊢
  obtain ⟨Q, hQ⟩ : ∃ Q, Q = MQ below (YQi K A rr ss) args s 0 0 (YF A) := ⟨_, rfl⟩
  rw [← hQ]
  have hRet : ∀ (v : Int32) (σ : Sto), some (v, σ) = some (rr, ss) → ∀ (H : Heap) (locs : List Loc), va_P K.1 vwCl (wY K A σ) H → va_D (YF A) (wY K A σ) → va_S (YF A) s.heap H locs → ∀ (pc : Nat) (ls : Array Slot), decode b_Mo_members pc = .ok (.ireturn, 1) → W p l e (headSpec w_Mo_members r_Mo_members).room s m args below meth c H locs 0 0 Q (F0 m pc ls [.int v]) := by
    intro v σ h H locs hP hD hS pc ls hd
    cases h
    subst hQ
    exact W.iret hx hb hr (fun t ht hW => ⟨⟨_, (), rfl, rfl, by rw [ht]; exact hP, RK.warm hW hK, hD⟩, hS.F ht⟩) hS.2.2 hd
  clear hQ
  unfold p_Mo_members at h
  have L_31 : ∀ (n : Nat) (σ : Sto) (x2 : Int32) (x3 : Int32), p_Mo_members_L31 x1 n σ x2 x3 = some (rr, ss) → ∀ (H : Heap) (locs : List Loc), va_P K.1 vwCl (wY K A σ) H → va_D (YF A) (wY K A σ) → va_S (YF A) s.heap H locs → ∀ ls : Array Slot, lv_has ls 4 [(0, .ref (A 0)), (1, .int x1), (2, .int x2), (3, .int x3)] → W p l e (headSpec w_Mo_members r_Mo_members).room s m args below meth c H locs 0 0 Q (F0 m 31 ls []) := by
    intro n
    induction n with
    | zero => intro _ _ _ h; cases h
    | succ n ih =>
      intro σ x2 x3 h H locs hP hD hS ls hl
      rw [p_Mo_members_L31] at h
      refine lv_iload_n hx hb d_Mo_members_31 rfl (lv_at hl 3 rfl) ?_
      refine lv_aload_n hx hb d_Mo_members_32 rfl (lv_at hl 0 rfl) ?_
      refine gf_Mo_118 hx hb hg hown hK hP d_Mo_members_33 ?_
      refine lv_icmp_ge (tgt := 57) hx hb d_Mo_members_36 (by decide) (fun c_36 => ?_) (fun c_36 => ?_)
      · replace h := itp c_36 h
        refine lv_iload_n hx hb d_Mo_members_57 rfl (lv_at hl 2 rfl) ?_
        exact hRet _ _ h _ _ hP hD hS _ _ d_Mo_members_58
      · replace h := itf c_36 h
        refine lv_aload_n hx hb d_Mo_members_39 rfl (lv_at hl 0 rfl) ?_
        refine lv_iload_n hx hb d_Mo_members_40 rfl (lv_at hl 1 rfl) ?_
        refine lv_iload_n hx hb d_Mo_members_41 rfl (lv_at hl 3 rfl) ?_
        obtain ⟨v_42, e_42, h⟩ := bd1_some h
        refine Y_calli (va_runV (As := [.int x1, .int x3]) (rest := []) ⟨hx, hb, hml, hown, hts⟩ (c_Mo_hasMember l K A e_42) (cwV 2 hts (gd_V wd_1247 wd_1249 wp_87 wd_10 wd_1250) rfl rfl rfl dv_Mo_hasMember ⟨Nat.le_of_ble_eq_true rfl, Nat.le_of_ble_eq_true rfl⟩) (Y_pv_0 hK hP hD) rfl rfl hl.1 rfl (lv_room (Nat.le_of_ble_eq_true rfl)) d_Mo_members_42 ⟨Nat.le_of_ble_eq_true rfl, Nat.le_of_ble_eq_true rfl⟩) hS (fun H locs hP hD hS => ?_)
        refine lv_if_eq (tgt := 51) hx hb d_Mo_members_45 (by decide) (fun c_45 => ?_) (fun c_45 => ?_)
        · replace h := itp c_45 h
          refine lv_iinc (v := x3 + 1) (lv' := [(3, .int (x3 + 1)), (0, .ref (A 0)), (1, .int x1), (2, .int x2)]) hx hb d_Mo_members_51 hl (k := 3) rfl (by first | rfl | decide) (by decide) rfl (fun ls hl => ?_)
          refine lv_goto (tgt := 31) hx hb d_Mo_members_54 (by decide) ?_
          exact ih _ _ _ h _ _ hP hD hS ls (lv_sub hl [1, 2, 3, 0] rfl)
        · replace h := itf c_45 h
          refine lv_iinc (v := x2 + 1) (lv' := [(2, .int (x2 + 1)), (0, .ref (A 0)), (1, .int x1), (3, .int x3)]) hx hb d_Mo_members_48 hl (k := 2) rfl (by first | rfl | decide) (by decide) rfl (fun ls hl => ?_)
          refine lv_iinc (v := x3 + 1) (lv' := [(3, .int (x3 + 1)), (2, .int (x2 + 1)), (0, .ref (A 0)), (1, .int x1)]) hx hb d_Mo_members_51 hl (k := 3) rfl (by first | rfl | decide) (by decide) rfl (fun ls hl => ?_)
          refine lv_goto (tgt := 31) hx hb d_Mo_members_54 (by decide) ?_
          exact ih _ _ _ h _ _ hP hD hS ls (lv_sub hl [2, 3, 1, 0] rfl)
  refine lv_aload_n hx hb d_Mo_members_0 rfl (lv_at hl 0 rfl) ?_
  refine lv_iconst (v := 0) hx hb d_Mo_members_1 (by decide) ?_
  refine pf_Mo_81 hx hb hg hown hK hP hD hS d_Mo_members_2 (fun H locs hP hD hS => ?_)
  refine lv_aload_n hx hb d_Mo_members_5 rfl (lv_at hl 0 rfl) ?_
  obtain ⟨σ_6, e_6, h⟩ := bd1_some h
  refine Y_callv (va_runV (As := []) (rest := []) ⟨hx, hb, hml, hown, hts⟩ (c_Mo_analyse l K A e_6) (cwV 0 hts (gd_V wd_1030 wd_1032 wp_44 wd_10 wd_1033) rfl rfl rfl dv_Mo_analyse ⟨Nat.le_of_ble_eq_true rfl, Nat.le_of_ble_eq_true rfl⟩) (Y_pv_0 hK hP hD) rfl rfl hl.1 rfl (lv_room (Nat.le_of_ble_eq_true rfl)) d_Mo_members_6 ⟨Nat.le_of_ble_eq_true rfl, Nat.le_of_ble_eq_true rfl⟩) hS (fun H locs hP hD hS => ?_)
  refine lv_iload_n hx hb d_Mo_members_9 rfl (lv_at hl 1 rfl) ?_
  refine lv_if_lt (tgt := 21) hx hb d_Mo_members_10 (by decide) (fun c_10 => ?_) (fun c_10 => ?_)
  · replace h := itp c_10 h
    refine lv_aload_n hx hb d_Mo_members_21 rfl (lv_at hl 0 rfl) ?_
    refine lv_iconst (v := 1) hx hb d_Mo_members_22 (by decide) ?_
    obtain ⟨v_23, σ_23, e_23, h⟩ := bd2_some h
    refine Y_calli (va_runV (As := [.int 1]) (rest := []) ⟨hx, hb, hml, hown, hts⟩ (c_Mo_fail l K A e_23) (cwV 1 hts (gd_V wd_1007 wd_1009 wp_43 wd_10 wd_1010) rfl rfl rfl dv_Mo_fail ⟨Nat.le_of_ble_eq_true rfl, Nat.le_of_ble_eq_true rfl⟩) (Y_pv_0 hK hP hD) rfl rfl hl.1 rfl (lv_room (Nat.le_of_ble_eq_true rfl)) d_Mo_members_23 ⟨Nat.le_of_ble_eq_true rfl, Nat.le_of_ble_eq_true rfl⟩) hS (fun H locs hP hD hS => ?_)
    exact hRet _ _ h _ _ hP hD hS _ _ d_Mo_members_26
  · replace h := itf c_10 h
    refine lv_iload_n hx hb d_Mo_members_13 rfl (lv_at hl 1 rfl) ?_
    refine lv_aload_n hx hb d_Mo_members_14 rfl (lv_at hl 0 rfl) ?_
    refine gf_Mo_180 hx hb hg hown hK hP d_Mo_members_15 ?_
    refine lv_icmp_lt (tgt := 27) hx hb d_Mo_members_18 (by decide) (fun c_18 => ?_) (fun c_18 => ?_)
    · replace h := itp c_18 h
      refine lv_iconst (v := 0) hx hb d_Mo_members_27 (by decide) ?_
      refine lv_istore_n (lv' := [(2, .int 0), (0, .ref (A 0)), (1, .int x1)]) hx hb d_Mo_members_28 rfl hl (by decide) rfl (fun ls hl => ?_)
      refine lv_iconst (v := 0) hx hb d_Mo_members_29 (by decide) ?_
      refine lv_istore_n (lv' := [(3, .int 0), (2, .int 0), (0, .ref (A 0)), (1, .int x1)]) hx hb d_Mo_members_30 rfl hl (by decide) rfl (fun ls hl => ?_)
      exact L_31  FU _ _ _ h _ _ hP hD hS ls (lv_sub hl [2, 3, 1, 0] rfl)
    · replace h := itf c_18 h
      refine lv_aload_n hx hb d_Mo_members_21 rfl (lv_at hl 0 rfl) ?_
      refine lv_iconst (v := 1) hx hb d_Mo_members_22 (by decide) ?_
      obtain ⟨v_23, σ_23, e_23, h⟩ := bd2_some h
      refine Y_calli (va_runV (As := [.int 1]) (rest := []) ⟨hx, hb, hml, hown, hts⟩ (c_Mo_fail l K A e_23) (cwV 1 hts (gd_V wd_1007 wd_1009 wp_43 wd_10 wd_1010) rfl rfl rfl dv_Mo_fail ⟨Nat.le_of_ble_eq_true rfl, Nat.le_of_ble_eq_true rfl⟩) (Y_pv_0 hK hP hD) rfl rfl hl.1 rfl (lv_room (Nat.le_of_ble_eq_true rfl)) d_Mo_members_23 ⟨Nat.le_of_ble_eq_true rfl, Nat.le_of_ble_eq_true rfl⟩) hS (fun H locs hP hD hS => ?_)
      exact hRet _ _ h _ _ hP hD hS _ _ d_Mo_members_26
def p_Mo_aligned_L5 (x0 : Int64) : Nat → Int64 → Int32 → Option Int64
  | 0, _, _ => none
  | n + 1, x2, x4 =>
    (if (8 : Int32) ≤ x4 then
        some x2
      else
        (if (lg_cmp x2 0) = 0 then
          some x2
        else
          (if (lg_cmp (x2 >>> ((56 : Int32).toInt64 &&& 63)) 0) = 0 then
            p_Mo_aligned_L5 x0 n (x2 <<< ((8 : Int32).toInt64 &&& 63)) (x4 + 1)
          else
            some x2)))
def p_Mo_aligned (x0 : Int64) : Option Int64 :=
  p_Mo_aligned_L5 x0 FU x0 0
abbrev w_Mo_aligned : List Cond := Cond.code y_Mo_aligned b_Mo_aligned 5 (some .long) :: Tg
abbrev r_Mo_aligned : Room := { frames := 0, cells := 0, slots := 0, locals := 0 }
theorem ds_Mo_aligned : y_Mo_aligned.cls ≠ "java/lang/invoke/MethodHandle" ∧ y_Mo_aligned.cls ≠ "java/lang/invoke/VarHandle" ∧ (parseMethodDescriptor y_Mo_aligned.desc).map (fun d => d.parameters.length) = some 1 := by decide +kernel
set_option maxHeartbeats 4000000 in
set_option maxRecDepth 100000 in
theorem c_Mo_aligned (l : Launch) {x0 : Int64} {rr : Int64} (h : p_Mo_aligned x0 = some rr) : Met l y_Mo_aligned w_Mo_aligned r_Mo_aligned (va_Pc [.long x0] KN) (PQl rr) 0 0 PF := by
  refine Met.ofW (cc := b_Mo_aligned) (maxL := 5) (ret := (some .long)) (by decide) rfl ?_
  intro p e s m args below meth c s₁ B hml hv
  obtain ⟨rfl, hk⟩ := hv
  have hx := B.exec
  have hb := B.bytes
  have hr := B.returns
  have hts := atoms_spec (ws := w_Mo_aligned) B.pre
  have hg : ∀ w ∈ Tg, w.before _ s = true := fun w q => hts w (List.mem_cons_of_mem _ q)
  have hown : s.vm.findClass "LanguageServerModel" = some m.cls := findClass_of_methodNamed B.named
  have hlocks := B.notSynchronized
  have hS : va_S (PF) s.heap s.heap [] := va_S.rf
  have hl := lv_entry ([.long x0]) (n := 5) (Nat.le_of_ble_eq_true rfl)
  rw [lg_entry_eq]
  generalize (lg_sl ([.long x0]) ++ List.replicate (5 - (lg_sl ([.long x0])).length) Slot.unset).toArray = ls at hl ⊢
  have hl : lv_has ls 5 [(0, .long x0)] := hl
  generalize hargs : ([.long x0] : List Value).toArray = args at hg hts ⊢
  obtain ⟨Q, hQ⟩ : ∃ Q, Q = MQ below (PQl rr) args s 0 0 (PF) := ⟨_, rfl⟩
  rw [← hQ]
  have hRet : ∀ (v : Int64), some v = some rr → ∀ (H : Heap) (locs : List Loc), va_S (PF) s.heap H locs → ∀ (pc : Nat) (ls : Array Slot), decode b_Mo_aligned pc = .ok (.lreturn, 1) → W p l e (headSpec w_Mo_aligned r_Mo_aligned).room s m args below meth c H locs 0 0 Q (F0 m pc ls [.long v]) := by
    intro v h H locs hS pc ls hd
    cases h
    subst hQ
    exact W.lret hx hb hr (fun t ht hW => ⟨⟨_, (), rfl, rfl, trivial⟩, hS.F ht⟩) hS.2.2 hd
  clear hQ
  unfold p_Mo_aligned at h
  have L_5 : ∀ (n : Nat) (x2 : Int64) (x4 : Int32), p_Mo_aligned_L5 x0 n x2 x4 = some rr → ∀ (H : Heap) (locs : List Loc), va_S PF s.heap H locs → ∀ ls : Array Slot, lv_has ls 5 [(2, .long x2), (4, .int x4)] → W p l e (headSpec w_Mo_aligned r_Mo_aligned).room s m args below meth c H locs 0 0 Q (F0 m 5 ls []) := by
    intro n
    induction n with
    | zero => intro _ _ h; cases h
    | succ n ih =>
      intro x2 x4 h H locs hS ls hl
      rw [p_Mo_aligned_L5] at h
      refine lv_iload hx hb d_Mo_aligned_5 (lv_at hl 1 rfl) ?_
      refine lv_bipush (v := 8) hx hb d_Mo_aligned_7 (by decide) ?_
      refine lv_icmp_ge (tgt := 38) hx hb d_Mo_aligned_9 (by decide) (fun c_9 => ?_) (fun c_9 => ?_)
      · replace h := itp c_9 h
        refine lv_lload_n hx hb d_Mo_aligned_38 rfl (lv_at hl 0 rfl) ?_
        exact hRet _ h _ _ hS _ _ d_Mo_aligned_39
      · replace h := itf c_9 h
        refine lv_lload_n hx hb d_Mo_aligned_12 rfl (lv_at hl 0 rfl) ?_
        refine lv_lconst (v := 0) hx hb d_Mo_aligned_13 (by decide) ?_
        refine W.lcmp hx hb d_Mo_aligned_14 ?_
        refine lv_if_eq (tgt := 38) hx hb d_Mo_aligned_15 (by decide) (fun c_15 => ?_) (fun c_15 => ?_)
        · replace h := itp c_15 h
          refine lv_lload_n hx hb d_Mo_aligned_38 rfl (lv_at hl 0 rfl) ?_
          exact hRet _ h _ _ hS _ _ d_Mo_aligned_39
        · replace h := itf c_15 h
          refine lv_lload_n hx hb d_Mo_aligned_18 rfl (lv_at hl 0 rfl) ?_
          refine lv_bipush (v := 56) hx hb d_Mo_aligned_19 (by decide) ?_
          refine lv_lshr hx hb d_Mo_aligned_21 rfl ?_
          refine lv_lconst (v := 0) hx hb d_Mo_aligned_22 (by decide) ?_
          refine W.lcmp hx hb d_Mo_aligned_23 ?_
          refine lv_if_ne (tgt := 38) hx hb d_Mo_aligned_24 (by decide) (fun c_24 => ?_) (fun c_24 => ?_)
          · replace h := itf c_24 h
            refine lv_lload_n hx hb d_Mo_aligned_38 rfl (lv_at hl 0 rfl) ?_
            exact hRet _ h _ _ hS _ _ d_Mo_aligned_39
          · replace h := itp c_24 h
            refine lv_lload_n hx hb d_Mo_aligned_27 rfl (lv_at hl 0 rfl) ?_
            refine lv_bipush (v := 8) hx hb d_Mo_aligned_28 (by decide) ?_
            refine lv_lshl hx hb d_Mo_aligned_30 rfl ?_
            refine lv_lstore_n (lv' := [(2, .long (x2 <<< ((8 : Int32).toInt64 &&& 63))), (4, .int x4)]) hx hb d_Mo_aligned_31 rfl hl (by decide) rfl (fun ls hl => ?_)
            refine lv_iinc (v := x4 + 1) (lv' := [(4, .int (x4 + 1)), (2, .long (x2 <<< ((8 : Int32).toInt64 &&& 63)))]) hx hb d_Mo_aligned_32 hl (k := 1) rfl (by first | rfl | decide) (by decide) rfl (fun ls hl => ?_)
            refine lv_goto (tgt := 5) hx hb d_Mo_aligned_35 (by decide) ?_
            exact ih _ _ h _ _ hS ls (lv_sub hl [1, 0] rfl)
  refine lv_lload_n hx hb d_Mo_aligned_0 rfl (lv_at hl 0 rfl) ?_
  refine lv_lstore_n (lv' := [(2, .long x0), (0, .long x0)]) hx hb d_Mo_aligned_1 rfl hl (by decide) rfl (fun ls hl => ?_)
  refine lv_iconst (v := 0) hx hb d_Mo_aligned_2 (by decide) ?_
  refine lv_istore (lv' := [(4, .int 0), (2, .long x0), (0, .long x0)]) hx hb d_Mo_aligned_3 hl (by decide) rfl (fun ls hl => ?_)
  exact L_5  FU _ _ h _ _ hS ls (lv_sub hl [1, 0] rfl)
def p_Mo_before_L5 (σ : Sto) (x1 : Int32) (x2 : Int32) : Nat → Int32 → Int32 → Option Int32
  | 0, _, _ => none
  | n + 1, x3, x4 =>
    (if (σ.1 3) ≤ x4 then
        some x3
      else
        bd1 (p_Mo_hasMember σ x1 x4) fun v_18 =>
        (if v_18 = 0 then
          p_Mo_before_L5 σ x1 x2 n x3 (x4 + 1)
        else
          if inR x4 124 then bd1 (p_Mo_aligned (σ.2.2 x4.toNatClampNeg)) fun v_31 =>
          if inR x2 124 then bd1 (p_Mo_aligned (σ.2.2 x2.toNatClampNeg)) fun v_40 =>
          (if (0 : Int32) ≤ (lg_cmp v_31 v_40) then
            p_Mo_before_L5 σ x1 x2 n x3 (x4 + 1)
          else
            p_Mo_before_L5 σ x1 x2 n (x3 + 1) (x4 + 1)) else none else none))
def p_Mo_before (σ : Sto) (x1 : Int32) (x2 : Int32) : Option Int32 :=
  p_Mo_before_L5 σ x1 x2 FU 0 0
abbrev w_Mo_before : List Cond := Cond.code y_Mo_before b_Mo_before 5 (some .int) :: Tg
abbrev r_Mo_before : Room := { frames := 6, cells := 0, slots := 0, locals := 135 }
theorem dv_Mo_before : y_Mo_before.cls = "LanguageServerModel" ∧ y_Mo_before.cls ≠ "java/lang/invoke/MethodHandle" ∧ y_Mo_before.cls ≠ "java/lang/invoke/VarHandle" ∧ (parseMethodDescriptor y_Mo_before.desc).map (fun d => d.parameters.length) = some 2 := by decide +kernel
set_option maxHeartbeats 4000000 in
set_option maxRecDepth 100000 in
theorem c_Mo_before (l : Launch) (K : Kst) (A : Nat → Nat) {σ : Sto} {x1 : Int32} {x2 : Int32} {rr : Int32} (h : p_Mo_before σ x1 x2 = some rr) : Met l y_Mo_before w_Mo_before r_Mo_before (va_Pc [.ref (A 0), .int x1, .int x2] (YB K A σ)) (YQi K A rr σ) 0 0 (YF A) := by
  refine Met.ofW (cc := b_Mo_before) (maxL := 5) (ret := (some .int)) (by decide) rfl ?_
  intro p e s m args below meth c s₁ B hml hv
  obtain ⟨rfl, hP, hK, hD⟩ := hv
  have hx := B.exec
  have hb := B.bytes
  have hr := B.returns
  have hts := atoms_spec (ws := w_Mo_before) B.pre
  have hg : ∀ w ∈ Tg, w.before _ s = true := fun w q => hts w (List.mem_cons_of_mem _ q)
  have hown : s.vm.findClass "LanguageServerModel" = some m.cls := findClass_of_methodNamed B.named
  have hlocks := B.notSynchronized
  have hS : va_S (YF A) s.heap s.heap [] := va_S.rf
  have hl := lv_entry ([.ref (A 0), .int x1, .int x2]) (n := 5) (Nat.le_of_ble_eq_true rfl)
  rw [lg_entry_eq]
  generalize (lg_sl ([.ref (A 0), .int x1, .int x2]) ++ List.replicate (5 - (lg_sl ([.ref (A 0), .int x1, .int x2])).length) Slot.unset).toArray = ls at hl ⊢
  have hl : lv_has ls 5 [(0, .ref (A 0)), (1, .int x1), (2, .int x2)] := hl
  generalize hargs : ([.ref (A 0), .int x1, .int x2] : List Value).toArray = args at hg hts ⊢
  obtain ⟨Q, hQ⟩ : ∃ Q, Q = MQ below (YQi K A rr σ) args s 0 0 (YF A) := ⟨_, rfl⟩
  rw [← hQ]
  have hRet : ∀ (v : Int32), some v = some rr → ∀ (H : Heap) (locs : List Loc), va_P K.1 vwCl (wY K A σ) H → va_D (YF A) (wY K A σ) → va_S (YF A) s.heap H locs → ∀ (pc : Nat) (ls : Array Slot), decode b_Mo_before pc = .ok (.ireturn, 1) → W p l e (headSpec w_Mo_before r_Mo_before).room s m args below meth c H locs 0 0 Q (F0 m pc ls [.int v]) := by
    intro v h H locs hP hD hS pc ls hd
    cases h
    subst hQ
    exact W.iret hx hb hr (fun t ht hW => ⟨⟨_, (), rfl, rfl, by rw [ht]; exact hP, RK.warm hW hK, hD⟩, hS.F ht⟩) hS.2.2 hd
  clear hQ
  unfold p_Mo_before at h
  have L_5 : ∀ (n : Nat) (x3 : Int32) (x4 : Int32), p_Mo_before_L5 σ x1 x2 n x3 x4 = some rr → ∀ (H : Heap) (locs : List Loc), va_P K.1 vwCl (wY K A σ) H → va_D (YF A) (wY K A σ) → va_S (YF A) s.heap H locs → ∀ ls : Array Slot, lv_has ls 5 [(0, .ref (A 0)), (1, .int x1), (2, .int x2), (3, .int x3), (4, .int x4)] → W p l e (headSpec w_Mo_before r_Mo_before).room s m args below meth c H locs 0 0 Q (F0 m 5 ls []) := by
    intro n
    induction n with
    | zero => intro _ _ h; cases h
    | succ n ih =>
      intro x3 x4 h H locs hP hD hS ls hl
      rw [p_Mo_before_L5] at h
      refine lv_iload hx hb d_Mo_before_5 (lv_at hl 4 rfl) ?_
      refine lv_aload_n hx hb d_Mo_before_7 rfl (lv_at hl 0 rfl) ?_
      refine gf_Mo_118 hx hb hg hown hK hP d_Mo_before_8 ?_
      refine lv_icmp_ge (tgt := 56) hx hb d_Mo_before_11 (by decide) (fun c_11 => ?_) (fun c_11 => ?_)
      · replace h := itp c_11 h
        refine lv_iload_n hx hb d_Mo_before_56 rfl (lv_at hl 3 rfl) ?_
        exact hRet _ h _ _ hP hD hS _ _ d_Mo_before_57
      · replace h := itf c_11 h
        refine lv_aload_n hx hb d_Mo_before_14 rfl (lv_at hl 0 rfl) ?_
        refine lv_iload_n hx hb d_Mo_before_15 rfl (lv_at hl 1 rfl) ?_
        refine lv_iload hx hb d_Mo_before_16 (lv_at hl 4 rfl) ?_
        obtain ⟨v_18, e_18, h⟩ := bd1_some h
        refine Y_calli (va_runV (As := [.int x1, .int x4]) (rest := []) ⟨hx, hb, hml, hown, hts⟩ (c_Mo_hasMember l K A e_18) (cwV 2 hts (gd_V wd_1247 wd_1249 wp_87 wd_10 wd_1250) rfl rfl rfl dv_Mo_hasMember ⟨Nat.le_of_ble_eq_true rfl, Nat.le_of_ble_eq_true rfl⟩) (Y_pv_0 hK hP hD) rfl rfl hl.1 rfl (lv_room (Nat.le_of_ble_eq_true rfl)) d_Mo_before_18 ⟨Nat.le_of_ble_eq_true rfl, Nat.le_of_ble_eq_true rfl⟩) hS (fun H locs hP hD hS => ?_)
        refine lv_if_eq (tgt := 50) hx hb d_Mo_before_21 (by decide) (fun c_21 => ?_) (fun c_21 => ?_)
        · replace h := itp c_21 h
          refine lv_iinc (v := x4 + 1) (lv' := [(4, .int (x4 + 1)), (0, .ref (A 0)), (1, .int x1), (2, .int x2), (3, .int x3)]) hx hb d_Mo_before_50 hl (k := 4) rfl (by first | rfl | decide) (by decide) rfl (fun ls hl => ?_)
          refine lv_goto (tgt := 5) hx hb d_Mo_before_53 (by decide) ?_
          exact ih _ _ h _ _ hP hD hS ls (lv_sub hl [1, 2, 3, 4, 0] rfl)
        · replace h := itf c_21 h
          refine lv_aload_n hx hb d_Mo_before_24 rfl (lv_at hl 0 rfl) ?_
          refine gf_Mo_19 hx hb hg hown hK hP d_Mo_before_25 ?_
          refine lv_iload hx hb d_Mo_before_28 (lv_at hl 4 rfl) ?_
          obtain ⟨i_30, h⟩ := itn h
          refine Yra_4 hx hb hK hP i_30 d_Mo_before_30 ?_
          obtain ⟨v_31, e_31, h⟩ := bd1_some h
          refine R_cpl (va_runS (As := [.long (σ.2.2 x4.toNatClampNeg)]) (rest := []) ⟨hx, hb, hml, hown, hts⟩ (c_Mo_aligned l e_31) (va_cwS 1 hts (gd_S wd_1259 wd_1260 wd_10 wd_1261) rfl rfl rfl ds_Mo_aligned ⟨Nat.le_of_ble_eq_true rfl, Nat.le_of_ble_eq_true rfl⟩) (P_ps hK.2) rfl rfl hl.1 rfl (lv_room (Nat.le_of_ble_eq_true rfl)) d_Mo_before_31 ⟨Nat.le_of_ble_eq_true rfl, Nat.le_of_ble_eq_true rfl⟩) hP hD hS (fun H locs hP hD hS => ?_)
          refine lv_aload_n hx hb d_Mo_before_34 rfl (lv_at hl 0 rfl) ?_
          refine gf_Mo_19 hx hb hg hown hK hP d_Mo_before_35 ?_
          refine lv_iload_n hx hb d_Mo_before_38 rfl (lv_at hl 2 rfl) ?_
          obtain ⟨i_39, h⟩ := itn h
          refine Yra_4 hx hb hK hP i_39 d_Mo_before_39 ?_
          obtain ⟨v_40, e_40, h⟩ := bd1_some h
          refine R_cpl (va_runS (As := [.long (σ.2.2 x2.toNatClampNeg)]) (rest := [.long v_31]) ⟨hx, hb, hml, hown, hts⟩ (c_Mo_aligned l e_40) (va_cwS 1 hts (gd_S wd_1259 wd_1260 wd_10 wd_1261) rfl rfl rfl ds_Mo_aligned ⟨Nat.le_of_ble_eq_true rfl, Nat.le_of_ble_eq_true rfl⟩) (P_ps hK.2) rfl rfl hl.1 rfl (lv_room (Nat.le_of_ble_eq_true rfl)) d_Mo_before_40 ⟨Nat.le_of_ble_eq_true rfl, Nat.le_of_ble_eq_true rfl⟩) hP hD hS (fun H locs hP hD hS => ?_)
          refine W.lcmp hx hb d_Mo_before_43 ?_
          refine lv_if_ge (tgt := 50) hx hb d_Mo_before_44 (by decide) (fun c_44 => ?_) (fun c_44 => ?_)
          · replace h := itp c_44 h
            refine lv_iinc (v := x4 + 1) (lv' := [(4, .int (x4 + 1)), (0, .ref (A 0)), (1, .int x1), (2, .int x2), (3, .int x3)]) hx hb d_Mo_before_50 hl (k := 4) rfl (by first | rfl | decide) (by decide) rfl (fun ls hl => ?_)
            refine lv_goto (tgt := 5) hx hb d_Mo_before_53 (by decide) ?_
            exact ih _ _ h _ _ hP hD hS ls (lv_sub hl [1, 2, 3, 4, 0] rfl)
          · replace h := itf c_44 h
            refine lv_iinc (v := x3 + 1) (lv' := [(3, .int (x3 + 1)), (0, .ref (A 0)), (1, .int x1), (2, .int x2), (4, .int x4)]) hx hb d_Mo_before_47 hl (k := 3) rfl (by first | rfl | decide) (by decide) rfl (fun ls hl => ?_)
            refine lv_iinc (v := x4 + 1) (lv' := [(4, .int (x4 + 1)), (3, .int (x3 + 1)), (0, .ref (A 0)), (1, .int x1), (2, .int x2)]) hx hb d_Mo_before_50 hl (k := 4) rfl (by first | rfl | decide) (by decide) rfl (fun ls hl => ?_)
            refine lv_goto (tgt := 5) hx hb d_Mo_before_53 (by decide) ?_
            exact ih _ _ h _ _ hP hD hS ls (lv_sub hl [2, 3, 4, 1, 0] rfl)
  refine lv_iconst (v := 0) hx hb d_Mo_before_0 (by decide) ?_
  refine lv_istore_n (lv' := [(3, .int 0), (0, .ref (A 0)), (1, .int x1), (2, .int x2)]) hx hb d_Mo_before_1 rfl hl (by decide) rfl (fun ls hl => ?_)
  refine lv_iconst (v := 0) hx hb d_Mo_before_2 (by decide) ?_
  refine lv_istore (lv' := [(4, .int 0), (3, .int 0), (0, .ref (A 0)), (1, .int x1), (2, .int x2)]) hx hb d_Mo_before_3 hl (by decide) rfl (fun ls hl => ?_)
  exact L_5  FU _ _ h _ _ hP hD hS ls (lv_sub hl [2, 3, 4, 1, 0] rfl)
def p_Mo_member_L29 (x1 : Int32) (x2 : Int32) : Nat → Sto → Int32 → Option (Int32 × Sto)
  | 0, _, _ => none
  | n + 1, σ, x3 =>
    (if (σ.1 3) ≤ x3 then
        bd2 (p_Mo_fail σ 1) fun v_71 σ_71 =>
        some (v_71, σ_71)
      else
        bd1 (p_Mo_hasMember σ x1 x3) fun v_40 =>
        (if v_40 = 0 then
          p_Mo_member_L29 x1 x2 n σ (x3 + 1)
        else
          bd1 (p_Mo_before σ x1 x3) fun v_49 =>
          (if v_49 = x2 then
            if inR x3 124 then some (σ.2.1 5 x3.toNatClampNeg, σ) else none
          else
            p_Mo_member_L29 x1 x2 n σ (x3 + 1))))
def p_Mo_member (σ : Sto) (x1 : Int32) (x2 : Int32) : Option (Int32 × Sto) :=
  bd1 (p_Mo_analyse (sS σ 0 0)) fun σ_6 =>
    (if x1 < 0 then
      bd2 (p_Mo_fail σ_6 1) fun v_23 σ_23 =>
      some (v_23, σ_23)
    else
      (if x1 < (σ_6.1 6) then
        p_Mo_member_L29 x1 x2 FU σ_6 0
      else
        bd2 (p_Mo_fail σ_6 1) fun v_23 σ_23 =>
        some (v_23, σ_23)))
abbrev w_Mo_member : List Cond := Cond.code y_Mo_member b_Mo_member 4 (some .int) :: Tg
abbrev r_Mo_member : Room := { frames := 12, cells := 0, slots := 0, locals := 269 }
theorem dv_Mo_member : y_Mo_member.cls = "LanguageServerModel" ∧ y_Mo_member.cls ≠ "java/lang/invoke/MethodHandle" ∧ y_Mo_member.cls ≠ "java/lang/invoke/VarHandle" ∧ (parseMethodDescriptor y_Mo_member.desc).map (fun d => d.parameters.length) = some 2 := by decide +kernel
set_option maxHeartbeats 4000000 in
set_option maxRecDepth 100000 in
theorem c_Mo_member (l : Launch) (K : Kst) (A : Nat → Nat) {σ : Sto} {x1 : Int32} {x2 : Int32} {rr : Int32} {ss : Sto} (h : p_Mo_member σ x1 x2 = some (rr, ss)) : Met l y_Mo_member w_Mo_member r_Mo_member (va_Pc [.ref (A 0), .int x1, .int x2] (YB K A σ)) (YQi K A rr ss) 0 0 (YF A) := by
  refine Met.ofW (cc := b_Mo_member) (maxL := 4) (ret := (some .int)) (by decide) rfl ?_
  intro p e s m args below meth c s₁ B hml hv
  obtain ⟨rfl, hP, hK, hD⟩ := hv
  have hx := B.exec
  have hb := B.bytes
  have hr := B.returns
  have hts := atoms_spec (ws := w_Mo_member) B.pre
  have hg : ∀ w ∈ Tg, w.before _ s = true := fun w q => hts w (List.mem_cons_of_mem _ q)
  have hown : s.vm.findClass "LanguageServerModel" = some m.cls := findClass_of_methodNamed B.named
  have hlocks := B.notSynchronized
  have hS : va_S (YF A) s.heap s.heap [] := va_S.rf
  have hl := lv_entry ([.ref (A 0), .int x1, .int x2]) (n := 4) (Nat.le_of_ble_eq_true rfl)
  rw [lg_entry_eq]
  generalize (lg_sl ([.ref (A 0), .int x1, .int x2]) ++ List.replicate (4 - (lg_sl ([.ref (A 0), .int x1, .int x2])).length) Slot.unset).toArray = ls at hl ⊢
  have hl : lv_has ls 4 [(0, .ref (A 0)), (1, .int x1), (2, .int x2)] := hl
  generalize hargs : ([.ref (A 0), .int x1, .int x2] : List Value).toArray = args at hg hts ⊢
  obtain ⟨Q, hQ⟩ : ∃ Q, Q = MQ below (YQi K A rr ss) args s 0 0 (YF A) := ⟨_, rfl⟩
  rw [← hQ]
  have hRet : ∀ (v : Int32) (σ : Sto), some (v, σ) = some (rr, ss) → ∀ (H : Heap) (locs : List Loc), va_P K.1 vwCl (wY K A σ) H → va_D (YF A) (wY K A σ) → va_S (YF A) s.heap H locs → ∀ (pc : Nat) (ls : Array Slot), decode b_Mo_member pc = .ok (.ireturn, 1) → W p l e (headSpec w_Mo_member r_Mo_member).room s m args below meth c H locs 0 0 Q (F0 m pc ls [.int v]) := by
    intro v σ h H locs hP hD hS pc ls hd
    cases h
    subst hQ
    exact W.iret hx hb hr (fun t ht hW => ⟨⟨_, (), rfl, rfl, by rw [ht]; exact hP, RK.warm hW hK, hD⟩, hS.F ht⟩) hS.2.2 hd
  clear hQ
  unfold p_Mo_member at h
  have L_29 : ∀ (n : Nat) (σ : Sto) (x3 : Int32), p_Mo_member_L29 x1 x2 n σ x3 = some (rr, ss) → ∀ (H : Heap) (locs : List Loc), va_P K.1 vwCl (wY K A σ) H → va_D (YF A) (wY K A σ) → va_S (YF A) s.heap H locs → ∀ ls : Array Slot, lv_has ls 4 [(0, .ref (A 0)), (1, .int x1), (2, .int x2), (3, .int x3)] → W p l e (headSpec w_Mo_member r_Mo_member).room s m args below meth c H locs 0 0 Q (F0 m 29 ls []) := by
    intro n
    induction n with
    | zero => intro _ _ h; cases h
    | succ n ih =>
      intro σ x3 h H locs hP hD hS ls hl
      rw [p_Mo_member_L29] at h
      refine lv_iload_n hx hb d_Mo_member_29 rfl (lv_at hl 3 rfl) ?_
      refine lv_aload_n hx hb d_Mo_member_30 rfl (lv_at hl 0 rfl) ?_
      refine gf_Mo_118 hx hb hg hown hK hP d_Mo_member_31 ?_
      refine lv_icmp_ge (tgt := 69) hx hb d_Mo_member_34 (by decide) (fun c_34 => ?_) (fun c_34 => ?_)
      · replace h := itp c_34 h
        refine lv_aload_n hx hb d_Mo_member_69 rfl (lv_at hl 0 rfl) ?_
        refine lv_iconst (v := 1) hx hb d_Mo_member_70 (by decide) ?_
        obtain ⟨v_71, σ_71, e_71, h⟩ := bd2_some h
        refine Y_calli (va_runV (As := [.int 1]) (rest := []) ⟨hx, hb, hml, hown, hts⟩ (c_Mo_fail l K A e_71) (cwV 1 hts (gd_V wd_1007 wd_1009 wp_43 wd_10 wd_1010) rfl rfl rfl dv_Mo_fail ⟨Nat.le_of_ble_eq_true rfl, Nat.le_of_ble_eq_true rfl⟩) (Y_pv_0 hK hP hD) rfl rfl hl.1 rfl (lv_room (Nat.le_of_ble_eq_true rfl)) d_Mo_member_71 ⟨Nat.le_of_ble_eq_true rfl, Nat.le_of_ble_eq_true rfl⟩) hS (fun H locs hP hD hS => ?_)
        exact hRet _ _ h _ _ hP hD hS _ _ d_Mo_member_74
      · replace h := itf c_34 h
        refine lv_aload_n hx hb d_Mo_member_37 rfl (lv_at hl 0 rfl) ?_
        refine lv_iload_n hx hb d_Mo_member_38 rfl (lv_at hl 1 rfl) ?_
        refine lv_iload_n hx hb d_Mo_member_39 rfl (lv_at hl 3 rfl) ?_
        obtain ⟨v_40, e_40, h⟩ := bd1_some h
        refine Y_calli (va_runV (As := [.int x1, .int x3]) (rest := []) ⟨hx, hb, hml, hown, hts⟩ (c_Mo_hasMember l K A e_40) (cwV 2 hts (gd_V wd_1247 wd_1249 wp_87 wd_10 wd_1250) rfl rfl rfl dv_Mo_hasMember ⟨Nat.le_of_ble_eq_true rfl, Nat.le_of_ble_eq_true rfl⟩) (Y_pv_0 hK hP hD) rfl rfl hl.1 rfl (lv_room (Nat.le_of_ble_eq_true rfl)) d_Mo_member_40 ⟨Nat.le_of_ble_eq_true rfl, Nat.le_of_ble_eq_true rfl⟩) hS (fun H locs hP hD hS => ?_)
        refine lv_if_eq (tgt := 63) hx hb d_Mo_member_43 (by decide) (fun c_43 => ?_) (fun c_43 => ?_)
        · replace h := itp c_43 h
          refine lv_iinc (v := x3 + 1) (lv' := [(3, .int (x3 + 1)), (0, .ref (A 0)), (1, .int x1), (2, .int x2)]) hx hb d_Mo_member_63 hl (k := 3) rfl (by first | rfl | decide) (by decide) rfl (fun ls hl => ?_)
          refine lv_goto (tgt := 29) hx hb d_Mo_member_66 (by decide) ?_
          exact ih _ _ h _ _ hP hD hS ls (lv_sub hl [1, 2, 3, 0] rfl)
        · replace h := itf c_43 h
          refine lv_aload_n hx hb d_Mo_member_46 rfl (lv_at hl 0 rfl) ?_
          refine lv_iload_n hx hb d_Mo_member_47 rfl (lv_at hl 1 rfl) ?_
          refine lv_iload_n hx hb d_Mo_member_48 rfl (lv_at hl 3 rfl) ?_
          obtain ⟨v_49, e_49, h⟩ := bd1_some h
          refine Y_calli (va_runV (As := [.int x1, .int x3]) (rest := []) ⟨hx, hb, hml, hown, hts⟩ (c_Mo_before l K A e_49) (cwV 2 hts (gd_V wd_1255 wd_1257 wp_88 wd_10 wd_1258) rfl rfl rfl dv_Mo_before ⟨Nat.le_of_ble_eq_true rfl, Nat.le_of_ble_eq_true rfl⟩) (Y_pv_0 hK hP hD) rfl rfl hl.1 rfl (lv_room (Nat.le_of_ble_eq_true rfl)) d_Mo_member_49 ⟨Nat.le_of_ble_eq_true rfl, Nat.le_of_ble_eq_true rfl⟩) hS (fun H locs hP hD hS => ?_)
          refine lv_iload_n hx hb d_Mo_member_52 rfl (lv_at hl 2 rfl) ?_
          refine lv_icmp_ne (tgt := 63) hx hb d_Mo_member_53 (by decide) (fun c_53 => ?_) (fun c_53 => ?_)
          · replace h := itf c_53 h
            refine lv_iinc (v := x3 + 1) (lv' := [(3, .int (x3 + 1)), (0, .ref (A 0)), (1, .int x1), (2, .int x2)]) hx hb d_Mo_member_63 hl (k := 3) rfl (by first | rfl | decide) (by decide) rfl (fun ls hl => ?_)
            refine lv_goto (tgt := 29) hx hb d_Mo_member_66 (by decide) ?_
            exact ih _ _ h _ _ hP hD hS ls (lv_sub hl [1, 2, 3, 0] rfl)
          · replace h := itp c_53 h
            refine lv_aload_n hx hb d_Mo_member_56 rfl (lv_at hl 0 rfl) ?_
            refine gf_Mo_23 hx hb hg hown hK hP d_Mo_member_57 ?_
            refine lv_iload_n hx hb d_Mo_member_60 rfl (lv_at hl 3 rfl) ?_
            obtain ⟨i_61, h⟩ := itn h
            refine Yra_5 hx hb hK hP i_61 d_Mo_member_61 ?_
            exact hRet _ _ h _ _ hP hD hS _ _ d_Mo_member_62
  refine lv_aload_n hx hb d_Mo_member_0 rfl (lv_at hl 0 rfl) ?_
  refine lv_iconst (v := 0) hx hb d_Mo_member_1 (by decide) ?_
  refine pf_Mo_81 hx hb hg hown hK hP hD hS d_Mo_member_2 (fun H locs hP hD hS => ?_)
  refine lv_aload_n hx hb d_Mo_member_5 rfl (lv_at hl 0 rfl) ?_
  obtain ⟨σ_6, e_6, h⟩ := bd1_some h
  refine Y_callv (va_runV (As := []) (rest := []) ⟨hx, hb, hml, hown, hts⟩ (c_Mo_analyse l K A e_6) (cwV 0 hts (gd_V wd_1030 wd_1032 wp_44 wd_10 wd_1033) rfl rfl rfl dv_Mo_analyse ⟨Nat.le_of_ble_eq_true rfl, Nat.le_of_ble_eq_true rfl⟩) (Y_pv_0 hK hP hD) rfl rfl hl.1 rfl (lv_room (Nat.le_of_ble_eq_true rfl)) d_Mo_member_6 ⟨Nat.le_of_ble_eq_true rfl, Nat.le_of_ble_eq_true rfl⟩) hS (fun H locs hP hD hS => ?_)
  refine lv_iload_n hx hb d_Mo_member_9 rfl (lv_at hl 1 rfl) ?_
  refine lv_if_lt (tgt := 21) hx hb d_Mo_member_10 (by decide) (fun c_10 => ?_) (fun c_10 => ?_)
  · replace h := itp c_10 h
    refine lv_aload_n hx hb d_Mo_member_21 rfl (lv_at hl 0 rfl) ?_
    refine lv_iconst (v := 1) hx hb d_Mo_member_22 (by decide) ?_
    obtain ⟨v_23, σ_23, e_23, h⟩ := bd2_some h
    refine Y_calli (va_runV (As := [.int 1]) (rest := []) ⟨hx, hb, hml, hown, hts⟩ (c_Mo_fail l K A e_23) (cwV 1 hts (gd_V wd_1007 wd_1009 wp_43 wd_10 wd_1010) rfl rfl rfl dv_Mo_fail ⟨Nat.le_of_ble_eq_true rfl, Nat.le_of_ble_eq_true rfl⟩) (Y_pv_0 hK hP hD) rfl rfl hl.1 rfl (lv_room (Nat.le_of_ble_eq_true rfl)) d_Mo_member_23 ⟨Nat.le_of_ble_eq_true rfl, Nat.le_of_ble_eq_true rfl⟩) hS (fun H locs hP hD hS => ?_)
    exact hRet _ _ h _ _ hP hD hS _ _ d_Mo_member_26
  · replace h := itf c_10 h
    refine lv_iload_n hx hb d_Mo_member_13 rfl (lv_at hl 1 rfl) ?_
    refine lv_aload_n hx hb d_Mo_member_14 rfl (lv_at hl 0 rfl) ?_
    refine gf_Mo_180 hx hb hg hown hK hP d_Mo_member_15 ?_
    refine lv_icmp_lt (tgt := 27) hx hb d_Mo_member_18 (by decide) (fun c_18 => ?_) (fun c_18 => ?_)
    · replace h := itp c_18 h
      refine lv_iconst (v := 0) hx hb d_Mo_member_27 (by decide) ?_
      refine lv_istore_n (lv' := [(3, .int 0), (0, .ref (A 0)), (1, .int x1), (2, .int x2)]) hx hb d_Mo_member_28 rfl hl (by decide) rfl (fun ls hl => ?_)
      exact L_29  FU _ _ h _ _ hP hD hS ls (lv_sub hl [1, 2, 3, 0] rfl)
    · replace h := itf c_18 h
      refine lv_aload_n hx hb d_Mo_member_21 rfl (lv_at hl 0 rfl) ?_
      refine lv_iconst (v := 1) hx hb d_Mo_member_22 (by decide) ?_
      obtain ⟨v_23, σ_23, e_23, h⟩ := bd2_some h
      refine Y_calli (va_runV (As := [.int 1]) (rest := []) ⟨hx, hb, hml, hown, hts⟩ (c_Mo_fail l K A e_23) (cwV 1 hts (gd_V wd_1007 wd_1009 wp_43 wd_10 wd_1010) rfl rfl rfl dv_Mo_fail ⟨Nat.le_of_ble_eq_true rfl, Nat.le_of_ble_eq_true rfl⟩) (Y_pv_0 hK hP hD) rfl rfl hl.1 rfl (lv_room (Nat.le_of_ble_eq_true rfl)) d_Mo_member_23 ⟨Nat.le_of_ble_eq_true rfl, Nat.le_of_ble_eq_true rfl⟩) hS (fun H locs hP hD hS => ?_)
      exact hRet _ _ h _ _ hP hD hS _ _ d_Mo_member_26
def p_Mo_newName_L21 (σ : Sto) (x1 : Int64) (x3 : Int32) : Nat → Int64 → Int32 → Option Int32
  | 0, _, _ => none
  | n + 1, x4, x6 =>
    (if x6 < 0 then
        bd1 (p_Mo_wordKind x4) fun v_79 =>
        (if v_79 = 1 then
          some 1
        else
          some 0)
      else
        bd1 (p_Mo_byteOf x1 x6) fun v_29 =>
        bd1 (p_Mo_letter v_29) fun v_36 =>
        (if v_36 = 0 then
          (if x6 = (x3 - 1) then
            some 0
          else
            bd1 (p_Mo_digit v_29) fun v_52 =>
            (if v_52 = 0 then
              some 0
            else
              p_Mo_newName_L21 σ x1 x3 n ((x4 <<< ((8 : Int32).toInt64 &&& 63)) ||| v_29.toInt64) (x6 + (-1))))
        else
          p_Mo_newName_L21 σ x1 x3 n ((x4 <<< ((8 : Int32).toInt64 &&& 63)) ||| v_29.toInt64) (x6 + (-1))))
def p_Mo_newName (σ : Sto) (x1 : Int64) (x3 : Int32) : Option Int32 :=
  (if x3 < 1 then
      some 0
    else
      (if x3 ≤ 8 then
        p_Mo_newName_L21 σ x1 x3 FU 0 (x3 - 1)
      else
        some 0))
abbrev w_Mo_newName : List Cond := Cond.code y_Mo_newName b_Mo_newName 8 (some .boolean) :: Tg
abbrev r_Mo_newName : Room := { frames := 1, cells := 0, slots := 0, locals := 22 }
theorem dv_Mo_newName : y_Mo_newName.cls = "LanguageServerModel" ∧ y_Mo_newName.cls ≠ "java/lang/invoke/MethodHandle" ∧ y_Mo_newName.cls ≠ "java/lang/invoke/VarHandle" ∧ (parseMethodDescriptor y_Mo_newName.desc).map (fun d => d.parameters.length) = some 2 := by decide +kernel
set_option maxHeartbeats 4000000 in
set_option maxRecDepth 100000 in
theorem c_Mo_newName (l : Launch) (K : Kst) (A : Nat → Nat) {σ : Sto} {x1 : Int64} {x3 : Int32} {rr : Int32} (h : p_Mo_newName σ x1 x3 = some rr) : Met l y_Mo_newName w_Mo_newName r_Mo_newName (va_Pc [.ref (A 0), .long x1, .int x3] (YB K A σ)) (YQi K A rr σ) 0 0 (YF A) := by
  refine Met.ofW (cc := b_Mo_newName) (maxL := 8) (ret := (some .boolean)) (by decide) rfl ?_
  intro p e s m args below meth c s₁ B hml hv
  obtain ⟨rfl, hP, hK, hD⟩ := hv
  have hx := B.exec
  have hb := B.bytes
  have hr := B.returns
  have hts := atoms_spec (ws := w_Mo_newName) B.pre
  have hg : ∀ w ∈ Tg, w.before _ s = true := fun w q => hts w (List.mem_cons_of_mem _ q)
  have hown : s.vm.findClass "LanguageServerModel" = some m.cls := findClass_of_methodNamed B.named
  have hlocks := B.notSynchronized
  have hS : va_S (YF A) s.heap s.heap [] := va_S.rf
  have hl := lv_entry ([.ref (A 0), .long x1, .int x3]) (n := 8) (Nat.le_of_ble_eq_true rfl)
  rw [lg_entry_eq]
  generalize (lg_sl ([.ref (A 0), .long x1, .int x3]) ++ List.replicate (8 - (lg_sl ([.ref (A 0), .long x1, .int x3])).length) Slot.unset).toArray = ls at hl ⊢
  have hl : lv_has ls 8 [(0, .ref (A 0)), (1, .long x1), (3, .int x3)] := hl
  generalize hargs : ([.ref (A 0), .long x1, .int x3] : List Value).toArray = args at hg hts ⊢
  obtain ⟨Q, hQ⟩ : ∃ Q, Q = MQ below (YQi K A rr σ) args s 0 0 (YF A) := ⟨_, rfl⟩
  rw [← hQ]
  have hRet : ∀ (v : Int32), (narrow .boolean (.int v) = .int v) → some v = some rr → ∀ (H : Heap) (locs : List Loc), va_P K.1 vwCl (wY K A σ) H → va_D (YF A) (wY K A σ) → va_S (YF A) s.heap H locs → ∀ (pc : Nat) (ls : Array Slot), decode b_Mo_newName pc = .ok (.ireturn, 1) → W p l e (headSpec w_Mo_newName r_Mo_newName).room s m args below meth c H locs 0 0 Q (F0 m pc ls [.int v]) := by
    intro v hn h H locs hP hD hS pc ls hd
    cases h
    subst hQ
    exact W.zret hx hb hr hn (fun t ht hW => ⟨⟨_, (), rfl, rfl, by rw [ht]; exact hP, RK.warm hW hK, hD⟩, hS.F ht⟩) hS.2.2 hd
  clear hQ
  unfold p_Mo_newName at h
  have L_21 : ∀ (n : Nat) (x4 : Int64) (x6 : Int32), p_Mo_newName_L21 σ x1 x3 n x4 x6 = some rr → ∀ (H : Heap) (locs : List Loc), va_P K.1 vwCl (wY K A σ) H → va_D (YF A) (wY K A σ) → va_S (YF A) s.heap H locs → ∀ ls : Array Slot, lv_has ls 8 [(1, .long x1), (3, .int x3), (4, .long x4), (6, .int x6)] → W p l e (headSpec w_Mo_newName r_Mo_newName).room s m args below meth c H locs 0 0 Q (F0 m 21 ls []) := by
    intro n
    induction n with
    | zero => intro _ _ h; cases h
    | succ n ih =>
      intro x4 x6 h H locs hP hD hS ls hl
      rw [p_Mo_newName_L21] at h
      refine lv_iload hx hb d_Mo_newName_21 (lv_at hl 3 rfl) ?_
      refine lv_if_lt (tgt := 77) hx hb d_Mo_newName_23 (by decide) (fun c_23 => ?_) (fun c_23 => ?_)
      · replace h := itp c_23 h
        refine lv_lload hx hb d_Mo_newName_77 (lv_at hl 2 rfl) ?_
        obtain ⟨v_79, e_79, h⟩ := bd1_some h
        refine R_cpi (va_runS (As := [.long x4]) (rest := []) ⟨hx, hb, hml, hown, hts⟩ (c_Mo_wordKind l e_79) (va_cwS 1 hts (gd_S wd_1048 wd_1049 wd_10 wd_1050) rfl rfl rfl ds_Mo_wordKind ⟨Nat.le_of_ble_eq_true rfl, Nat.le_of_ble_eq_true rfl⟩) (P_ps hK.2) rfl rfl hl.1 rfl (lv_room (Nat.le_of_ble_eq_true rfl)) d_Mo_newName_79 ⟨Nat.le_of_ble_eq_true rfl, Nat.le_of_ble_eq_true rfl⟩) hP hD hS (fun H locs hP hD hS => ?_)
        refine lv_iconst (v := 1) hx hb d_Mo_newName_82 (by decide) ?_
        refine lv_icmp_ne (tgt := 90) hx hb d_Mo_newName_83 (by decide) (fun c_83 => ?_) (fun c_83 => ?_)
        · replace h := itf c_83 h
          refine lv_iconst (v := 0) hx hb d_Mo_newName_90 (by decide) ?_
          exact hRet _ rfl h _ _ hP hD hS _ _ d_Mo_newName_91
        · replace h := itp c_83 h
          refine lv_iconst (v := 1) hx hb d_Mo_newName_86 (by decide) ?_
          refine lv_goto (tgt := 91) hx hb d_Mo_newName_87 (by decide) ?_
          exact hRet _ rfl h _ _ hP hD hS _ _ d_Mo_newName_91
      · replace h := itf c_23 h
        refine lv_lload_n hx hb d_Mo_newName_26 rfl (lv_at hl 0 rfl) ?_
        refine lv_iload hx hb d_Mo_newName_27 (lv_at hl 3 rfl) ?_
        obtain ⟨v_29, e_29, h⟩ := bd1_some h
        refine R_cpi (va_runS (As := [.long x1, .int x6]) (rest := []) ⟨hx, hb, hml, hown, hts⟩ (c_Mo_byteOf l e_29) (va_cwS 2 hts (gd_S wd_1015 wd_1016 wd_10 wd_1017) rfl rfl rfl ds_Mo_byteOf ⟨Nat.le_of_ble_eq_true rfl, Nat.le_of_ble_eq_true rfl⟩) (P_ps hK.2) rfl rfl hl.1 rfl (lv_room (Nat.le_of_ble_eq_true rfl)) d_Mo_newName_29 ⟨Nat.le_of_ble_eq_true rfl, Nat.le_of_ble_eq_true rfl⟩) hP hD hS (fun H locs hP hD hS => ?_)
        refine lv_istore (lv' := [(7, .int v_29), (1, .long x1), (3, .int x3), (4, .long x4), (6, .int x6)]) hx hb d_Mo_newName_32 hl (by decide) rfl (fun ls hl => ?_)
        refine lv_iload hx hb d_Mo_newName_34 (lv_at hl 0 rfl) ?_
        obtain ⟨v_36, e_36, h⟩ := bd1_some h
        refine R_cpi (va_runS (As := [.int v_29]) (rest := []) ⟨hx, hb, hml, hown, hts⟩ (c_Mo_letter l e_36) (va_cwS 1 hts (gd_S wd_1042 wd_1043 wd_10 wd_1044) rfl rfl rfl ds_Mo_letter ⟨Nat.le_of_ble_eq_true rfl, Nat.le_of_ble_eq_true rfl⟩) (P_ps hK.2) rfl rfl hl.1 rfl (lv_room (Nat.le_of_ble_eq_true rfl)) d_Mo_newName_36 ⟨Nat.le_of_ble_eq_true rfl, Nat.le_of_ble_eq_true rfl⟩) hP hD hS (fun H locs hP hD hS => ?_)
        refine lv_if_ne (tgt := 60) hx hb d_Mo_newName_39 (by decide) (fun c_39 => ?_) (fun c_39 => ?_)
        · replace h := itf c_39 h
          refine lv_lload hx hb d_Mo_newName_60 (lv_at hl 3 rfl) ?_
          refine lv_bipush (v := 8) hx hb d_Mo_newName_62 (by decide) ?_
          refine lv_lshl hx hb d_Mo_newName_64 rfl ?_
          refine lv_iload hx hb d_Mo_newName_65 (lv_at hl 0 rfl) ?_
          refine lv_i2l hx hb d_Mo_newName_67 rfl ?_
          refine lv_lor hx hb d_Mo_newName_68 ?_
          refine lv_lstore (lv' := [(4, .long ((x4 <<< ((8 : Int32).toInt64 &&& 63)) ||| v_29.toInt64)), (7, .int v_29), (1, .long x1), (3, .int x3), (6, .int x6)]) hx hb d_Mo_newName_69 hl (by decide) rfl (fun ls hl => ?_)
          refine lv_iinc (v := x6 + (-1)) (lv' := [(6, .int (x6 + (-1))), (4, .long ((x4 <<< ((8 : Int32).toInt64 &&& 63)) ||| v_29.toInt64)), (7, .int v_29), (1, .long x1), (3, .int x3)]) hx hb d_Mo_newName_71 hl (k := 4) rfl (by first | rfl | decide) (by decide) rfl (fun ls hl => ?_)
          refine lv_goto (tgt := 21) hx hb d_Mo_newName_74 (by decide) ?_
          exact ih _ _ h _ _ hP hD hS ls (lv_sub hl [3, 4, 1, 0] rfl)
        · replace h := itp c_39 h
          refine lv_iload hx hb d_Mo_newName_42 (lv_at hl 4 rfl) ?_
          refine lv_iload_n hx hb d_Mo_newName_44 rfl (lv_at hl 2 rfl) ?_
          refine lv_iconst (v := 1) hx hb d_Mo_newName_45 (by decide) ?_
          refine lv_isub hx hb d_Mo_newName_46 ?_
          refine lv_icmp_eq (tgt := 58) hx hb d_Mo_newName_47 (by decide) (fun c_47 => ?_) (fun c_47 => ?_)
          · replace h := itp c_47 h
            refine lv_iconst (v := 0) hx hb d_Mo_newName_58 (by decide) ?_
            exact hRet _ rfl h _ _ hP hD hS _ _ d_Mo_newName_59
          · replace h := itf c_47 h
            refine lv_iload hx hb d_Mo_newName_50 (lv_at hl 0 rfl) ?_
            obtain ⟨v_52, e_52, h⟩ := bd1_some h
            refine R_cpi (va_runS (As := [.int v_29]) (rest := []) ⟨hx, hb, hml, hown, hts⟩ (c_Mo_digit l e_52) (va_cwS 1 hts (gd_S wd_1045 wd_1046 wd_10 wd_1047) rfl rfl rfl ds_Mo_digit ⟨Nat.le_of_ble_eq_true rfl, Nat.le_of_ble_eq_true rfl⟩) (P_ps hK.2) rfl rfl hl.1 rfl (lv_room (Nat.le_of_ble_eq_true rfl)) d_Mo_newName_52 ⟨Nat.le_of_ble_eq_true rfl, Nat.le_of_ble_eq_true rfl⟩) hP hD hS (fun H locs hP hD hS => ?_)
            refine lv_if_ne (tgt := 60) hx hb d_Mo_newName_55 (by decide) (fun c_55 => ?_) (fun c_55 => ?_)
            · replace h := itf c_55 h
              refine lv_lload hx hb d_Mo_newName_60 (lv_at hl 3 rfl) ?_
              refine lv_bipush (v := 8) hx hb d_Mo_newName_62 (by decide) ?_
              refine lv_lshl hx hb d_Mo_newName_64 rfl ?_
              refine lv_iload hx hb d_Mo_newName_65 (lv_at hl 0 rfl) ?_
              refine lv_i2l hx hb d_Mo_newName_67 rfl ?_
              refine lv_lor hx hb d_Mo_newName_68 ?_
              refine lv_lstore (lv' := [(4, .long ((x4 <<< ((8 : Int32).toInt64 &&& 63)) ||| v_29.toInt64)), (7, .int v_29), (1, .long x1), (3, .int x3), (6, .int x6)]) hx hb d_Mo_newName_69 hl (by decide) rfl (fun ls hl => ?_)
              refine lv_iinc (v := x6 + (-1)) (lv' := [(6, .int (x6 + (-1))), (4, .long ((x4 <<< ((8 : Int32).toInt64 &&& 63)) ||| v_29.toInt64)), (7, .int v_29), (1, .long x1), (3, .int x3)]) hx hb d_Mo_newName_71 hl (k := 4) rfl (by first | rfl | decide) (by decide) rfl (fun ls hl => ?_)
              refine lv_goto (tgt := 21) hx hb d_Mo_newName_74 (by decide) ?_
              exact ih _ _ h _ _ hP hD hS ls (lv_sub hl [3, 4, 1, 0] rfl)
            · replace h := itp c_55 h
              refine lv_iconst (v := 0) hx hb d_Mo_newName_58 (by decide) ?_
              exact hRet _ rfl h _ _ hP hD hS _ _ d_Mo_newName_59
  refine lv_iload_n hx hb d_Mo_newName_0 rfl (lv_at hl 2 rfl) ?_
  refine lv_iconst (v := 1) hx hb d_Mo_newName_1 (by decide) ?_
  refine lv_icmp_lt (tgt := 11) hx hb d_Mo_newName_2 (by decide) (fun c_2 => ?_) (fun c_2 => ?_)
  · replace h := itp c_2 h
    refine lv_iconst (v := 0) hx hb d_Mo_newName_11 (by decide) ?_
    exact hRet _ rfl h _ _ hP hD hS _ _ d_Mo_newName_12
  · replace h := itf c_2 h
    refine lv_iload_n hx hb d_Mo_newName_5 rfl (lv_at hl 2 rfl) ?_
    refine lv_bipush (v := 8) hx hb d_Mo_newName_6 (by decide) ?_
    refine lv_icmp_le (tgt := 13) hx hb d_Mo_newName_8 (by decide) (fun c_8 => ?_) (fun c_8 => ?_)
    · replace h := itp c_8 h
      refine lv_lconst (v := 0) hx hb d_Mo_newName_13 (by decide) ?_
      refine lv_lstore (lv' := [(4, .long 0), (0, .ref (A 0)), (1, .long x1), (3, .int x3)]) hx hb d_Mo_newName_14 hl (by decide) rfl (fun ls hl => ?_)
      refine lv_iload_n hx hb d_Mo_newName_16 rfl (lv_at hl 3 rfl) ?_
      refine lv_iconst (v := 1) hx hb d_Mo_newName_17 (by decide) ?_
      refine lv_isub hx hb d_Mo_newName_18 ?_
      refine lv_istore (lv' := [(6, .int (x3 - 1)), (4, .long 0), (0, .ref (A 0)), (1, .long x1), (3, .int x3)]) hx hb d_Mo_newName_19 hl (by decide) rfl (fun ls hl => ?_)
      exact L_21  FU _ _ h _ _ hP hD hS ls (lv_sub hl [3, 4, 1, 0] rfl)
    · replace h := itf c_8 h
      refine lv_iconst (v := 0) hx hb d_Mo_newName_11 (by decide) ?_
      exact hRet _ rfl h _ _ hP hD hS _ _ d_Mo_newName_12
def p_Mo_save_L37 : Nat → Sto → Int32 → Option Sto
  | 0, _, _ => none
  | n + 1, σ, x1 =>
    (if (124 : Int32) ≤ x1 then
        some σ
      else
        (if (σ.1 3) ≤ x1 then
          if inR x1 124 then p_Mo_save_L37 n (sA σ 15 x1.toNatClampNeg (-1)) (x1 + 1) else none
        else
          if inR x1 124 then if inR x1 124 then p_Mo_save_L37 n (sA σ 15 x1.toNatClampNeg (σ.2.1 14 x1.toNatClampNeg)) (x1 + 1) else none else none))
def p_Mo_save_L10 : Nat → Sto → Int32 → Option Sto
  | 0, _, _ => none
  | n + 1, σ, x1 =>
    (if (240 : Int32) ≤ x1 then
        p_Mo_save_L37 FU σ 0
      else
        if inR x1 240 then if inR x1 240 then p_Mo_save_L10 n (sA σ 2 x1.toNatClampNeg (σ.2.1 1 x1.toNatClampNeg)) (x1 + 1) else none else none)
def p_Mo_save (σ : Sto) : Option Sto :=
  p_Mo_save_L10 FU (sS σ 2 (σ.1 1)) 0
abbrev w_Mo_save : List Cond := Cond.code y_Mo_save b_Mo_save 2 none :: Tg
abbrev r_Mo_save : Room := { frames := 0, cells := 0, slots := 0, locals := 0 }
theorem dv_Mo_save : y_Mo_save.cls = "LanguageServerModel" ∧ y_Mo_save.cls ≠ "java/lang/invoke/MethodHandle" ∧ y_Mo_save.cls ≠ "java/lang/invoke/VarHandle" ∧ (parseMethodDescriptor y_Mo_save.desc).map (fun d => d.parameters.length) = some 0 := by decide +kernel
set_option maxHeartbeats 4000000 in
set_option maxRecDepth 100000 in
theorem c_Mo_save (l : Launch) (K : Kst) (A : Nat → Nat) {σ : Sto} {ss : Sto} (h : p_Mo_save σ = some ss) : Met l y_Mo_save w_Mo_save r_Mo_save (va_Pc [.ref (A 0)] (YB K A σ)) (YQv K A ss) 0 0 (YF A) := by
  refine Met.ofW (cc := b_Mo_save) (maxL := 2) (ret := none) (by decide) rfl ?_
  intro p e s m args below meth c s₁ B hml hv
  obtain ⟨rfl, hP, hK, hD⟩ := hv
  have hx := B.exec
  have hb := B.bytes
  have hr := B.returns
  have hts := atoms_spec (ws := w_Mo_save) B.pre
  have hg : ∀ w ∈ Tg, w.before _ s = true := fun w q => hts w (List.mem_cons_of_mem _ q)
  have hown : s.vm.findClass "LanguageServerModel" = some m.cls := findClass_of_methodNamed B.named
  have hlocks := B.notSynchronized
  have hS : va_S (YF A) s.heap s.heap [] := va_S.rf
  have hl := lv_entry ([.ref (A 0)]) (n := 2) (Nat.le_of_ble_eq_true rfl)
  rw [lg_entry_eq]
  generalize (lg_sl ([.ref (A 0)]) ++ List.replicate (2 - (lg_sl ([.ref (A 0)])).length) Slot.unset).toArray = ls at hl ⊢
  have hl : lv_has ls 2 [(0, .ref (A 0))] := hl
  generalize hargs : ([.ref (A 0)] : List Value).toArray = args at hg hts ⊢
  obtain ⟨Q, hQ⟩ : ∃ Q, Q = MQ below (YQv K A ss) args s 0 0 (YF A) := ⟨_, rfl⟩
  rw [← hQ]
  have hRet : ∀ (σ : Sto), some σ = some ss → ∀ (H : Heap) (locs : List Loc), va_P K.1 vwCl (wY K A σ) H → va_D (YF A) (wY K A σ) → va_S (YF A) s.heap H locs → ∀ (pc : Nat) (ls : Array Slot), decode b_Mo_save pc = .ok (.return_, 1) → W p l e (headSpec w_Mo_save r_Mo_save).room s m args below meth c H locs 0 0 Q (F0 m pc ls []) := by
    intro σ h H locs hP hD hS pc ls hd
    cases h
    subst hQ
    exact W.vret hx hb hr (fun t ht hW => ⟨⟨(), rfl, trivial, by rw [ht]; exact hP, RK.warm hW hK, hD⟩, hS.F ht⟩) hS.2.2 hd
  clear hQ
  unfold p_Mo_save at h
  have L_37 : ∀ (n : Nat) (σ : Sto) (x1 : Int32), p_Mo_save_L37 n σ x1 = some ss → ∀ (H : Heap) (locs : List Loc), va_P K.1 vwCl (wY K A σ) H → va_D (YF A) (wY K A σ) → va_S (YF A) s.heap H locs → ∀ ls : Array Slot, lv_has ls 2 [(0, .ref (A 0)), (1, .int x1)] → W p l e (headSpec w_Mo_save r_Mo_save).room s m args below meth c H locs 0 0 Q (F0 m 37 ls []) := by
    intro n
    induction n with
    | zero => intro _ _ h; cases h
    | succ n ih =>
      intro σ x1 h H locs hP hD hS ls hl
      rw [p_Mo_save_L37] at h
      refine lv_iload_n hx hb d_Mo_save_37 rfl (lv_at hl 1 rfl) ?_
      refine lv_bipush (v := 124) hx hb d_Mo_save_38 (by decide) ?_
      refine lv_icmp_ge (tgt := 73) hx hb d_Mo_save_40 (by decide) (fun c_40 => ?_) (fun c_40 => ?_)
      · replace h := itp c_40 h
        exact hRet _ h _ _ hP hD hS _ _ d_Mo_save_73
      · replace h := itf c_40 h
        refine lv_aload_n hx hb d_Mo_save_43 rfl (lv_at hl 0 rfl) ?_
        refine gf_Mo_53 hx hb hg hown hK hP d_Mo_save_44 ?_
        refine lv_iload_n hx hb d_Mo_save_47 rfl (lv_at hl 1 rfl) ?_
        refine lv_iload_n hx hb d_Mo_save_48 rfl (lv_at hl 1 rfl) ?_
        refine lv_aload_n hx hb d_Mo_save_49 rfl (lv_at hl 0 rfl) ?_
        refine gf_Mo_118 hx hb hg hown hK hP d_Mo_save_50 ?_
        refine lv_icmp_ge (tgt := 65) hx hb d_Mo_save_53 (by decide) (fun c_53 => ?_) (fun c_53 => ?_)
        · replace h := itp c_53 h
          refine lv_iconst (v := (-1)) hx hb d_Mo_save_65 (by decide) ?_
          obtain ⟨i_66, h⟩ := itn h
          refine Ywa_15 hx hb hK hP hD hS i_66 d_Mo_save_66 (fun H locs hP hD hS => ?_)
          refine lv_iinc (v := x1 + 1) (lv' := [(1, .int (x1 + 1)), (0, .ref (A 0))]) hx hb d_Mo_save_67 hl (k := 1) rfl (by first | rfl | decide) (by decide) rfl (fun ls hl => ?_)
          refine lv_goto (tgt := 37) hx hb d_Mo_save_70 (by decide) ?_
          exact ih _ _ h _ _ hP hD hS ls (lv_sub hl [1, 0] rfl)
        · replace h := itf c_53 h
          refine lv_aload_n hx hb d_Mo_save_56 rfl (lv_at hl 0 rfl) ?_
          refine gf_Mo_50 hx hb hg hown hK hP d_Mo_save_57 ?_
          refine lv_iload_n hx hb d_Mo_save_60 rfl (lv_at hl 1 rfl) ?_
          obtain ⟨i_61, h⟩ := itn h
          refine Yra_14 hx hb hK hP i_61 d_Mo_save_61 ?_
          refine lv_goto (tgt := 66) hx hb d_Mo_save_62 (by decide) ?_
          obtain ⟨i_66, h⟩ := itn h
          refine Ywa_15 hx hb hK hP hD hS i_66 d_Mo_save_66 (fun H locs hP hD hS => ?_)
          refine lv_iinc (v := x1 + 1) (lv' := [(1, .int (x1 + 1)), (0, .ref (A 0))]) hx hb d_Mo_save_67 hl (k := 1) rfl (by first | rfl | decide) (by decide) rfl (fun ls hl => ?_)
          refine lv_goto (tgt := 37) hx hb d_Mo_save_70 (by decide) ?_
          exact ih _ _ h _ _ hP hD hS ls (lv_sub hl [1, 0] rfl)
  have L_10 : ∀ (n : Nat) (σ : Sto) (x1 : Int32), p_Mo_save_L10 n σ x1 = some ss → ∀ (H : Heap) (locs : List Loc), va_P K.1 vwCl (wY K A σ) H → va_D (YF A) (wY K A σ) → va_S (YF A) s.heap H locs → ∀ ls : Array Slot, lv_has ls 2 [(0, .ref (A 0)), (1, .int x1)] → W p l e (headSpec w_Mo_save r_Mo_save).room s m args below meth c H locs 0 0 Q (F0 m 10 ls []) := by
    intro n
    induction n with
    | zero => intro _ _ h; cases h
    | succ n ih =>
      intro σ x1 h H locs hP hD hS ls hl
      rw [p_Mo_save_L10] at h
      refine lv_iload_n hx hb d_Mo_save_10 rfl (lv_at hl 1 rfl) ?_
      refine lv_sipush (v := 240) hx hb d_Mo_save_11 (by decide) ?_
      refine lv_icmp_ge (tgt := 35) hx hb d_Mo_save_14 (by decide) (fun c_14 => ?_) (fun c_14 => ?_)
      · replace h := itp c_14 h
        refine lv_iconst (v := 0) hx hb d_Mo_save_35 (by decide) ?_
        refine lv_istore_n (lv' := [(1, .int 0), (0, .ref (A 0))]) hx hb d_Mo_save_36 rfl hl (by decide) rfl (fun ls hl => ?_)
        exact L_37  FU _ _ h _ _ hP hD hS ls (lv_sub hl [1, 0] rfl)
      · replace h := itf c_14 h
        refine lv_aload_n hx hb d_Mo_save_17 rfl (lv_at hl 0 rfl) ?_
        refine gf_Mo_13 hx hb hg hown hK hP d_Mo_save_18 ?_
        refine lv_iload_n hx hb d_Mo_save_21 rfl (lv_at hl 1 rfl) ?_
        refine lv_aload_n hx hb d_Mo_save_22 rfl (lv_at hl 0 rfl) ?_
        refine gf_Mo_7 hx hb hg hown hK hP d_Mo_save_23 ?_
        refine lv_iload_n hx hb d_Mo_save_26 rfl (lv_at hl 1 rfl) ?_
        obtain ⟨i_27, h⟩ := itn h
        refine Yra_1 hx hb hK hP i_27 d_Mo_save_27 ?_
        obtain ⟨i_28, h⟩ := itn h
        refine Ywa_2 hx hb hK hP hD hS i_28 d_Mo_save_28 (fun H locs hP hD hS => ?_)
        refine lv_iinc (v := x1 + 1) (lv' := [(1, .int (x1 + 1)), (0, .ref (A 0))]) hx hb d_Mo_save_29 hl (k := 1) rfl (by first | rfl | decide) (by decide) rfl (fun ls hl => ?_)
        refine lv_goto (tgt := 10) hx hb d_Mo_save_32 (by decide) ?_
        exact ih _ _ h _ _ hP hD hS ls (lv_sub hl [1, 0] rfl)
  refine lv_aload_n hx hb d_Mo_save_0 rfl (lv_at hl 0 rfl) ?_
  refine lv_aload_n hx hb d_Mo_save_1 rfl (lv_at hl 0 rfl) ?_
  refine gf_Mo_85 hx hb hg hown hK hP d_Mo_save_2 ?_
  refine pf_Mo_296 hx hb hg hown hK hP hD hS d_Mo_save_5 (fun H locs hP hD hS => ?_)
  refine lv_iconst (v := 0) hx hb d_Mo_save_8 (by decide) ?_
  refine lv_istore_n (lv' := [(1, .int 0), (0, .ref (A 0))]) hx hb d_Mo_save_9 rfl hl (by decide) rfl (fun ls hl => ?_)
  exact L_10  FU _ _ h _ _ hP hD hS ls (lv_sub hl [1, 0] rfl)
def p_Mo_back_L10 : Nat → Sto → Int32 → Option (Int32 × Sto)
  | 0, _, _ => none
  | n + 1, σ, x1 =>
    (if (240 : Int32) ≤ x1 then
        bd2 (p_Mo_fail σ 3) fun v_37 σ_37 =>
        some (v_37, σ_37)
      else
        if inR x1 240 then if inR x1 240 then p_Mo_back_L10 n (sA σ 1 x1.toNatClampNeg (σ.2.1 2 x1.toNatClampNeg)) (x1 + 1) else none else none)
def p_Mo_back (σ : Sto) : Option (Int32 × Sto) :=
  p_Mo_back_L10 FU (sS σ 1 (σ.1 2)) 0
abbrev w_Mo_back : List Cond := Cond.code y_Mo_back b_Mo_back 2 (some .int) :: Tg
abbrev r_Mo_back : Room := { frames := 1, cells := 0, slots := 0, locals := 21 }
theorem dv_Mo_back : y_Mo_back.cls = "LanguageServerModel" ∧ y_Mo_back.cls ≠ "java/lang/invoke/MethodHandle" ∧ y_Mo_back.cls ≠ "java/lang/invoke/VarHandle" ∧ (parseMethodDescriptor y_Mo_back.desc).map (fun d => d.parameters.length) = some 0 := by decide +kernel
set_option maxHeartbeats 4000000 in
set_option maxRecDepth 100000 in
theorem c_Mo_back (l : Launch) (K : Kst) (A : Nat → Nat) {σ : Sto} {rr : Int32} {ss : Sto} (h : p_Mo_back σ = some (rr, ss)) : Met l y_Mo_back w_Mo_back r_Mo_back (va_Pc [.ref (A 0)] (YB K A σ)) (YQi K A rr ss) 0 0 (YF A) := by
  refine Met.ofW (cc := b_Mo_back) (maxL := 2) (ret := (some .int)) (by decide) rfl ?_
  intro p e s m args below meth c s₁ B hml hv
  obtain ⟨rfl, hP, hK, hD⟩ := hv
  have hx := B.exec
  have hb := B.bytes
  have hr := B.returns
  have hts := atoms_spec (ws := w_Mo_back) B.pre
  have hg : ∀ w ∈ Tg, w.before _ s = true := fun w q => hts w (List.mem_cons_of_mem _ q)
  have hown : s.vm.findClass "LanguageServerModel" = some m.cls := findClass_of_methodNamed B.named
  have hlocks := B.notSynchronized
  have hS : va_S (YF A) s.heap s.heap [] := va_S.rf
  have hl := lv_entry ([.ref (A 0)]) (n := 2) (Nat.le_of_ble_eq_true rfl)
  rw [lg_entry_eq]
  generalize (lg_sl ([.ref (A 0)]) ++ List.replicate (2 - (lg_sl ([.ref (A 0)])).length) Slot.unset).toArray = ls at hl ⊢
  have hl : lv_has ls 2 [(0, .ref (A 0))] := hl
  generalize hargs : ([.ref (A 0)] : List Value).toArray = args at hg hts ⊢
  obtain ⟨Q, hQ⟩ : ∃ Q, Q = MQ below (YQi K A rr ss) args s 0 0 (YF A) := ⟨_, rfl⟩
  rw [← hQ]
  have hRet : ∀ (v : Int32) (σ : Sto), some (v, σ) = some (rr, ss) → ∀ (H : Heap) (locs : List Loc), va_P K.1 vwCl (wY K A σ) H → va_D (YF A) (wY K A σ) → va_S (YF A) s.heap H locs → ∀ (pc : Nat) (ls : Array Slot), decode b_Mo_back pc = .ok (.ireturn, 1) → W p l e (headSpec w_Mo_back r_Mo_back).room s m args below meth c H locs 0 0 Q (F0 m pc ls [.int v]) := by
    intro v σ h H locs hP hD hS pc ls hd
    cases h
    subst hQ
    exact W.iret hx hb hr (fun t ht hW => ⟨⟨_, (), rfl, rfl, by rw [ht]; exact hP, RK.warm hW hK, hD⟩, hS.F ht⟩) hS.2.2 hd
  clear hQ
  unfold p_Mo_back at h
  have L_10 : ∀ (n : Nat) (σ : Sto) (x1 : Int32), p_Mo_back_L10 n σ x1 = some (rr, ss) → ∀ (H : Heap) (locs : List Loc), va_P K.1 vwCl (wY K A σ) H → va_D (YF A) (wY K A σ) → va_S (YF A) s.heap H locs → ∀ ls : Array Slot, lv_has ls 2 [(0, .ref (A 0)), (1, .int x1)] → W p l e (headSpec w_Mo_back r_Mo_back).room s m args below meth c H locs 0 0 Q (F0 m 10 ls []) := by
    intro n
    induction n with
    | zero => intro _ _ h; cases h
    | succ n ih =>
      intro σ x1 h H locs hP hD hS ls hl
      rw [p_Mo_back_L10] at h
      refine lv_iload_n hx hb d_Mo_back_10 rfl (lv_at hl 1 rfl) ?_
      refine lv_sipush (v := 240) hx hb d_Mo_back_11 (by decide) ?_
      refine lv_icmp_ge (tgt := 35) hx hb d_Mo_back_14 (by decide) (fun c_14 => ?_) (fun c_14 => ?_)
      · replace h := itp c_14 h
        refine lv_aload_n hx hb d_Mo_back_35 rfl (lv_at hl 0 rfl) ?_
        refine lv_iconst (v := 3) hx hb d_Mo_back_36 (by decide) ?_
        obtain ⟨v_37, σ_37, e_37, h⟩ := bd2_some h
        refine Y_calli (va_runV (As := [.int 3]) (rest := []) ⟨hx, hb, hml, hown, hts⟩ (c_Mo_fail l K A e_37) (cwV 1 hts (gd_V wd_1007 wd_1009 wp_43 wd_10 wd_1010) rfl rfl rfl dv_Mo_fail ⟨Nat.le_of_ble_eq_true rfl, Nat.le_of_ble_eq_true rfl⟩) (Y_pv_0 hK hP hD) rfl rfl hl.1 rfl (lv_room (Nat.le_of_ble_eq_true rfl)) d_Mo_back_37 ⟨Nat.le_of_ble_eq_true rfl, Nat.le_of_ble_eq_true rfl⟩) hS (fun H locs hP hD hS => ?_)
        exact hRet _ _ h _ _ hP hD hS _ _ d_Mo_back_40
      · replace h := itf c_14 h
        refine lv_aload_n hx hb d_Mo_back_17 rfl (lv_at hl 0 rfl) ?_
        refine gf_Mo_7 hx hb hg hown hK hP d_Mo_back_18 ?_
        refine lv_iload_n hx hb d_Mo_back_21 rfl (lv_at hl 1 rfl) ?_
        refine lv_aload_n hx hb d_Mo_back_22 rfl (lv_at hl 0 rfl) ?_
        refine gf_Mo_13 hx hb hg hown hK hP d_Mo_back_23 ?_
        refine lv_iload_n hx hb d_Mo_back_26 rfl (lv_at hl 1 rfl) ?_
        obtain ⟨i_27, h⟩ := itn h
        refine Yra_2 hx hb hK hP i_27 d_Mo_back_27 ?_
        obtain ⟨i_28, h⟩ := itn h
        refine Ywa_1 hx hb hK hP hD hS i_28 d_Mo_back_28 (fun H locs hP hD hS => ?_)
        refine lv_iinc (v := x1 + 1) (lv' := [(1, .int (x1 + 1)), (0, .ref (A 0))]) hx hb d_Mo_back_29 hl (k := 1) rfl (by first | rfl | decide) (by decide) rfl (fun ls hl => ?_)
        refine lv_goto (tgt := 10) hx hb d_Mo_back_32 (by decide) ?_
        exact ih _ _ h _ _ hP hD hS ls (lv_sub hl [1, 0] rfl)
  refine lv_aload_n hx hb d_Mo_back_0 rfl (lv_at hl 0 rfl) ?_
  refine lv_aload_n hx hb d_Mo_back_1 rfl (lv_at hl 0 rfl) ?_
  refine gf_Mo_296 hx hb hg hown hK hP d_Mo_back_2 ?_
  refine pf_Mo_85 hx hb hg hown hK hP hD hS d_Mo_back_5 (fun H locs hP hD hS => ?_)
  refine lv_iconst (v := 0) hx hb d_Mo_back_8 (by decide) ?_
  refine lv_istore_n (lv' := [(1, .int 0), (0, .ref (A 0))]) hx hb d_Mo_back_9 rfl hl (by decide) rfl (fun ls hl => ?_)
  exact L_10  FU _ _ h _ _ hP hD hS ls (lv_sub hl [1, 0] rfl)
def p_Mo_replace_L13 (x1 : Int32) (x2 : Int32) (x3 : Int64) (x5 : Int32) : Nat → Sto → Int32 → Option Sto
  | 0, _, _ => none
  | n + 1, σ, x6 =>
    (if x6 < 0 then
        some σ
      else
        bd1 (p_Mo_byteOf x3 x6) fun v_31 =>
        bd2 (p_Mo_insert σ (((x1 + x5) - 1) - x6) v_31) fun v_34 σ_34 =>
        p_Mo_replace_L13 x1 x2 x3 x5 n σ_34 (x6 + (-1)))
def p_Mo_replace (σ : Sto) (x1 : Int32) (x2 : Int32) (x3 : Int64) (x5 : Int32) : Option Sto :=
  bd2 (p_Mo_delete σ x1 x2) fun v_3 σ_3 =>
    p_Mo_replace_L13 x1 x2 x3 x5 FU σ_3 (x5 - 1)
abbrev w_Mo_replace : List Cond := Cond.code y_Mo_replace b_Mo_replace 7 none :: Tg
abbrev r_Mo_replace : Room := { frames := 2, cells := 0, slots := 0, locals := 44 }
theorem dv_Mo_replace : y_Mo_replace.cls = "LanguageServerModel" ∧ y_Mo_replace.cls ≠ "java/lang/invoke/MethodHandle" ∧ y_Mo_replace.cls ≠ "java/lang/invoke/VarHandle" ∧ (parseMethodDescriptor y_Mo_replace.desc).map (fun d => d.parameters.length) = some 4 := by decide +kernel
set_option maxHeartbeats 4000000 in
set_option maxRecDepth 100000 in
theorem c_Mo_replace (l : Launch) (K : Kst) (A : Nat → Nat) {σ : Sto} {x1 : Int32} {x2 : Int32} {x3 : Int64} {x5 : Int32} {ss : Sto} (h : p_Mo_replace σ x1 x2 x3 x5 = some ss) : Met l y_Mo_replace w_Mo_replace r_Mo_replace (va_Pc [.ref (A 0), .int x1, .int x2, .long x3, .int x5] (YB K A σ)) (YQv K A ss) 0 0 (YF A) := by
  refine Met.ofW (cc := b_Mo_replace) (maxL := 7) (ret := none) (by decide) rfl ?_
  intro p e s m args below meth c s₁ B hml hv
  obtain ⟨rfl, hP, hK, hD⟩ := hv
  have hx := B.exec
  have hb := B.bytes
  have hr := B.returns
  have hts := atoms_spec (ws := w_Mo_replace) B.pre
  have hg : ∀ w ∈ Tg, w.before _ s = true := fun w q => hts w (List.mem_cons_of_mem _ q)
  have hown : s.vm.findClass "LanguageServerModel" = some m.cls := findClass_of_methodNamed B.named
  have hlocks := B.notSynchronized
  have hS : va_S (YF A) s.heap s.heap [] := va_S.rf
  have hl := lv_entry ([.ref (A 0), .int x1, .int x2, .long x3, .int x5]) (n := 7) (Nat.le_of_ble_eq_true rfl)
  rw [lg_entry_eq]
  generalize (lg_sl ([.ref (A 0), .int x1, .int x2, .long x3, .int x5]) ++ List.replicate (7 - (lg_sl ([.ref (A 0), .int x1, .int x2, .long x3, .int x5])).length) Slot.unset).toArray = ls at hl ⊢
  have hl : lv_has ls 7 [(0, .ref (A 0)), (1, .int x1), (2, .int x2), (3, .long x3), (5, .int x5)] := hl
  generalize hargs : ([.ref (A 0), .int x1, .int x2, .long x3, .int x5] : List Value).toArray = args at hg hts ⊢
  obtain ⟨Q, hQ⟩ : ∃ Q, Q = MQ below (YQv K A ss) args s 0 0 (YF A) := ⟨_, rfl⟩
  rw [← hQ]
  have hRet : ∀ (σ : Sto), some σ = some ss → ∀ (H : Heap) (locs : List Loc), va_P K.1 vwCl (wY K A σ) H → va_D (YF A) (wY K A σ) → va_S (YF A) s.heap H locs → ∀ (pc : Nat) (ls : Array Slot), decode b_Mo_replace pc = .ok (.return_, 1) → W p l e (headSpec w_Mo_replace r_Mo_replace).room s m args below meth c H locs 0 0 Q (F0 m pc ls []) := by
    intro σ h H locs hP hD hS pc ls hd
    cases h
    subst hQ
    exact W.vret hx hb hr (fun t ht hW => ⟨⟨(), rfl, trivial, by rw [ht]; exact hP, RK.warm hW hK, hD⟩, hS.F ht⟩) hS.2.2 hd
  clear hQ
  unfold p_Mo_replace at h
  have L_13 : ∀ (n : Nat) (σ : Sto) (x6 : Int32), p_Mo_replace_L13 x1 x2 x3 x5 n σ x6 = some ss → ∀ (H : Heap) (locs : List Loc), va_P K.1 vwCl (wY K A σ) H → va_D (YF A) (wY K A σ) → va_S (YF A) s.heap H locs → ∀ ls : Array Slot, lv_has ls 7 [(0, .ref (A 0)), (1, .int x1), (3, .long x3), (5, .int x5), (6, .int x6)] → W p l e (headSpec w_Mo_replace r_Mo_replace).room s m args below meth c H locs 0 0 Q (F0 m 13 ls []) := by
    intro n
    induction n with
    | zero => intro _ _ h; cases h
    | succ n ih =>
      intro σ x6 h H locs hP hD hS ls hl
      rw [p_Mo_replace_L13] at h
      refine lv_iload hx hb d_Mo_replace_13 (lv_at hl 4 rfl) ?_
      refine lv_if_lt (tgt := 44) hx hb d_Mo_replace_15 (by decide) (fun c_15 => ?_) (fun c_15 => ?_)
      · replace h := itp c_15 h
        exact hRet _ h _ _ hP hD hS _ _ d_Mo_replace_44
      · replace h := itf c_15 h
        refine lv_aload_n hx hb d_Mo_replace_18 rfl (lv_at hl 0 rfl) ?_
        refine lv_iload_n hx hb d_Mo_replace_19 rfl (lv_at hl 1 rfl) ?_
        refine lv_iload hx hb d_Mo_replace_20 (lv_at hl 3 rfl) ?_
        refine lv_iadd hx hb d_Mo_replace_22 ?_
        refine lv_iconst (v := 1) hx hb d_Mo_replace_23 (by decide) ?_
        refine lv_isub hx hb d_Mo_replace_24 ?_
        refine lv_iload hx hb d_Mo_replace_25 (lv_at hl 4 rfl) ?_
        refine lv_isub hx hb d_Mo_replace_27 ?_
        refine lv_lload_n hx hb d_Mo_replace_28 rfl (lv_at hl 2 rfl) ?_
        refine lv_iload hx hb d_Mo_replace_29 (lv_at hl 4 rfl) ?_
        obtain ⟨v_31, e_31, h⟩ := bd1_some h
        refine R_cpi (va_runS (As := [.long x3, .int x6]) (rest := [.int (((x1 + x5) - 1) - x6), .ref (A 0)]) ⟨hx, hb, hml, hown, hts⟩ (c_Mo_byteOf l e_31) (va_cwS 2 hts (gd_S wd_1015 wd_1016 wd_10 wd_1017) rfl rfl rfl ds_Mo_byteOf ⟨Nat.le_of_ble_eq_true rfl, Nat.le_of_ble_eq_true rfl⟩) (P_ps hK.2) rfl rfl hl.1 rfl (lv_room (Nat.le_of_ble_eq_true rfl)) d_Mo_replace_31 ⟨Nat.le_of_ble_eq_true rfl, Nat.le_of_ble_eq_true rfl⟩) hP hD hS (fun H locs hP hD hS => ?_)
        obtain ⟨v_34, σ_34, e_34, h⟩ := bd2_some h
        refine Y_calli (va_runV (As := [.int (((x1 + x5) - 1) - x6), .int v_31]) (rest := []) ⟨hx, hb, hml, hown, hts⟩ (c_Mo_insert l K A e_34) (cwV 2 hts (gd_V wd_1279 wd_1001 wd_1002 wd_10 wd_1003) rfl rfl rfl dv_Mo_insert ⟨Nat.le_of_ble_eq_true rfl, Nat.le_of_ble_eq_true rfl⟩) (Y_pv_0 hK hP hD) rfl rfl hl.1 rfl (lv_room (Nat.le_of_ble_eq_true rfl)) d_Mo_replace_34 ⟨Nat.le_of_ble_eq_true rfl, Nat.le_of_ble_eq_true rfl⟩) hS (fun H locs hP hD hS => ?_)
        refine lv_pop hx hb d_Mo_replace_37 rfl ?_
        refine lv_iinc (v := x6 + (-1)) (lv' := [(6, .int (x6 + (-1))), (0, .ref (A 0)), (1, .int x1), (3, .long x3), (5, .int x5)]) hx hb d_Mo_replace_38 hl (k := 4) rfl (by first | rfl | decide) (by decide) rfl (fun ls hl => ?_)
        refine lv_goto (tgt := 13) hx hb d_Mo_replace_41 (by decide) ?_
        exact ih _ _ h _ _ hP hD hS ls (lv_sub hl [1, 2, 3, 4, 0] rfl)
  refine lv_aload_n hx hb d_Mo_replace_0 rfl (lv_at hl 0 rfl) ?_
  refine lv_iload_n hx hb d_Mo_replace_1 rfl (lv_at hl 1 rfl) ?_
  refine lv_iload_n hx hb d_Mo_replace_2 rfl (lv_at hl 2 rfl) ?_
  obtain ⟨v_3, σ_3, e_3, h⟩ := bd2_some h
  refine Y_calli (va_runV (As := [.int x1, .int x2]) (rest := []) ⟨hx, hb, hml, hown, hts⟩ (c_Mo_delete l K A e_3) (cwV 2 hts (gd_V wd_1278 wd_1019 wd_1020 wd_10 wd_1021) rfl rfl rfl dv_Mo_delete ⟨Nat.le_of_ble_eq_true rfl, Nat.le_of_ble_eq_true rfl⟩) (Y_pv_0 hK hP hD) rfl rfl hl.1 rfl (lv_room (Nat.le_of_ble_eq_true rfl)) d_Mo_replace_3 ⟨Nat.le_of_ble_eq_true rfl, Nat.le_of_ble_eq_true rfl⟩) hS (fun H locs hP hD hS => ?_)
  refine lv_pop hx hb d_Mo_replace_6 rfl ?_
  refine lv_iload hx hb d_Mo_replace_7 (lv_at hl 4 rfl) ?_
  refine lv_iconst (v := 1) hx hb d_Mo_replace_9 (by decide) ?_
  refine lv_isub hx hb d_Mo_replace_10 ?_
  refine lv_istore (lv' := [(6, .int (x5 - 1)), (0, .ref (A 0)), (1, .int x1), (2, .int x2), (3, .long x3), (5, .int x5)]) hx hb d_Mo_replace_11 hl (by decide) rfl (fun ls hl => ?_)
  exact L_13  FU _ _ h _ _ hP hD hS ls (lv_sub hl [1, 2, 4, 5, 0] rfl)
def p_Mo_same_b66 (σ : Sto) (x1 : Int32) (k2 : Int32 → Option Int32) (x2 : Int32) (x3 : Int32) (s0 : Int32) : Option Int32 :=
  (if x3 = s0 then
      k2 (x2 + 1)
    else
      some 0)
def p_Mo_same_b65 (σ : Sto) (x1 : Int32) (k2 : Int32 → Option Int32) (x2 : Int32) (x3 : Int32) : Option Int32 :=
  p_Mo_same_b66 σ x1 k2 x2 x3 0
def p_Mo_same_b28 (σ : Sto) (x1 : Int32) (k2 : Int32 → Option Int32) (x2 : Int32) (s0 : Int32) : Option Int32 :=
  (if (σ.1 3) ≤ x2 then
      p_Mo_same_b65 σ x1 k2 x2 s0
    else
      if inR x2 124 then if inR x1 124 then (if (σ.2.1 14 x2.toNatClampNeg) = (σ.2.1 14 x1.toNatClampNeg) then
        if inR x2 124 then (if (σ.2.1 14 x2.toNatClampNeg) < 0 then
          p_Mo_same_b65 σ x1 k2 x2 s0
        else
          p_Mo_same_b66 σ x1 k2 x2 s0 1) else none
      else
        p_Mo_same_b65 σ x1 k2 x2 s0) else none else none)
def p_Mo_same_L2 (σ : Sto) (x1 : Int32) : Nat → Int32 → Option Int32
  | 0, _ => none
  | n + 1, x2 =>
    (if (124 : Int32) ≤ x2 then
        some 1
      else
        if inR x2 124 then if inR x1 124 then (if (σ.2.1 15 x2.toNatClampNeg) = (σ.2.1 15 x1.toNatClampNeg) then
          p_Mo_same_b28 σ x1 (p_Mo_same_L2 σ x1 n) x2 1
        else
          p_Mo_same_b28 σ x1 (p_Mo_same_L2 σ x1 n) x2 0) else none else none)
def p_Mo_same (σ : Sto) (x1 : Int32) : Option Int32 :=
  p_Mo_same_L2 σ x1 FU 0
abbrev w_Mo_same : List Cond := Cond.code y_Mo_same b_Mo_same 5 (some .boolean) :: Tg
abbrev r_Mo_same : Room := { frames := 0, cells := 0, slots := 0, locals := 0 }
theorem dv_Mo_same : y_Mo_same.cls = "LanguageServerModel" ∧ y_Mo_same.cls ≠ "java/lang/invoke/MethodHandle" ∧ y_Mo_same.cls ≠ "java/lang/invoke/VarHandle" ∧ (parseMethodDescriptor y_Mo_same.desc).map (fun d => d.parameters.length) = some 1 := by decide +kernel
set_option maxHeartbeats 4000000 in
set_option maxRecDepth 100000 in
theorem c_Mo_same (l : Launch) (K : Kst) (A : Nat → Nat) {σ : Sto} {x1 : Int32} {rr : Int32} (h : p_Mo_same σ x1 = some rr) : Met l y_Mo_same w_Mo_same r_Mo_same (va_Pc [.ref (A 0), .int x1] (YB K A σ)) (YQi K A rr σ) 0 0 (YF A) := by
  refine Met.ofW (cc := b_Mo_same) (maxL := 5) (ret := (some .boolean)) (by decide) rfl ?_
  intro p e s m args below meth c s₁ B hml hv
  obtain ⟨rfl, hP, hK, hD⟩ := hv
  have hx := B.exec
  have hb := B.bytes
  have hr := B.returns
  have hts := atoms_spec (ws := w_Mo_same) B.pre
  have hg : ∀ w ∈ Tg, w.before _ s = true := fun w q => hts w (List.mem_cons_of_mem _ q)
  have hown : s.vm.findClass "LanguageServerModel" = some m.cls := findClass_of_methodNamed B.named
  have hlocks := B.notSynchronized
  have hS : va_S (YF A) s.heap s.heap [] := va_S.rf
  have hl := lv_entry ([.ref (A 0), .int x1]) (n := 5) (Nat.le_of_ble_eq_true rfl)
  rw [lg_entry_eq]
  generalize (lg_sl ([.ref (A 0), .int x1]) ++ List.replicate (5 - (lg_sl ([.ref (A 0), .int x1])).length) Slot.unset).toArray = ls at hl ⊢
  have hl : lv_has ls 5 [(0, .ref (A 0)), (1, .int x1)] := hl
  generalize hargs : ([.ref (A 0), .int x1] : List Value).toArray = args at hg hts ⊢
  obtain ⟨Q, hQ⟩ : ∃ Q, Q = MQ below (YQi K A rr σ) args s 0 0 (YF A) := ⟨_, rfl⟩
  rw [← hQ]
  have hRet : ∀ (v : Int32), (narrow .boolean (.int v) = .int v) → some v = some rr → ∀ (H : Heap) (locs : List Loc), va_P K.1 vwCl (wY K A σ) H → va_D (YF A) (wY K A σ) → va_S (YF A) s.heap H locs → ∀ (pc : Nat) (ls : Array Slot), decode b_Mo_same pc = .ok (.ireturn, 1) → W p l e (headSpec w_Mo_same r_Mo_same).room s m args below meth c H locs 0 0 Q (F0 m pc ls [.int v]) := by
    intro v hn h H locs hP hD hS pc ls hd
    cases h
    subst hQ
    exact W.zret hx hb hr hn (fun t ht hW => ⟨⟨_, (), rfl, rfl, by rw [ht]; exact hP, RK.warm hW hK, hD⟩, hS.F ht⟩) hS.2.2 hd
  clear hQ
  unfold p_Mo_same at h
  have J_66 : ∀ (k2 : Int32 → Option Int32) (hk2 : ∀ (x2 : Int32), k2 x2 = some rr → ∀ (H : Heap) (locs : List Loc), va_P K.1 vwCl (wY K A σ) H → va_D (YF A) (wY K A σ) → va_S (YF A) s.heap H locs → ∀ ls : Array Slot, lv_has ls 5 [(0, .ref (A 0)), (1, .int x1), (2, .int x2)] → W p l e (headSpec w_Mo_same r_Mo_same).room s m args below meth c H locs 0 0 Q (F0 m 2 ls [])) (x2 : Int32) (x3 : Int32) (s0 : Int32), p_Mo_same_b66 σ x1 k2 x2 x3 s0 = some rr → ∀ (H : Heap) (locs : List Loc), va_P K.1 vwCl (wY K A σ) H → va_D (YF A) (wY K A σ) → va_S (YF A) s.heap H locs → ∀ ls : Array Slot, lv_has ls 5 [(0, .ref (A 0)), (1, .int x1), (2, .int x2), (3, .int x3)] → W p l e (headSpec w_Mo_same r_Mo_same).room s m args below meth c H locs 0 0 Q (F0 m 66 ls [.int s0]) := by
    intro k2 hk2 x2 x3 s0 h H locs hP hD hS ls hl
    rw [p_Mo_same_b66] at h
    refine lv_istore (lv' := [(4, .int s0), (0, .ref (A 0)), (1, .int x1), (2, .int x2), (3, .int x3)]) hx hb d_Mo_same_66 hl (by decide) rfl (fun ls hl => ?_)
    refine lv_iload_n hx hb d_Mo_same_68 rfl (lv_at hl 4 rfl) ?_
    refine lv_iload hx hb d_Mo_same_69 (lv_at hl 0 rfl) ?_
    refine lv_icmp_eq (tgt := 76) hx hb d_Mo_same_71 (by decide) (fun c_71 => ?_) (fun c_71 => ?_)
    · replace h := itp c_71 h
      refine lv_iinc (v := x2 + 1) (lv' := [(2, .int (x2 + 1)), (4, .int s0), (0, .ref (A 0)), (1, .int x1), (3, .int x3)]) hx hb d_Mo_same_76 hl (k := 3) rfl (by first | rfl | decide) (by decide) rfl (fun ls hl => ?_)
      refine lv_goto (tgt := 2) hx hb d_Mo_same_79 (by decide) ?_
      exact hk2 _ h _ _ hP hD hS ls (lv_sub hl [2, 3, 0] rfl)
    · replace h := itf c_71 h
      refine lv_iconst (v := 0) hx hb d_Mo_same_74 (by decide) ?_
      exact hRet _ rfl h _ _ hP hD hS _ _ d_Mo_same_75
  have J_65 : ∀ (k2 : Int32 → Option Int32) (hk2 : ∀ (x2 : Int32), k2 x2 = some rr → ∀ (H : Heap) (locs : List Loc), va_P K.1 vwCl (wY K A σ) H → va_D (YF A) (wY K A σ) → va_S (YF A) s.heap H locs → ∀ ls : Array Slot, lv_has ls 5 [(0, .ref (A 0)), (1, .int x1), (2, .int x2)] → W p l e (headSpec w_Mo_same r_Mo_same).room s m args below meth c H locs 0 0 Q (F0 m 2 ls [])) (x2 : Int32) (x3 : Int32), p_Mo_same_b65 σ x1 k2 x2 x3 = some rr → ∀ (H : Heap) (locs : List Loc), va_P K.1 vwCl (wY K A σ) H → va_D (YF A) (wY K A σ) → va_S (YF A) s.heap H locs → ∀ ls : Array Slot, lv_has ls 5 [(0, .ref (A 0)), (1, .int x1), (2, .int x2), (3, .int x3)] → W p l e (headSpec w_Mo_same r_Mo_same).room s m args below meth c H locs 0 0 Q (F0 m 65 ls []) := by
    intro k2 hk2 x2 x3 h H locs hP hD hS ls hl
    rw [p_Mo_same_b65] at h
    refine lv_iconst (v := 0) hx hb d_Mo_same_65 (by decide) ?_
    exact J_66 _ hk2 _ _ _ h _ _ hP hD hS ls (lv_sub hl [0, 1, 2, 3] rfl)
  have J_28 : ∀ (k2 : Int32 → Option Int32) (hk2 : ∀ (x2 : Int32), k2 x2 = some rr → ∀ (H : Heap) (locs : List Loc), va_P K.1 vwCl (wY K A σ) H → va_D (YF A) (wY K A σ) → va_S (YF A) s.heap H locs → ∀ ls : Array Slot, lv_has ls 5 [(0, .ref (A 0)), (1, .int x1), (2, .int x2)] → W p l e (headSpec w_Mo_same r_Mo_same).room s m args below meth c H locs 0 0 Q (F0 m 2 ls [])) (x2 : Int32) (s0 : Int32), p_Mo_same_b28 σ x1 k2 x2 s0 = some rr → ∀ (H : Heap) (locs : List Loc), va_P K.1 vwCl (wY K A σ) H → va_D (YF A) (wY K A σ) → va_S (YF A) s.heap H locs → ∀ ls : Array Slot, lv_has ls 5 [(0, .ref (A 0)), (1, .int x1), (2, .int x2)] → W p l e (headSpec w_Mo_same r_Mo_same).room s m args below meth c H locs 0 0 Q (F0 m 28 ls [.int s0]) := by
    intro k2 hk2 x2 s0 h H locs hP hD hS ls hl
    rw [p_Mo_same_b28] at h
    refine lv_istore_n (lv' := [(3, .int s0), (0, .ref (A 0)), (1, .int x1), (2, .int x2)]) hx hb d_Mo_same_28 rfl hl (by decide) rfl (fun ls hl => ?_)
    refine lv_iload_n hx hb d_Mo_same_29 rfl (lv_at hl 3 rfl) ?_
    refine lv_aload_n hx hb d_Mo_same_30 rfl (lv_at hl 1 rfl) ?_
    refine gf_Mo_118 hx hb hg hown hK hP d_Mo_same_31 ?_
    refine lv_icmp_ge (tgt := 65) hx hb d_Mo_same_34 (by decide) (fun c_34 => ?_) (fun c_34 => ?_)
    · replace h := itp c_34 h
      exact J_65 _ hk2 _ _ h _ _ hP hD hS ls (lv_sub hl [1, 2, 3, 0] rfl)
    · replace h := itf c_34 h
      refine lv_aload_n hx hb d_Mo_same_37 rfl (lv_at hl 1 rfl) ?_
      refine gf_Mo_50 hx hb hg hown hK hP d_Mo_same_38 ?_
      refine lv_iload_n hx hb d_Mo_same_41 rfl (lv_at hl 3 rfl) ?_
      obtain ⟨i_42, h⟩ := itn h
      refine Yra_14 hx hb hK hP i_42 d_Mo_same_42 ?_
      refine lv_aload_n hx hb d_Mo_same_43 rfl (lv_at hl 1 rfl) ?_
      refine gf_Mo_50 hx hb hg hown hK hP d_Mo_same_44 ?_
      refine lv_iload_n hx hb d_Mo_same_47 rfl (lv_at hl 2 rfl) ?_
      obtain ⟨i_48, h⟩ := itn h
      refine Yra_14 hx hb hK hP i_48 d_Mo_same_48 ?_
      refine lv_icmp_ne (tgt := 65) hx hb d_Mo_same_49 (by decide) (fun c_49 => ?_) (fun c_49 => ?_)
      · replace h := itf c_49 h
        exact J_65 _ hk2 _ _ h _ _ hP hD hS ls (lv_sub hl [1, 2, 3, 0] rfl)
      · replace h := itp c_49 h
        refine lv_aload_n hx hb d_Mo_same_52 rfl (lv_at hl 1 rfl) ?_
        refine gf_Mo_50 hx hb hg hown hK hP d_Mo_same_53 ?_
        refine lv_iload_n hx hb d_Mo_same_56 rfl (lv_at hl 3 rfl) ?_
        obtain ⟨i_57, h⟩ := itn h
        refine Yra_14 hx hb hK hP i_57 d_Mo_same_57 ?_
        refine lv_if_lt (tgt := 65) hx hb d_Mo_same_58 (by decide) (fun c_58 => ?_) (fun c_58 => ?_)
        · replace h := itp c_58 h
          exact J_65 _ hk2 _ _ h _ _ hP hD hS ls (lv_sub hl [1, 2, 3, 0] rfl)
        · replace h := itf c_58 h
          refine lv_iconst (v := 1) hx hb d_Mo_same_61 (by decide) ?_
          refine lv_goto (tgt := 66) hx hb d_Mo_same_62 (by decide) ?_
          exact J_66 _ hk2 _ _ _ h _ _ hP hD hS ls (lv_sub hl [1, 2, 3, 0] rfl)
  have L_2 : ∀ (n : Nat) (x2 : Int32), p_Mo_same_L2 σ x1 n x2 = some rr → ∀ (H : Heap) (locs : List Loc), va_P K.1 vwCl (wY K A σ) H → va_D (YF A) (wY K A σ) → va_S (YF A) s.heap H locs → ∀ ls : Array Slot, lv_has ls 5 [(0, .ref (A 0)), (1, .int x1), (2, .int x2)] → W p l e (headSpec w_Mo_same r_Mo_same).room s m args below meth c H locs 0 0 Q (F0 m 2 ls []) := by
    intro n
    induction n with
    | zero => intro _ h; cases h
    | succ n ih =>
      intro x2 h H locs hP hD hS ls hl
      rw [p_Mo_same_L2] at h
      refine lv_iload_n hx hb d_Mo_same_2 rfl (lv_at hl 2 rfl) ?_
      refine lv_bipush (v := 124) hx hb d_Mo_same_3 (by decide) ?_
      refine lv_icmp_ge (tgt := 82) hx hb d_Mo_same_5 (by decide) (fun c_5 => ?_) (fun c_5 => ?_)
      · replace h := itp c_5 h
        refine lv_iconst (v := 1) hx hb d_Mo_same_82 (by decide) ?_
        exact hRet _ rfl h _ _ hP hD hS _ _ d_Mo_same_83
      · replace h := itf c_5 h
        refine lv_aload_n hx hb d_Mo_same_8 rfl (lv_at hl 0 rfl) ?_
        refine gf_Mo_53 hx hb hg hown hK hP d_Mo_same_9 ?_
        refine lv_iload_n hx hb d_Mo_same_12 rfl (lv_at hl 2 rfl) ?_
        obtain ⟨i_13, h⟩ := itn h
        refine Yra_15 hx hb hK hP i_13 d_Mo_same_13 ?_
        refine lv_aload_n hx hb d_Mo_same_14 rfl (lv_at hl 0 rfl) ?_
        refine gf_Mo_53 hx hb hg hown hK hP d_Mo_same_15 ?_
        refine lv_iload_n hx hb d_Mo_same_18 rfl (lv_at hl 1 rfl) ?_
        obtain ⟨i_19, h⟩ := itn h
        refine Yra_15 hx hb hK hP i_19 d_Mo_same_19 ?_
        refine lv_icmp_ne (tgt := 27) hx hb d_Mo_same_20 (by decide) (fun c_20 => ?_) (fun c_20 => ?_)
        · replace h := itf c_20 h
          refine lv_iconst (v := 0) hx hb d_Mo_same_27 (by decide) ?_
          exact J_28 _ ih _ _ h _ _ hP hD hS ls (lv_sub hl [0, 1, 2] rfl)
        · replace h := itp c_20 h
          refine lv_iconst (v := 1) hx hb d_Mo_same_23 (by decide) ?_
          refine lv_goto (tgt := 28) hx hb d_Mo_same_24 (by decide) ?_
          exact J_28 _ ih _ _ h _ _ hP hD hS ls (lv_sub hl [0, 1, 2] rfl)
  refine lv_iconst (v := 0) hx hb d_Mo_same_0 (by decide) ?_
  refine lv_istore_n (lv' := [(2, .int 0), (0, .ref (A 0)), (1, .int x1)]) hx hb d_Mo_same_1 rfl hl (by decide) rfl (fun ls hl => ?_)
  exact L_2  FU _ h _ _ hP hD hS ls (lv_sub hl [1, 2, 0] rfl)
