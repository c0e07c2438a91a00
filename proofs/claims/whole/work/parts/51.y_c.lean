def p_Mo_overArgument (σ : Sto) : Option Sto :=
  bd2 (p_Mo_over σ) fun v_1 σ_1 =>
    if inR (σ_1.1 7) 10 then (if (σ_1.2.1 23 ((σ_1.1 7).toNatClampNeg)) < 0 then
      if inR (σ_1.1 7) 10 then if inR (σ_1.1 7) 10 then some (sA σ_1 21 ((σ_1.1 7).toNatClampNeg) ((σ_1.2.1 21 ((σ_1.1 7).toNatClampNeg)) + 1)) else none else none
    else
      if inR (σ_1.1 7) 10 then if inR (σ_1.1 7) 10 then bd1 (p_Mo_parameter σ_1 (σ_1.2.1 23 ((σ_1.1 7).toNatClampNeg)) (σ_1.2.1 21 ((σ_1.1 7).toNatClampNeg))) fun v_39 =>
      bd1 (p_Mo_declared σ_1 v_39) fun v_42 =>
      if inR (σ_1.1 7) 10 then bd1 (p_Mo_should σ_1 v_1 v_42 (σ_1.2.1 17 ((σ_1.1 7).toNatClampNeg))) fun σ_54 =>
      if inR (σ_54.1 7) 10 then if inR (σ_54.1 7) 10 then some (sA σ_54 21 ((σ_54.1 7).toNatClampNeg) ((σ_54.2.1 21 ((σ_54.1 7).toNatClampNeg)) + 1)) else none else none else none else none else none) else none
abbrev w_Mo_overArgument : List Cond := Cond.code y_Mo_overArgument b_Mo_overArgument 2 none :: Tg
abbrev r_Mo_overArgument : Room := { frames := 7, cells := 0, slots := 0, locals := 154 }
theorem dv_Mo_overArgument : y_Mo_overArgument.cls = "LanguageServerModel" ∧ y_Mo_overArgument.cls ≠ "java/lang/invoke/MethodHandle" ∧ y_Mo_overArgument.cls ≠ "java/lang/invoke/VarHandle" ∧ (parseMethodDescriptor y_Mo_overArgument.desc).map (fun d => d.parameters.length) = some 0 := by decide +kernel
set_option maxHeartbeats 4000000 in
set_option maxRecDepth 100000 in
theorem c_Mo_overArgument (l : Launch) (K : Kst) (A : Nat → Nat) {σ : Sto} {ss : Sto} (h : p_Mo_overArgument σ = some ss) : Met l y_Mo_overArgument w_Mo_overArgument r_Mo_overArgument (va_Pc [.ref (A 0)] (YB K A σ)) (YQv K A ss) 0 0 (YF A) := by
  refine Met.ofW (cc := b_Mo_overArgument) (maxL := 2) (ret := none) (by decide) rfl ?_
  intro p e s m args below meth c s₁ B hml hv
  obtain ⟨rfl, hP, hK, hD⟩ := hv
  have hx := B.exec
  have hb := B.bytes
  have hr := B.returns
  have hts := atoms_spec (ws := w_Mo_overArgument) B.pre
  have hg : ∀ w ∈ Tg, w.before _ s = true := fun w q => hts w (List.mem_cons_of_mem _ q)
  have hown : s.vm.findClass "LanguageServerModel" = some m.cls := findClass_of_methodNamed B.named
  have hlocks := B.notSynchronized
  have hS : va_S (YF A) s.heap s.heap [] := va_S.rf
  have hl := lv_entry ([.ref (A 0)]) (n := 2) (Nat.le_of_ble_eq_true rfl)
  rw [lg_entry_eq]
  generalize (lg_sl ([.ref (A 0)]) ++ List.replicate (2 - (lg_sl ([.ref (A 0)])).length) Slot.unset).toArray = ls at hl ⊢
  have hl : lv_has ls 2 [(0, .ref (A 0))] := hl
  generalize hargs : ([.ref (A 0)] : List Value).toArray = args at hg hts ⊢
  obtain ⟨Q, hQ⟩ : ∃ Q, Q = MQ below (YQv K A ss) args s 0 0 (YF A) := ⟨_, rfl⟩
  rw [← hQ]
  have hRet : ∀ (σ : Sto), some σ = some ss → ∀ (H : Heap) (locs : List Loc), va_P K.1 vwCl (wY K A σ) H → va_D (YF A) (wY K A σ) → va_S (YF A) s.heap H locs → ∀ (pc : Nat) (ls : Array Slot), decode b_Mo_overArgument pc = .ok (.return_, 1) → W p l e (headSpec w_Mo_overArgument r_Mo_overArgument).room s m args below meth c H locs 0 0 Q (F0 m pc ls []) := by
    intro σ h H locs hP hD hS pc ls hd
    cases h
    subst hQ
    exact W.vret hx hb hr (fun t ht hW => ⟨⟨(), rfl, trivial, by rw [ht]; exact hP, RK.warm hW hK, hD⟩, hS.F ht⟩) hS.2.2 hd
  clear hQ
  unfold p_Mo_overArgument at h
  refine lv_aload_n hx hb d_Mo_overArgument_0 rfl (lv_at hl 0 rfl) ?_
  obtain ⟨v_1, σ_1, e_1, h⟩ := bd2_some h
  refine Y_calli (va_runV (As := []) (rest := []) ⟨hx, hb, hml, hown, hts⟩ (c_Mo_over l K A e_1) (cwV 0 hts (gd_V wd_1207 wd_1209 wp_83 wd_10 wd_1210) rfl rfl rfl dv_Mo_over ⟨Nat.le_of_ble_eq_true rfl, Nat.le_of_ble_eq_true rfl⟩) (Y_pv_0 hK hP hD) rfl rfl hl.1 rfl (lv_room (Nat.le_of_ble_eq_true rfl)) d_Mo_overArgument_1 ⟨Nat.le_of_ble_eq_true rfl, Nat.le_of_ble_eq_true rfl⟩) hS (fun H locs hP hD hS => ?_)
  refine lv_istore_n (lv' := [(1, .int v_1), (0, .ref (A 0))]) hx hb d_Mo_overArgument_4 rfl hl (by decide) rfl (fun ls hl => ?_)
  refine lv_aload_n hx hb d_Mo_overArgument_5 rfl (lv_at hl 1 rfl) ?_
  refine gf_Mo_78 hx hb hg hown hK hP d_Mo_overArgument_6 ?_
  refine lv_aload_n hx hb d_Mo_overArgument_9 rfl (lv_at hl 1 rfl) ?_
  refine gf_Mo_148 hx hb hg hown hK hP d_Mo_overArgument_10 ?_
  obtain ⟨i_13, h⟩ := itn h
  refine Yra_23 hx hb hK hP i_13 d_Mo_overArgument_13 ?_
  refine lv_if_lt (tgt := 57) hx hb d_Mo_overArgument_14 (by decide) (fun c_14 => ?_) (fun c_14 => ?_)
  · replace h := itp c_14 h
    refine lv_aload_n hx hb d_Mo_overArgument_57 rfl (lv_at hl 1 rfl) ?_
    refine gf_Mo_72 hx hb hg hown hK hP d_Mo_overArgument_58 ?_
    refine lv_aload_n hx hb d_Mo_overArgument_61 rfl (lv_at hl 1 rfl) ?_
    refine gf_Mo_148 hx hb hg hown hK hP d_Mo_overArgument_62 ?_
    refine lv_dup2_11 hx hb d_Mo_overArgument_65 rfl rfl ?_
    obtain ⟨i_66, h⟩ := itn h
    refine Yra_21 hx hb hK hP i_66 d_Mo_overArgument_66 ?_
    refine lv_iconst (v := 1) hx hb d_Mo_overArgument_67 (by decide) ?_
    refine lv_iadd hx hb d_Mo_overArgument_68 ?_
    obtain ⟨i_69, h⟩ := itn h
    refine Ywa_21 hx hb hK hP hD hS i_69 d_Mo_overArgument_69 (fun H locs hP hD hS => ?_)
    exact hRet _ h _ _ hP hD hS _ _ d_Mo_overArgument_70
  · replace h := itf c_14 h
    refine lv_aload_n hx hb d_Mo_overArgument_17 rfl (lv_at hl 1 rfl) ?_
    refine lv_iload_n hx hb d_Mo_overArgument_18 rfl (lv_at hl 0 rfl) ?_
    refine lv_aload_n hx hb d_Mo_overArgument_19 rfl (lv_at hl 1 rfl) ?_
    refine lv_aload_n hx hb d_Mo_overArgument_20 rfl (lv_at hl 1 rfl) ?_
    refine lv_aload_n hx hb d_Mo_overArgument_21 rfl (lv_at hl 1 rfl) ?_
    refine gf_Mo_78 hx hb hg hown hK hP d_Mo_overArgument_22 ?_
    refine lv_aload_n hx hb d_Mo_overArgument_25 rfl (lv_at hl 1 rfl) ?_
    refine gf_Mo_148 hx hb hg hown hK hP d_Mo_overArgument_26 ?_
    obtain ⟨i_29, h⟩ := itn h
    refine Yra_23 hx hb hK hP i_29 d_Mo_overArgument_29 ?_
    refine lv_aload_n hx hb d_Mo_overArgument_30 rfl (lv_at hl 1 rfl) ?_
    refine gf_Mo_72 hx hb hg hown hK hP d_Mo_overArgument_31 ?_
    refine lv_aload_n hx hb d_Mo_overArgument_34 rfl (lv_at hl 1 rfl) ?_
    refine gf_Mo_148 hx hb hg hown hK hP d_Mo_overArgument_35 ?_
    obtain ⟨i_38, h⟩ := itn h
    refine Yra_21 hx hb hK hP i_38 d_Mo_overArgument_38 ?_
    obtain ⟨v_39, e_39, h⟩ := bd1_some h
    refine Y_calli (va_runV (As := [.int (σ_1.2.1 23 ((σ_1.1 7).toNatClampNeg)), .int (σ_1.2.1 21 ((σ_1.1 7).toNatClampNeg))]) (rest := [.ref (A 0), .int v_1, .ref (A 0)]) ⟨hx, hb, hml, hown, hts⟩ (c_Mo_parameter l K A e_39) (cwV 2 hts (gd_V wd_1187 wd_1189 wp_78 wd_10 wd_1190) rfl rfl rfl dv_Mo_parameter ⟨Nat.le_of_ble_eq_true rfl, Nat.le_of_ble_eq_true rfl⟩) (Y_pv_0 hK hP hD) rfl rfl hl.1 rfl (lv_room (Nat.le_of_ble_eq_true rfl)) d_Mo_overArgument_39 ⟨Nat.le_of_ble_eq_true rfl, Nat.le_of_ble_eq_true rfl⟩) hS (fun H locs hP hD hS => ?_)
    obtain ⟨v_42, e_42, h⟩ := bd1_some h
    refine Y_calli (va_runV (As := [.int v_39]) (rest := [.int v_1, .ref (A 0)]) ⟨hx, hb, hml, hown, hts⟩ (c_Mo_declared l K A e_42) (cwV 1 hts (gd_V wd_1175 wd_1177 wp_75 wd_10 wd_1178) rfl rfl rfl dv_Mo_declared ⟨Nat.le_of_ble_eq_true rfl, Nat.le_of_ble_eq_true rfl⟩) (Y_pv_0 hK hP hD) rfl rfl hl.1 rfl (lv_room (Nat.le_of_ble_eq_true rfl)) d_Mo_overArgument_42 ⟨Nat.le_of_ble_eq_true rfl, Nat.le_of_ble_eq_true rfl⟩) hS (fun H locs hP hD hS => ?_)
    refine lv_aload_n hx hb d_Mo_overArgument_45 rfl (lv_at hl 1 rfl) ?_
    refine gf_Mo_59 hx hb hg hown hK hP d_Mo_overArgument_46 ?_
    refine lv_aload_n hx hb d_Mo_overArgument_49 rfl (lv_at hl 1 rfl) ?_
    refine gf_Mo_148 hx hb hg hown hK hP d_Mo_overArgument_50 ?_
    obtain ⟨i_53, h⟩ := itn h
    refine Yra_17 hx hb hK hP i_53 d_Mo_overArgument_53 ?_
    obtain ⟨σ_54, e_54, h⟩ := bd1_some h
    refine Y_callv (va_runV (As := [.int v_1, .int v_42, .int (σ_1.2.1 17 ((σ_1.1 7).toNatClampNeg))]) (rest := []) ⟨hx, hb, hml, hown, hts⟩ (c_Mo_should l K A e_54) (cwV 3 hts (gd_V wd_1195 wd_1197 wp_80 wd_10 wd_1198) rfl rfl rfl dv_Mo_should ⟨Nat.le_of_ble_eq_true rfl, Nat.le_of_ble_eq_true rfl⟩) (Y_pv_0 hK hP hD) rfl rfl hl.1 rfl (lv_room (Nat.le_of_ble_eq_true rfl)) d_Mo_overArgument_54 ⟨Nat.le_of_ble_eq_true rfl, Nat.le_of_ble_eq_true rfl⟩) hS (fun H locs hP hD hS => ?_)
    refine lv_aload_n hx hb d_Mo_overArgument_57 rfl (lv_at hl 1 rfl) ?_
    refine gf_Mo_72 hx hb hg hown hK hP d_Mo_overArgument_58 ?_
    refine lv_aload_n hx hb d_Mo_overArgument_61 rfl (lv_at hl 1 rfl) ?_
    refine gf_Mo_148 hx hb hg hown hK hP d_Mo_overArgument_62 ?_
    refine lv_dup2_11 hx hb d_Mo_overArgument_65 rfl rfl ?_
    obtain ⟨i_66, h⟩ := itn h
    refine Yra_21 hx hb hK hP i_66 d_Mo_overArgument_66 ?_
    refine lv_iconst (v := 1) hx hb d_Mo_overArgument_67 (by decide) ?_
    refine lv_iadd hx hb d_Mo_overArgument_68 ?_
    obtain ⟨i_69, h⟩ := itn h
    refine Ywa_21 hx hb hK hP hD hS i_69 d_Mo_overArgument_69 (fun H locs hP hD hS => ?_)
    exact hRet _ h _ _ hP hD hS _ _ d_Mo_overArgument_70
def p_Mo_step_b188 (x1 : Int32) (x2 : Int32) (σ : Sto) : Option (Int32 × Sto) :=
  (if x1 = 59 then
      some (0, σ)
    else
      (if x1 = 61 then
        some (0, σ)
      else
        some (1, σ)))
def p_Mo_step_b157 (x1 : Int32) (x2 : Int32) (σ : Sto) : Option (Int32 × Sto) :=
  (if x1 = 41 then
      bd2 (p_Mo_over σ) fun v_164 σ_164 =>
      if inR ((sS σ_164 7 ((σ_164.1 7) - 1)).1 7) 10 then p_Mo_step_b188 x1 x2 (sA (sS σ_164 7 ((σ_164.1 7) - 1)) 19 (((sS σ_164 7 ((σ_164.1 7) - 1)).1 7).toNatClampNeg) v_164) else none
    else
      p_Mo_step_b188 x1 x2 σ)
def p_Mo_step (σ : Sto) (x1 : Int32) (x2 : Int32) : Option (Int32 × Sto) :=
  (if x1 = 40 then
      if inR ((sS σ 7 ((σ.1 7) + 1)).1 7) 10 then bd1 (p_Mo_start (sA (sS σ 7 ((σ.1 7) + 1)) 16 (((sS σ 7 ((σ.1 7) + 1)).1 7).toNatClampNeg) 0) (x2 + 1)) fun σ_30 =>
      p_Mo_step_b188 x1 x2 σ_30 else none
    else
      (if x1 = 43 then
        if inR (σ.1 7) 10 then if inR (σ.1 7) 10 then bd1 (p_Mo_should σ (σ.2.1 19 ((σ.1 7).toNatClampNeg)) (-1) (σ.2.1 18 ((σ.1 7).toNatClampNeg))) fun σ_62 =>
        if inR (σ_62.1 7) 10 then if inR ((sA σ_62 20 ((σ_62.1 7).toNatClampNeg) (vp_nar .boolean 1)).1 7) 10 then if inR ((sA (sA σ_62 20 ((σ_62.1 7).toNatClampNeg) (vp_nar .boolean 1)) 18 (((sA σ_62 20 ((σ_62.1 7).toNatClampNeg) (vp_nar .boolean 1)).1 7).toNatClampNeg) (x2 + 1)).1 7) 10 then p_Mo_step_b188 x1 x2 (sA (sA (sA σ_62 20 ((σ_62.1 7).toNatClampNeg) (vp_nar .boolean 1)) 18 (((sA σ_62 20 ((σ_62.1 7).toNatClampNeg) (vp_nar .boolean 1)).1 7).toNatClampNeg) (x2 + 1)) 19 (((sA (sA σ_62 20 ((σ_62.1 7).toNatClampNeg) (vp_nar .boolean 1)) 18 (((sA σ_62 20 ((σ_62.1 7).toNatClampNeg) (vp_nar .boolean 1)).1 7).toNatClampNeg) (x2 + 1)).1 7).toNatClampNeg) (-2)) else none else none else none else none else none
      else
        (if x1 = 44 then
          bd1 (p_Mo_overArgument σ) fun σ_108 =>
          bd1 (p_Mo_start σ_108 (x2 + 1)) fun σ_115 =>
          p_Mo_step_b188 x1 x2 σ_115
        else
          (if x1 = 41 then
            if inR (σ.1 7) 10 then (if (σ.2.1 16 ((σ.1 7).toNatClampNeg)) = 1 then
              bd1 (p_Mo_overArgument σ) fun σ_141 =>
              p_Mo_step_b188 x1 x2 (sS σ_141 7 ((σ_141.1 7) - 1))
            else
              p_Mo_step_b157 x1 x2 σ) else none
          else
            p_Mo_step_b157 x1 x2 σ))))
abbrev w_Mo_step : List Cond := Cond.code y_Mo_step b_Mo_step 4 (some .boolean) :: Tg
abbrev r_Mo_step : Room := { frames := 8, cells := 0, slots := 0, locals := 175 }
theorem dv_Mo_step : y_Mo_step.cls = "LanguageServerModel" ∧ y_Mo_step.cls ≠ "java/lang/invoke/MethodHandle" ∧ y_Mo_step.cls ≠ "java/lang/invoke/VarHandle" ∧ (parseMethodDescriptor y_Mo_step.desc).map (fun d => d.parameters.length) = some 2 := by decide +kernel
set_option maxHeartbeats 4000000 in
set_option maxRecDepth 100000 in
theorem c_Mo_step (l : Launch) (K : Kst) (A : Nat → Nat) {σ : Sto} {x1 : Int32} {x2 : Int32} {rr : Int32} {ss : Sto} (h : p_Mo_step σ x1 x2 = some (rr, ss)) : Met l y_Mo_step w_Mo_step r_Mo_step (va_Pc [.ref (A 0), .int x1, .int x2] (YB K A σ)) (YQi K A rr ss) 0 0 (YF A) := by
  refine Met.ofW (cc := b_Mo_step) (maxL := 4) (ret := (some .boolean)) (by decide) rfl ?_
  intro p e s m args below meth c s₁ B hml hv
  obtain ⟨rfl, hP, hK, hD⟩ := hv
  have hx := B.exec
  have hb := B.bytes
  have hr := B.returns
  have hts := atoms_spec (ws := w_Mo_step) B.pre
  have hg : ∀ w ∈ Tg, w.before _ s = true := fun w q => hts w (List.mem_cons_of_mem _ q)
  have hown : s.vm.findClass "LanguageServerModel" = some m.cls := findClass_of_methodNamed B.named
  have hlocks := B.notSynchronized
  have hS : va_S (YF A) s.heap s.heap [] := va_S.rf
  have hl := lv_entry ([.ref (A 0), .int x1, .int x2]) (n := 4) (Nat.le_of_ble_eq_true rfl)
  rw [lg_entry_eq]
  generalize (lg_sl ([.ref (A 0), .int x1, .int x2]) ++ List.replicate (4 - (lg_sl ([.ref (A 0), .int x1, .int x2])).length) Slot.unset).toArray = ls at hl ⊢
  have hl : lv_has ls 4 [(0, .ref (A 0)), (1, .int x1), (2, .int x2)] := hl
  generalize hargs : ([.ref (A 0), .int x1, .int x2] : List Value).toArray = args at hg hts ⊢
  obtain ⟨Q, hQ⟩ : ∃ Q, Q = MQ below (YQi K A rr ss) args s 0 0 (YF A) := ⟨_, rfl⟩
  rw [← hQ]
  have hRet : ∀ (v : Int32) (σ : Sto), (narrow .boolean (.int v) = .int v) → some (v, σ) = some (rr, ss) → ∀ (H : Heap) (locs : List Loc), va_P K.1 vwCl (wY K A σ) H → va_D (YF A) (wY K A σ) → va_S (YF A) s.heap H locs → ∀ (pc : Nat) (ls : Array Slot), decode b_Mo_step pc = .ok (.ireturn, 1) → W p l e (headSpec w_Mo_step r_Mo_step).room s m args below meth c H locs 0 0 Q (F0 m pc ls [.int v]) := by
    intro v σ hn h H locs hP hD hS pc ls hd
    cases h
    subst hQ
    exact W.zret hx hb hr hn (fun t ht hW => ⟨⟨_, (), rfl, rfl, by rw [ht]; exact hP, RK.warm hW hK, hD⟩, hS.F ht⟩) hS.2.2 hd
  clear hQ
  unfold p_Mo_step at h
  have J_188 : ∀ (σ : Sto), p_Mo_step_b188 x1 x2 σ = some (rr, ss) → ∀ (H : Heap) (locs : List Loc), va_P K.1 vwCl (wY K A σ) H → va_D (YF A) (wY K A σ) → va_S (YF A) s.heap H locs → ∀ ls : Array Slot, lv_has ls 4 [(1, .int x1)] → W p l e (headSpec w_Mo_step r_Mo_step).room s m args below meth c H locs 0 0 Q (F0 m 188 ls []) := by
    intro  σ h H locs hP hD hS ls hl
    rw [p_Mo_step_b188] at h
    refine lv_iload_n hx hb d_Mo_step_188 rfl (lv_at hl 0 rfl) ?_
    refine lv_bipush (v := 59) hx hb d_Mo_step_189 (by decide) ?_
    refine lv_icmp_eq (tgt := 204) hx hb d_Mo_step_191 (by decide) (fun c_191 => ?_) (fun c_191 => ?_)
    · replace h := itp c_191 h
      refine lv_iconst (v := 0) hx hb d_Mo_step_204 (by decide) ?_
      exact hRet _ _ rfl h _ _ hP hD hS _ _ d_Mo_step_205
    · replace h := itf c_191 h
      refine lv_iload_n hx hb d_Mo_step_194 rfl (lv_at hl 0 rfl) ?_
      refine lv_bipush (v := 61) hx hb d_Mo_step_195 (by decide) ?_
      refine lv_icmp_eq (tgt := 204) hx hb d_Mo_step_197 (by decide) (fun c_197 => ?_) (fun c_197 => ?_)
      · replace h := itp c_197 h
        refine lv_iconst (v := 0) hx hb d_Mo_step_204 (by decide) ?_
        exact hRet _ _ rfl h _ _ hP hD hS _ _ d_Mo_step_205
      · replace h := itf c_197 h
        refine lv_iconst (v := 1) hx hb d_Mo_step_200 (by decide) ?_
        refine lv_goto (tgt := 205) hx hb d_Mo_step_201 (by decide) ?_
        exact hRet _ _ rfl h _ _ hP hD hS _ _ d_Mo_step_205
  have J_157 : ∀ (σ : Sto), p_Mo_step_b157 x1 x2 σ = some (rr, ss) → ∀ (H : Heap) (locs : List Loc), va_P K.1 vwCl (wY K A σ) H → va_D (YF A) (wY K A σ) → va_S (YF A) s.heap H locs → ∀ ls : Array Slot, lv_has ls 4 [(0, .ref (A 0)), (1, .int x1)] → W p l e (headSpec w_Mo_step r_Mo_step).room s m args below meth c H locs 0 0 Q (F0 m 157 ls []) := by
    intro  σ h H locs hP hD hS ls hl
    rw [p_Mo_step_b157] at h
    refine lv_iload_n hx hb d_Mo_step_157 rfl (lv_at hl 1 rfl) ?_
    refine lv_bipush (v := 41) hx hb d_Mo_step_158 (by decide) ?_
    refine lv_icmp_ne (tgt := 188) hx hb d_Mo_step_160 (by decide) (fun c_160 => ?_) (fun c_160 => ?_)
    · replace h := itf c_160 h
      exact J_188  _ h _ _ hP hD hS ls (lv_sub hl [1] rfl)
    · replace h := itp c_160 h
      refine lv_aload_n hx hb d_Mo_step_163 rfl (lv_at hl 0 rfl) ?_
      obtain ⟨v_164, σ_164, e_164, h⟩ := bd2_some h
      refine Y_calli (va_runV (As := []) (rest := []) ⟨hx, hb, hml, hown, hts⟩ (c_Mo_over l K A e_164) (cwV 0 hts (gd_V wd_1207 wd_1209 wp_83 wd_10 wd_1210) rfl rfl rfl dv_Mo_over ⟨Nat.le_of_ble_eq_true rfl, Nat.le_of_ble_eq_true rfl⟩) (Y_pv_0 hK hP hD) rfl rfl hl.1 rfl (lv_room (Nat.le_of_ble_eq_true rfl)) d_Mo_step_164 ⟨Nat.le_of_ble_eq_true rfl, Nat.le_of_ble_eq_true rfl⟩) hS (fun H locs hP hD hS => ?_)
      refine lv_istore_n (lv' := [(3, .int v_164), (0, .ref (A 0)), (1, .int x1)]) hx hb d_Mo_step_167 rfl hl (by decide) rfl (fun ls hl => ?_)
      refine lv_aload_n hx hb d_Mo_step_168 rfl (lv_at hl 1 rfl) ?_
      refine lv_dup hx hb d_Mo_step_169 rfl ?_
      refine gf_Mo_148 hx hb hg hown hK hP d_Mo_step_170 ?_
      refine lv_iconst (v := 1) hx hb d_Mo_step_173 (by decide) ?_
      refine lv_isub hx hb d_Mo_step_174 ?_
      refine pf_Mo_148 hx hb hg hown hK hP hD hS d_Mo_step_175 (fun H locs hP hD hS => ?_)
      refine lv_aload_n hx hb d_Mo_step_178 rfl (lv_at hl 1 rfl) ?_
      refine gf_Mo_65 hx hb hg hown hK hP d_Mo_step_179 ?_
      refine lv_aload_n hx hb d_Mo_step_182 rfl (lv_at hl 1 rfl) ?_
      refine gf_Mo_148 hx hb hg hown hK hP d_Mo_step_183 ?_
      refine lv_iload_n hx hb d_Mo_step_186 rfl (lv_at hl 0 rfl) ?_
      obtain ⟨i_187, h⟩ := itn h
      refine Ywa_19 hx hb hK hP hD hS i_187 d_Mo_step_187 (fun H locs hP hD hS => ?_)
      exact J_188  _ h _ _ hP hD hS ls (lv_sub hl [2] rfl)
  refine lv_iload_n hx hb d_Mo_step_0 rfl (lv_at hl 1 rfl) ?_
  refine lv_bipush (v := 40) hx hb d_Mo_step_1 (by decide) ?_
  refine lv_icmp_ne (tgt := 36) hx hb d_Mo_step_3 (by decide) (fun c_3 => ?_) (fun c_3 => ?_)
  · replace h := itf c_3 h
    refine lv_iload_n hx hb d_Mo_step_36 rfl (lv_at hl 1 rfl) ?_
    refine lv_bipush (v := 43) hx hb d_Mo_step_37 (by decide) ?_
    refine lv_icmp_ne (tgt := 101) hx hb d_Mo_step_39 (by decide) (fun c_39 => ?_) (fun c_39 => ?_)
    · replace h := itf c_39 h
      refine lv_iload_n hx hb d_Mo_step_101 rfl (lv_at hl 1 rfl) ?_
      refine lv_bipush (v := 44) hx hb d_Mo_step_102 (by decide) ?_
      refine lv_icmp_ne (tgt := 121) hx hb d_Mo_step_104 (by decide) (fun c_104 => ?_) (fun c_104 => ?_)
      · replace h := itf c_104 h
        refine lv_iload_n hx hb d_Mo_step_121 rfl (lv_at hl 1 rfl) ?_
        refine lv_bipush (v := 41) hx hb d_Mo_step_122 (by decide) ?_
        refine lv_icmp_ne (tgt := 157) hx hb d_Mo_step_124 (by decide) (fun c_124 => ?_) (fun c_124 => ?_)
        · replace h := itf c_124 h
          exact J_157  _ h _ _ hP hD hS ls (lv_sub hl [0, 1] rfl)
        · replace h := itp c_124 h
          refine lv_aload_n hx hb d_Mo_step_127 rfl (lv_at hl 0 rfl) ?_
          refine gf_Mo_56 hx hb hg hown hK hP d_Mo_step_128 ?_
          refine lv_aload_n hx hb d_Mo_step_131 rfl (lv_at hl 0 rfl) ?_
          refine gf_Mo_148 hx hb hg hown hK hP d_Mo_step_132 ?_
          obtain ⟨i_135, h⟩ := itn h
          refine Yra_16 hx hb hK hP i_135 d_Mo_step_135 ?_
          refine lv_iconst (v := 1) hx hb d_Mo_step_136 (by decide) ?_
          refine lv_icmp_ne (tgt := 157) hx hb d_Mo_step_137 (by decide) (fun c_137 => ?_) (fun c_137 => ?_)
          · replace h := itf c_137 h
            exact J_157  _ h _ _ hP hD hS ls (lv_sub hl [0, 1] rfl)
          · replace h := itp c_137 h
            refine lv_aload_n hx hb d_Mo_step_140 rfl (lv_at hl 0 rfl) ?_
            obtain ⟨σ_141, e_141, h⟩ := bd1_some h
            refine Y_callv (va_runV (As := []) (rest := []) ⟨hx, hb, hml, hown, hts⟩ (c_Mo_overArgument l K A e_141) (cwV 0 hts (gd_V wd_1203 wd_1205 wp_82 wd_10 wd_1206) rfl rfl rfl dv_Mo_overArgument ⟨Nat.le_of_ble_eq_true rfl, Nat.le_of_ble_eq_true rfl⟩) (Y_pv_0 hK hP hD) rfl rfl hl.1 rfl (lv_room (Nat.le_of_ble_eq_true rfl)) d_Mo_step_141 ⟨Nat.le_of_ble_eq_true rfl, Nat.le_of_ble_eq_true rfl⟩) hS (fun H locs hP hD hS => ?_)
            refine lv_aload_n hx hb d_Mo_step_144 rfl (lv_at hl 0 rfl) ?_
            refine lv_dup hx hb d_Mo_step_145 rfl ?_
            refine gf_Mo_148 hx hb hg hown hK hP d_Mo_step_146 ?_
            refine lv_iconst (v := 1) hx hb d_Mo_step_149 (by decide) ?_
            refine lv_isub hx hb d_Mo_step_150 ?_
            refine pf_Mo_148 hx hb hg hown hK hP hD hS d_Mo_step_151 (fun H locs hP hD hS => ?_)
            refine lv_goto (tgt := 188) hx hb d_Mo_step_154 (by decide) ?_
            exact J_188  _ h _ _ hP hD hS ls (lv_sub hl [1] rfl)
      · replace h := itp c_104 h
        refine lv_aload_n hx hb d_Mo_step_107 rfl (lv_at hl 0 rfl) ?_
        obtain ⟨σ_108, e_108, h⟩ := bd1_some h
        refine Y_callv (va_runV (As := []) (rest := []) ⟨hx, hb, hml, hown, hts⟩ (c_Mo_overArgument l K A e_108) (cwV 0 hts (gd_V wd_1203 wd_1205 wp_82 wd_10 wd_1206) rfl rfl rfl dv_Mo_overArgument ⟨Nat.le_of_ble_eq_true rfl, Nat.le_of_ble_eq_true rfl⟩) (Y_pv_0 hK hP hD) rfl rfl hl.1 rfl (lv_room (Nat.le_of_ble_eq_true rfl)) d_Mo_step_108 ⟨Nat.le_of_ble_eq_true rfl, Nat.le_of_ble_eq_true rfl⟩) hS (fun H locs hP hD hS => ?_)
        refine lv_aload_n hx hb d_Mo_step_111 rfl (lv_at hl 0 rfl) ?_
        refine lv_iload_n hx hb d_Mo_step_112 rfl (lv_at hl 2 rfl) ?_
        refine lv_iconst (v := 1) hx hb d_Mo_step_113 (by decide) ?_
        refine lv_iadd hx hb d_Mo_step_114 ?_
        obtain ⟨σ_115, e_115, h⟩ := bd1_some h
        refine Y_callv (va_runV (As := [.int (x2 + 1)]) (rest := []) ⟨hx, hb, hml, hown, hts⟩ (c_Mo_start l K A e_115) (cwV 1 hts (gd_V wd_1155 wd_1157 wp_70 wd_10 wd_1158) rfl rfl rfl dv_Mo_start ⟨Nat.le_of_ble_eq_true rfl, Nat.le_of_ble_eq_true rfl⟩) (Y_pv_0 hK hP hD) rfl rfl hl.1 rfl (lv_room (Nat.le_of_ble_eq_true rfl)) d_Mo_step_115 ⟨Nat.le_of_ble_eq_true rfl, Nat.le_of_ble_eq_true rfl⟩) hS (fun H locs hP hD hS => ?_)
        refine lv_goto (tgt := 188) hx hb d_Mo_step_118 (by decide) ?_
        exact J_188  _ h _ _ hP hD hS ls (lv_sub hl [1] rfl)
    · replace h := itp c_39 h
      refine lv_aload_n hx hb d_Mo_step_42 rfl (lv_at hl 0 rfl) ?_
      refine lv_aload_n hx hb d_Mo_step_43 rfl (lv_at hl 0 rfl) ?_
      refine gf_Mo_65 hx hb hg hown hK hP d_Mo_step_44 ?_
      refine lv_aload_n hx hb d_Mo_step_47 rfl (lv_at hl 0 rfl) ?_
      refine gf_Mo_148 hx hb hg hown hK hP d_Mo_step_48 ?_
      obtain ⟨i_51, h⟩ := itn h
      refine Yra_19 hx hb hK hP i_51 d_Mo_step_51 ?_
      refine lv_iconst (v := (-1)) hx hb d_Mo_step_52 (by decide) ?_
      refine lv_aload_n hx hb d_Mo_step_53 rfl (lv_at hl 0 rfl) ?_
      refine gf_Mo_62 hx hb hg hown hK hP d_Mo_step_54 ?_
      refine lv_aload_n hx hb d_Mo_step_57 rfl (lv_at hl 0 rfl) ?_
      refine gf_Mo_148 hx hb hg hown hK hP d_Mo_step_58 ?_
      obtain ⟨i_61, h⟩ := itn h
      refine Yra_18 hx hb hK hP i_61 d_Mo_step_61 ?_
      obtain ⟨σ_62, e_62, h⟩ := bd1_some h
      refine Y_callv (va_runV (As := [.int (σ.2.1 19 ((σ.1 7).toNatClampNeg)), .int (-1), .int (σ.2.1 18 ((σ.1 7).toNatClampNeg))]) (rest := []) ⟨hx, hb, hml, hown, hts⟩ (c_Mo_should l K A e_62) (cwV 3 hts (gd_V wd_1195 wd_1197 wp_80 wd_10 wd_1198) rfl rfl rfl dv_Mo_should ⟨Nat.le_of_ble_eq_true rfl, Nat.le_of_ble_eq_true rfl⟩) (Y_pv_0 hK hP hD) rfl rfl hl.1 rfl (lv_room (Nat.le_of_ble_eq_true rfl)) d_Mo_step_62 ⟨Nat.le_of_ble_eq_true rfl, Nat.le_of_ble_eq_true rfl⟩) hS (fun H locs hP hD hS => ?_)
      refine lv_aload_n hx hb d_Mo_step_65 rfl (lv_at hl 0 rfl) ?_
      refine gf_Mo_68 hx hb hg hown hK hP d_Mo_step_66 ?_
      refine lv_aload_n hx hb d_Mo_step_69 rfl (lv_at hl 0 rfl) ?_
      refine gf_Mo_148 hx hb hg hown hK hP d_Mo_step_70 ?_
      refine lv_iconst (v := 1) hx hb d_Mo_step_73 (by decide) ?_
      obtain ⟨i_74, h⟩ := itn h
      refine Ywa_20 hx hb hK hP hD hS i_74 d_Mo_step_74 (fun H locs hP hD hS => ?_)
      refine lv_aload_n hx hb d_Mo_step_75 rfl (lv_at hl 0 rfl) ?_
      refine gf_Mo_62 hx hb hg hown hK hP d_Mo_step_76 ?_
      refine lv_aload_n hx hb d_Mo_step_79 rfl (lv_at hl 0 rfl) ?_
      refine gf_Mo_148 hx hb hg hown hK hP d_Mo_step_80 ?_
      refine lv_iload_n hx hb d_Mo_step_83 rfl (lv_at hl 2 rfl) ?_
      refine lv_iconst (v := 1) hx hb d_Mo_step_84 (by decide) ?_
      refine lv_iadd hx hb d_Mo_step_85 ?_
      obtain ⟨i_86, h⟩ := itn h
      refine Ywa_18 hx hb hK hP hD hS i_86 d_Mo_step_86 (fun H locs hP hD hS => ?_)
      refine lv_aload_n hx hb d_Mo_step_87 rfl (lv_at hl 0 rfl) ?_
      refine gf_Mo_65 hx hb hg hown hK hP d_Mo_step_88 ?_
      refine lv_aload_n hx hb d_Mo_step_91 rfl (lv_at hl 0 rfl) ?_
      refine gf_Mo_148 hx hb hg hown hK hP d_Mo_step_92 ?_
      refine lv_bipush (v := (-2)) hx hb d_Mo_step_95 (by decide) ?_
      obtain ⟨i_97, h⟩ := itn h
      refine Ywa_19 hx hb hK hP hD hS i_97 d_Mo_step_97 (fun H locs hP hD hS => ?_)
      refine lv_goto (tgt := 188) hx hb d_Mo_step_98 (by decide) ?_
      exact J_188  _ h _ _ hP hD hS ls (lv_sub hl [1] rfl)
  · replace h := itp c_3 h
    refine lv_aload_n hx hb d_Mo_step_6 rfl (lv_at hl 0 rfl) ?_
    refine lv_dup hx hb d_Mo_step_7 rfl ?_
    refine gf_Mo_148 hx hb hg hown hK hP d_Mo_step_8 ?_
    refine lv_iconst (v := 1) hx hb d_Mo_step_11 (by decide) ?_
    refine lv_iadd hx hb d_Mo_step_12 ?_
    refine pf_Mo_148 hx hb hg hown hK hP hD hS d_Mo_step_13 (fun H locs hP hD hS => ?_)
    refine lv_aload_n hx hb d_Mo_step_16 rfl (lv_at hl 0 rfl) ?_
    refine gf_Mo_56 hx hb hg hown hK hP d_Mo_step_17 ?_
    refine lv_aload_n hx hb d_Mo_step_20 rfl (lv_at hl 0 rfl) ?_
    refine gf_Mo_148 hx hb hg hown hK hP d_Mo_step_21 ?_
    refine lv_iconst (v := 0) hx hb d_Mo_step_24 (by decide) ?_
    obtain ⟨i_25, h⟩ := itn h
    refine Ywa_16 hx hb hK hP hD hS i_25 d_Mo_step_25 (fun H locs hP hD hS => ?_)
    refine lv_aload_n hx hb d_Mo_step_26 rfl (lv_at hl 0 rfl) ?_
    refine lv_iload_n hx hb d_Mo_step_27 rfl (lv_at hl 2 rfl) ?_
    refine lv_iconst (v := 1) hx hb d_Mo_step_28 (by decide) ?_
    refine lv_iadd hx hb d_Mo_step_29 ?_
    obtain ⟨σ_30, e_30, h⟩ := bd1_some h
    refine Y_callv (va_runV (As := [.int (x2 + 1)]) (rest := []) ⟨hx, hb, hml, hown, hts⟩ (c_Mo_start l K A e_30) (cwV 1 hts (gd_V wd_1155 wd_1157 wp_70 wd_10 wd_1158) rfl rfl rfl dv_Mo_start ⟨Nat.le_of_ble_eq_true rfl, Nat.le_of_ble_eq_true rfl⟩) (Y_pv_0 hK hP hD) rfl rfl hl.1 rfl (lv_room (Nat.le_of_ble_eq_true rfl)) d_Mo_step_30 ⟨Nat.le_of_ble_eq_true rfl, Nat.le_of_ble_eq_true rfl⟩) hS (fun H locs hP hD hS => ?_)
    refine lv_goto (tgt := 188) hx hb d_Mo_step_33 (by decide) ?_
    exact J_188  _ h _ _ hP hD hS ls (lv_sub hl [1] rfl)
def p_Mo_evaluate_b154 (x1 : Int32) (x2 : Int32) (k15 : Sto → Int32 → Int32 → Option (Int32 × Sto)) (σ : Sto) (x3 : Int32) (x4 : Int32) (x5 : Int32) (x6 : Int32) : Option (Int32 × Sto) :=
  (if x6 = 0 then
      bd2 (p_Mo_step σ x5 x3) fun v_184 σ_184 =>
      (if v_184 = 0 then
        k15 σ_184 x3 v_184
      else
        k15 σ_184 (x3 + 1) v_184)
    else
      bd1 (p_Mo_arguments σ (x3 + 1)) fun v_164 =>
      (if v_164 = 0 then
        k15 σ (x3 + 3) x4
      else
        k15 σ (x3 + 2) x4))
def p_Mo_evaluate_b129 (x1 : Int32) (x2 : Int32) (k15 : Sto → Int32 → Int32 → Option (Int32 × Sto)) (σ : Sto) (x3 : Int32) (x4 : Int32) (x5 : Int32) (s0 : Int32) : Option (Int32 × Sto) :=
  (if x5 = 1 then
      if inR x3 124 then (if (σ.2.1 7 x3.toNatClampNeg) ≤ 8 then
        p_Mo_evaluate_b154 x1 x2 k15 σ x3 x4 x5 s0
      else
        bd1 (p_Mo_takeName σ x3 x2) fun σ_151 =>
        p_Mo_evaluate_b154 x1 x2 k15 σ_151 x3 x4 x5 s0) else none
    else
      p_Mo_evaluate_b154 x1 x2 k15 σ x3 x4 x5 s0)
def p_Mo_evaluate_b128 (x1 : Int32) (x2 : Int32) (k15 : Sto → Int32 → Int32 → Option (Int32 × Sto)) (σ : Sto) (x3 : Int32) (x4 : Int32) (x5 : Int32) : Option (Int32 × Sto) :=
  p_Mo_evaluate_b129 x1 x2 k15 σ x3 x4 x5 0
def p_Mo_evaluate_b124 (x1 : Int32) (x2 : Int32) (k15 : Sto → Int32 → Int32 → Option (Int32 × Sto)) (σ : Sto) (x3 : Int32) (x4 : Int32) (x5 : Int32) : Option (Int32 × Sto) :=
  p_Mo_evaluate_b129 x1 x2 k15 σ x3 x4 x5 1
def p_Mo_evaluate_b96 (x1 : Int32) (x2 : Int32) (k15 : Sto → Int32 → Int32 → Option (Int32 × Sto)) (σ : Sto) (x3 : Int32) (x4 : Int32) (x5 : Int32) : Option (Int32 × Sto) :=
  (if x5 = 1 then
      if inR x3 124 then (if (σ.2.1 7 x3.toNatClampNeg) = 10 then
        p_Mo_evaluate_b124 x1 x2 k15 σ x3 x4 x5
      else
        if inR x3 124 then (if (σ.2.1 7 x3.toNatClampNeg) = 12 then
          p_Mo_evaluate_b124 x1 x2 k15 σ x3 x4 x5
        else
          p_Mo_evaluate_b128 x1 x2 k15 σ x3 x4 x5) else none) else none
    else
      p_Mo_evaluate_b128 x1 x2 k15 σ x3 x4 x5)
def p_Mo_evaluate_b66 (x1 : Int32) (x2 : Int32) (k15 : Sto → Int32 → Int32 → Option (Int32 × Sto)) (σ : Sto) (x3 : Int32) (x4 : Int32) (x5 : Int32) : Option (Int32 × Sto) :=
  (if x5 = 1 then
      if inR x3 124 then (if (σ.2.1 7 x3.toNatClampNeg) = 4 then
        bd1 (p_Mo_classOf σ x3) fun v_92 =>
        if inR (σ.1 7) 10 then p_Mo_evaluate_b96 x1 x2 k15 (sA σ 19 ((σ.1 7).toNatClampNeg) v_92) x3 x4 x5 else none
      else
        p_Mo_evaluate_b96 x1 x2 k15 σ x3 x4 x5) else none
    else
      p_Mo_evaluate_b96 x1 x2 k15 σ x3 x4 x5)
def p_Mo_evaluate_b44 (x1 : Int32) (x2 : Int32) (k15 : Sto → Int32 → Int32 → Option (Int32 × Sto)) (σ : Sto) (x3 : Int32) (x4 : Int32) (x5 : Int32) : Option (Int32 × Sto) :=
  (if x5 = 8 then
      if inR x2 124 then if inR (σ.1 7) 10 then p_Mo_evaluate_b66 x1 x2 k15 (sA σ 19 ((σ.1 7).toNatClampNeg) (σ.2.1 8 x2.toNatClampNeg)) x3 x4 x5 else none else none
    else
      p_Mo_evaluate_b66 x1 x2 k15 σ x3 x4 x5)
def p_Mo_evaluate_L15 (x1 : Int32) (x2 : Int32) : Nat → Sto → Int32 → Int32 → Option (Int32 × Sto)
  | 0, _, _, _ => none
  | n + 1, σ, x3, x4 =>
    (if x4 = 0 then
        bd2 (p_Mo_over (sS σ 8 x3)) fun v_206 σ_206 =>
        some (v_206, σ_206)
      else
        if inR x3 124 then (if (σ.2.1 3 x3.toNatClampNeg) = 2 then
          if inR (σ.1 7) 10 then p_Mo_evaluate_b44 x1 x2 (p_Mo_evaluate_L15 x1 x2 n) (sA σ 19 ((σ.1 7).toNatClampNeg) (-1)) x3 x4 (σ.2.1 3 x3.toNatClampNeg) else none
        else
          p_Mo_evaluate_b44 x1 x2 (p_Mo_evaluate_L15 x1 x2 n) σ x3 x4 (σ.2.1 3 x3.toNatClampNeg)) else none)
def p_Mo_evaluate (σ : Sto) (x1 : Int32) (x2 : Int32) : Option (Int32 × Sto) :=
  bd1 (p_Mo_start (sS σ 7 0) x1) fun σ_7 =>
    p_Mo_evaluate_L15 x1 x2 FU σ_7 x1 1
abbrev w_Mo_evaluate : List Cond := Cond.code y_Mo_evaluate b_Mo_evaluate 7 (some .int) :: Tg
abbrev r_Mo_evaluate : Room := { frames := 9, cells := 0, slots := 0, locals := 198 }
theorem dv_Mo_evaluate : y_Mo_evaluate.cls = "LanguageServerModel" ∧ y_Mo_evaluate.cls ≠ "java/lang/invoke/MethodHandle" ∧ y_Mo_evaluate.cls ≠ "java/lang/invoke/VarHandle" ∧ (parseMethodDescriptor y_Mo_evaluate.desc).map (fun d => d.parameters.length) = some 2 := by decide +kernel
set_option maxHeartbeats 4000000 in
set_option maxRecDepth 100000 in
theorem c_Mo_evaluate (l : Launch) (K : Kst) (A : Nat → Nat) {σ : Sto} {x1 : Int32} {x2 : Int32} {rr : Int32} {ss : Sto} (h : p_Mo_evaluate σ x1 x2 = some (rr, ss)) : Met l y_Mo_evaluate w_Mo_evaluate r_Mo_evaluate (va_Pc [.ref (A 0), .int x1, .int x2] (YB K A σ)) (YQi K A rr ss) 0 0 (YF A) := by
  refine Met.ofW (cc := b_Mo_evaluate) (maxL := 7) (ret := (some .int)) (by decide) rfl ?_
  intro p e s m args below meth c s₁ B hml hv
  obtain ⟨rfl, hP, hK, hD⟩ := hv
  have hx := B.exec
  have hb := B.bytes
  have hr := B.returns
  have hts := atoms_spec (ws := w_Mo_evaluate) B.pre
  have hg : ∀ w ∈ Tg, w.before _ s = true := fun w q => hts w (List.mem_cons_of_mem _ q)
  have hown : s.vm.findClass "LanguageServerModel" = some m.cls := findClass_of_methodNamed B.named
  have hlocks := B.notSynchronized
  have hS : va_S (YF A) s.heap s.heap [] := va_S.rf
  have hl := lv_entry ([.ref (A 0), .int x1, .int x2]) (n := 7) (Nat.le_of_ble_eq_true rfl)
  rw [lg_entry_eq]
  generalize (lg_sl ([.ref (A 0), .int x1, .int x2]) ++ List.replicate (7 - (lg_sl ([.ref (A 0), .int x1, .int x2])).length) Slot.unset).toArray = ls at hl ⊢
  have hl : lv_has ls 7 [(0, .ref (A 0)), (1, .int x1), (2, .int x2)] := hl
  generalize hargs : ([.ref (A 0), .int x1, .int x2] : List Value).toArray = args at hg hts ⊢
  obtain ⟨Q, hQ⟩ : ∃ Q, Q = MQ below (YQi K A rr ss) args s 0 0 (YF A) := ⟨_, rfl⟩
  rw [← hQ]
  have hRet : ∀ (v : Int32) (σ : Sto), some (v, σ) = some (rr, ss) → ∀ (H : Heap) (locs : List Loc), va_P K.1 vwCl (wY K A σ) H → va_D (YF A) (wY K A σ) → va_S (YF A) s.heap H locs → ∀ (pc : Nat) (ls : Array Slot), decode b_Mo_evaluate pc = .ok (.ireturn, 1) → W p l e (headSpec w_Mo_evaluate r_Mo_evaluate).room s m args below meth c H locs 0 0 Q (F0 m pc ls [.int v]) := by
    intro v σ h H locs hP hD hS pc ls hd
    cases h
    subst hQ
    exact W.iret hx hb hr (fun t ht hW => ⟨⟨_, (), rfl, rfl, by rw [ht]; exact hP, RK.warm hW hK, hD⟩, hS.F ht⟩) hS.2.2 hd
  clear hQ
  unfold p_Mo_evaluate at h
  have J_154 : ∀ (k15 : Sto → Int32 → Int32 → Option (Int32 × Sto)) (hk15 : ∀ (σ : Sto) (x3 : Int32) (x4 : Int32), k15 σ x3 x4 = some (rr, ss) → ∀ (H : Heap) (locs : List Loc), va_P K.1 vwCl (wY K A σ) H → va_D (YF A) (wY K A σ) → va_S (YF A) s.heap H locs → ∀ ls : Array Slot, lv_has ls 7 [(0, .ref (A 0)), (2, .int x2), (3, .int x3), (4, .int x4)] → W p l e (headSpec w_Mo_evaluate r_Mo_evaluate).room s m args below meth c H locs 0 0 Q (F0 m 15 ls [])) (σ : Sto) (x3 : Int32) (x4 : Int32) (x5 : Int32) (x6 : Int32), p_Mo_evaluate_b154 x1 x2 k15 σ x3 x4 x5 x6 = some (rr, ss) → ∀ (H : Heap) (locs : List Loc), va_P K.1 vwCl (wY K A σ) H → va_D (YF A) (wY K A σ) → va_S (YF A) s.heap H locs → ∀ ls : Array Slot, lv_has ls 7 [(0, .ref (A 0)), (2, .int x2), (3, .int x3), (4, .int x4), (5, .int x5), (6, .int x6)] → W p l e (headSpec w_Mo_evaluate r_Mo_evaluate).room s m args below meth c H locs 0 0 Q (F0 m 154 ls []) := by
    intro k15 hk15 σ x3 x4 x5 x6 h H locs hP hD hS ls hl
    rw [p_Mo_evaluate_b154] at h
    refine lv_iload hx hb d_Mo_evaluate_154 (lv_at hl 5 rfl) ?_
    refine lv_if_eq (tgt := 180) hx hb d_Mo_evaluate_156 (by decide) (fun c_156 => ?_) (fun c_156 => ?_)
    · replace h := itp c_156 h
      refine lv_aload_n hx hb d_Mo_evaluate_180 rfl (lv_at hl 0 rfl) ?_
      refine lv_iload hx hb d_Mo_evaluate_181 (lv_at hl 4 rfl) ?_
      refine lv_iload_n hx hb d_Mo_evaluate_183 rfl (lv_at hl 2 rfl) ?_
      obtain ⟨v_184, σ_184, e_184, h⟩ := bd2_some h
      refine Y_calli (va_runV (As := [.int x5, .int x3]) (rest := []) ⟨hx, hb, hml, hown, hts⟩ (c_Mo_step l K A e_184) (cwV 2 hts (gd_V wd_1191 wd_1193 wp_79 wd_10 wd_1194) rfl rfl rfl dv_Mo_step ⟨Nat.le_of_ble_eq_true rfl, Nat.le_of_ble_eq_true rfl⟩) (Y_pv_0 hK hP hD) rfl rfl hl.1 rfl (lv_room (Nat.le_of_ble_eq_true rfl)) d_Mo_evaluate_184 ⟨Nat.le_of_ble_eq_true rfl, Nat.le_of_ble_eq_true rfl⟩) hS (fun H locs hP hD hS => ?_)
      refine lv_istore (lv' := [(4, .int v_184), (0, .ref (A 0)), (2, .int x2), (3, .int x3), (5, .int x5), (6, .int x6)]) hx hb d_Mo_evaluate_187 hl (by decide) rfl (fun ls hl => ?_)
      refine lv_iload hx hb d_Mo_evaluate_189 (lv_at hl 0 rfl) ?_
      refine lv_if_eq (tgt := 197) hx hb d_Mo_evaluate_191 (by decide) (fun c_191 => ?_) (fun c_191 => ?_)
      · replace h := itp c_191 h
        refine lv_goto (tgt := 15) hx hb d_Mo_evaluate_197 (by decide) ?_
        exact hk15 _ _ _ h _ _ hP hD hS ls (lv_sub hl [1, 2, 3, 0] rfl)
      · replace h := itf c_191 h
        refine lv_iinc (v := x3 + 1) (lv' := [(3, .int (x3 + 1)), (4, .int v_184), (0, .ref (A 0)), (2, .int x2), (5, .int x5), (6, .int x6)]) hx hb d_Mo_evaluate_194 hl (k := 3) rfl (by first | rfl | decide) (by decide) rfl (fun ls hl => ?_)
        refine lv_goto (tgt := 15) hx hb d_Mo_evaluate_197 (by decide) ?_
        exact hk15 _ _ _ h _ _ hP hD hS ls (lv_sub hl [2, 3, 0, 1] rfl)
    · replace h := itf c_156 h
      refine lv_iload_n hx hb d_Mo_evaluate_159 rfl (lv_at hl 2 rfl) ?_
      refine lv_aload_n hx hb d_Mo_evaluate_160 rfl (lv_at hl 0 rfl) ?_
      refine lv_iload_n hx hb d_Mo_evaluate_161 rfl (lv_at hl 2 rfl) ?_
      refine lv_iconst (v := 1) hx hb d_Mo_evaluate_162 (by decide) ?_
      refine lv_iadd hx hb d_Mo_evaluate_163 ?_
      obtain ⟨v_164, e_164, h⟩ := bd1_some h
      refine Y_calli (va_runV (As := [.int (x3 + 1)]) (rest := [.int x3]) ⟨hx, hb, hml, hown, hts⟩ (c_Mo_arguments l K A e_164) (cwV 1 hts (gd_V wd_1179 wd_1181 wp_76 wd_10 wd_1182) rfl rfl rfl dv_Mo_arguments ⟨Nat.le_of_ble_eq_true rfl, Nat.le_of_ble_eq_true rfl⟩) (Y_pv_0 hK hP hD) rfl rfl hl.1 rfl (lv_room (Nat.le_of_ble_eq_true rfl)) d_Mo_evaluate_164 ⟨Nat.le_of_ble_eq_true rfl, Nat.le_of_ble_eq_true rfl⟩) hS (fun H locs hP hD hS => ?_)
      refine lv_if_ne (tgt := 174) hx hb d_Mo_evaluate_167 (by decide) (fun c_167 => ?_) (fun c_167 => ?_)
      · replace h := itf c_167 h
        refine lv_iconst (v := 2) hx hb d_Mo_evaluate_174 (by decide) ?_
        refine lv_iadd hx hb d_Mo_evaluate_175 ?_
        refine lv_istore_n (lv' := [(3, .int (x3 + 2)), (0, .ref (A 0)), (2, .int x2), (4, .int x4), (5, .int x5), (6, .int x6)]) hx hb d_Mo_evaluate_176 rfl hl (by decide) rfl (fun ls hl => ?_)
        refine lv_goto (tgt := 15) hx hb d_Mo_evaluate_177 (by decide) ?_
        exact hk15 _ _ _ h _ _ hP hD hS ls (lv_sub hl [1, 2, 0, 3] rfl)
      · replace h := itp c_167 h
        refine lv_iconst (v := 3) hx hb d_Mo_evaluate_170 (by decide) ?_
        refine lv_goto (tgt := 175) hx hb d_Mo_evaluate_171 (by decide) ?_
        refine lv_iadd hx hb d_Mo_evaluate_175 ?_
        refine lv_istore_n (lv' := [(3, .int (x3 + 3)), (0, .ref (A 0)), (2, .int x2), (4, .int x4), (5, .int x5), (6, .int x6)]) hx hb d_Mo_evaluate_176 rfl hl (by decide) rfl (fun ls hl => ?_)
        refine lv_goto (tgt := 15) hx hb d_Mo_evaluate_177 (by decide) ?_
        exact hk15 _ _ _ h _ _ hP hD hS ls (lv_sub hl [1, 2, 0, 3] rfl)
  have J_129 : ∀ (k15 : Sto → Int32 → Int32 → Option (Int32 × Sto)) (hk15 : ∀ (σ : Sto) (x3 : Int32) (x4 : Int32), k15 σ x3 x4 = some (rr, ss) → ∀ (H : Heap) (locs : List Loc), va_P K.1 vwCl (wY K A σ) H → va_D (YF A) (wY K A σ) → va_S (YF A) s.heap H locs → ∀ ls : Array Slot, lv_has ls 7 [(0, .ref (A 0)), (2, .int x2), (3, .int x3), (4, .int x4)] → W p l e (headSpec w_Mo_evaluate r_Mo_evaluate).room s m args below meth c H locs 0 0 Q (F0 m 15 ls [])) (σ : Sto) (x3 : Int32) (x4 : Int32) (x5 : Int32) (s0 : Int32), p_Mo_evaluate_b129 x1 x2 k15 σ x3 x4 x5 s0 = some (rr, ss) → ∀ (H : Heap) (locs : List Loc), va_P K.1 vwCl (wY K A σ) H → va_D (YF A) (wY K A σ) → va_S (YF A) s.heap H locs → ∀ ls : Array Slot, lv_has ls 7 [(0, .ref (A 0)), (2, .int x2), (3, .int x3), (4, .int x4), (5, .int x5)] → W p l e (headSpec w_Mo_evaluate r_Mo_evaluate).room s m args below meth c H locs 0 0 Q (F0 m 129 ls [.int s0]) := by
    intro k15 hk15 σ x3 x4 x5 s0 h H locs hP hD hS ls hl
    rw [p_Mo_evaluate_b129] at h
    refine lv_istore (lv' := [(6, .int s0), (0, .ref (A 0)), (2, .int x2), (3, .int x3), (4, .int x4), (5, .int x5)]) hx hb d_Mo_evaluate_129 hl (by decide) rfl (fun ls hl => ?_)
    refine lv_iload hx hb d_Mo_evaluate_131 (lv_at hl 5 rfl) ?_
    refine lv_iconst (v := 1) hx hb d_Mo_evaluate_133 (by decide) ?_
    refine lv_icmp_ne (tgt := 154) hx hb d_Mo_evaluate_134 (by decide) (fun c_134 => ?_) (fun c_134 => ?_)
    · replace h := itf c_134 h
      exact J_154 _ hk15 _ _ _ _ _ h _ _ hP hD hS ls (lv_sub hl [1, 2, 3, 4, 5, 0] rfl)
    · replace h := itp c_134 h
      refine lv_aload_n hx hb d_Mo_evaluate_137 rfl (lv_at hl 1 rfl) ?_
      refine gf_Mo_29 hx hb hg hown hK hP d_Mo_evaluate_138 ?_
      refine lv_iload_n hx hb d_Mo_evaluate_141 rfl (lv_at hl 3 rfl) ?_
      obtain ⟨i_142, h⟩ := itn h
      refine Yra_7 hx hb hK hP i_142 d_Mo_evaluate_142 ?_
      refine lv_bipush (v := 8) hx hb d_Mo_evaluate_143 (by decide) ?_
      refine lv_icmp_le (tgt := 154) hx hb d_Mo_evaluate_145 (by decide) (fun c_145 => ?_) (fun c_145 => ?_)
      · replace h := itp c_145 h
        exact J_154 _ hk15 _ _ _ _ _ h _ _ hP hD hS ls (lv_sub hl [1, 2, 3, 4, 5, 0] rfl)
      · replace h := itf c_145 h
        refine lv_aload_n hx hb d_Mo_evaluate_148 rfl (lv_at hl 1 rfl) ?_
        refine lv_iload_n hx hb d_Mo_evaluate_149 rfl (lv_at hl 3 rfl) ?_
        refine lv_iload_n hx hb d_Mo_evaluate_150 rfl (lv_at hl 2 rfl) ?_
        obtain ⟨σ_151, e_151, h⟩ := bd1_some h
        refine Y_callv (va_runV (As := [.int x3, .int x2]) (rest := []) ⟨hx, hb, hml, hown, hts⟩ (c_Mo_takeName l K A e_151) (cwV 2 hts (gd_V wd_1159 wd_1161 wp_71 wd_10 wd_1162) rfl rfl rfl dv_Mo_takeName ⟨Nat.le_of_ble_eq_true rfl, Nat.le_of_ble_eq_true rfl⟩) (Y_pv_0 hK hP hD) rfl rfl hl.1 rfl (lv_room (Nat.le_of_ble_eq_true rfl)) d_Mo_evaluate_151 ⟨Nat.le_of_ble_eq_true rfl, Nat.le_of_ble_eq_true rfl⟩) hS (fun H locs hP hD hS => ?_)
        exact J_154 _ hk15 _ _ _ _ _ h _ _ hP hD hS ls (lv_sub hl [1, 2, 3, 4, 5, 0] rfl)
  have J_128 : ∀ (k15 : Sto → Int32 → Int32 → Option (Int32 × Sto)) (hk15 : ∀ (σ : Sto) (x3 : Int32) (x4 : Int32), k15 σ x3 x4 = some (rr, ss) → ∀ (H : Heap) (locs : List Loc), va_P K.1 vwCl (wY K A σ) H → va_D (YF A) (wY K A σ) → va_S (YF A) s.heap H locs → ∀ ls : Array Slot, lv_has ls 7 [(0, .ref (A 0)), (2, .int x2), (3, .int x3), (4, .int x4)] → W p l e (headSpec w_Mo_evaluate r_Mo_evaluate).room s m args below meth c H locs 0 0 Q (F0 m 15 ls [])) (σ : Sto) (x3 : Int32) (x4 : Int32) (x5 : Int32), p_Mo_evaluate_b128 x1 x2 k15 σ x3 x4 x5 = some (rr, ss) → ∀ (H : Heap) (locs : List Loc), va_P K.1 vwCl (wY K A σ) H → va_D (YF A) (wY K A σ) → va_S (YF A) s.heap H locs → ∀ ls : Array Slot, lv_has ls 7 [(0, .ref (A 0)), (2, .int x2), (3, .int x3), (4, .int x4), (5, .int x5)] → W p l e (headSpec w_Mo_evaluate r_Mo_evaluate).room s m args below meth c H locs 0 0 Q (F0 m 128 ls []) := by
    intro k15 hk15 σ x3 x4 x5 h H locs hP hD hS ls hl
    rw [p_Mo_evaluate_b128] at h
    refine lv_iconst (v := 0) hx hb d_Mo_evaluate_128 (by decide) ?_
    exact J_129 _ hk15 _ _ _ _ _ h _ _ hP hD hS ls (lv_sub hl [0, 1, 2, 3, 4] rfl)
  have J_124 : ∀ (k15 : Sto → Int32 → Int32 → Option (Int32 × Sto)) (hk15 : ∀ (σ : Sto) (x3 : Int32) (x4 : Int32), k15 σ x3 x4 = some (rr, ss) → ∀ (H : Heap) (locs : List Loc), va_P K.1 vwCl (wY K A σ) H → va_D (YF A) (wY K A σ) → va_S (YF A) s.heap H locs → ∀ ls : Array Slot, lv_has ls 7 [(0, .ref (A 0)), (2, .int x2), (3, .int x3), (4, .int x4)] → W p l e (headSpec w_Mo_evaluate r_Mo_evaluate).room s m args below meth c H locs 0 0 Q (F0 m 15 ls [])) (σ : Sto) (x3 : Int32) (x4 : Int32) (x5 : Int32), p_Mo_evaluate_b124 x1 x2 k15 σ x3 x4 x5 = some (rr, ss) → ∀ (H : Heap) (locs : List Loc), va_P K.1 vwCl (wY K A σ) H → va_D (YF A) (wY K A σ) → va_S (YF A) s.heap H locs → ∀ ls : Array Slot, lv_has ls 7 [(0, .ref (A 0)), (2, .int x2), (3, .int x3), (4, .int x4), (5, .int x5)] → W p l e (headSpec w_Mo_evaluate r_Mo_evaluate).room s m args below meth c H locs 0 0 Q (F0 m 124 ls []) := by
    intro k15 hk15 σ x3 x4 x5 h H locs hP hD hS ls hl
    rw [p_Mo_evaluate_b124] at h
    refine lv_iconst (v := 1) hx hb d_Mo_evaluate_124 (by decide) ?_
    refine lv_goto (tgt := 129) hx hb d_Mo_evaluate_125 (by decide) ?_
    exact J_129 _ hk15 _ _ _ _ _ h _ _ hP hD hS ls (lv_sub hl [0, 1, 2, 3, 4] rfl)
  have J_96 : ∀ (k15 : Sto → Int32 → Int32 → Option (Int32 × Sto)) (hk15 : ∀ (σ : Sto) (x3 : Int32) (x4 : Int32), k15 σ x3 x4 = some (rr, ss) → ∀ (H : Heap) (locs : List Loc), va_P K.1 vwCl (wY K A σ) H → va_D (YF A) (wY K A σ) → va_S (YF A) s.heap H locs → ∀ ls : Array Slot, lv_has ls 7 [(0, .ref (A 0)), (2, .int x2), (3, .int x3), (4, .int x4)] → W p l e (headSpec w_Mo_evaluate r_Mo_evaluate).room s m args below meth c H locs 0 0 Q (F0 m 15 ls [])) (σ : Sto) (x3 : Int32) (x4 : Int32) (x5 : Int32), p_Mo_evaluate_b96 x1 x2 k15 σ x3 x4 x5 = some (rr, ss) → ∀ (H : Heap) (locs : List Loc), va_P K.1 vwCl (wY K A σ) H → va_D (YF A) (wY K A σ) → va_S (YF A) s.heap H locs → ∀ ls : Array Slot, lv_has ls 7 [(0, .ref (A 0)), (2, .int x2), (3, .int x3), (4, .int x4), (5, .int x5)] → W p l e (headSpec w_Mo_evaluate r_Mo_evaluate).room s m args below meth c H locs 0 0 Q (F0 m 96 ls []) := by
    intro k15 hk15 σ x3 x4 x5 h H locs hP hD hS ls hl
    rw [p_Mo_evaluate_b96] at h
    refine lv_iload hx hb d_Mo_evaluate_96 (lv_at hl 4 rfl) ?_
    refine lv_iconst (v := 1) hx hb d_Mo_evaluate_98 (by decide) ?_
    refine lv_icmp_ne (tgt := 128) hx hb d_Mo_evaluate_99 (by decide) (fun c_99 => ?_) (fun c_99 => ?_)
    · replace h := itf c_99 h
      exact J_128 _ hk15 _ _ _ _ h _ _ hP hD hS ls (lv_sub hl [0, 1, 2, 3, 4] rfl)
    · replace h := itp c_99 h
      refine lv_aload_n hx hb d_Mo_evaluate_102 rfl (lv_at hl 0 rfl) ?_
      refine gf_Mo_29 hx hb hg hown hK hP d_Mo_evaluate_103 ?_
      refine lv_iload_n hx hb d_Mo_evaluate_106 rfl (lv_at hl 2 rfl) ?_
      obtain ⟨i_107, h⟩ := itn h
      refine Yra_7 hx hb hK hP i_107 d_Mo_evaluate_107 ?_
      refine lv_bipush (v := 10) hx hb d_Mo_evaluate_108 (by decide) ?_
      refine lv_icmp_eq (tgt := 124) hx hb d_Mo_evaluate_110 (by decide) (fun c_110 => ?_) (fun c_110 => ?_)
      · replace h := itp c_110 h
        exact J_124 _ hk15 _ _ _ _ h _ _ hP hD hS ls (lv_sub hl [0, 1, 2, 3, 4] rfl)
      · replace h := itf c_110 h
        refine lv_aload_n hx hb d_Mo_evaluate_113 rfl (lv_at hl 0 rfl) ?_
        refine gf_Mo_29 hx hb hg hown hK hP d_Mo_evaluate_114 ?_
        refine lv_iload_n hx hb d_Mo_evaluate_117 rfl (lv_at hl 2 rfl) ?_
        obtain ⟨i_118, h⟩ := itn h
        refine Yra_7 hx hb hK hP i_118 d_Mo_evaluate_118 ?_
        refine lv_bipush (v := 12) hx hb d_Mo_evaluate_119 (by decide) ?_
        refine lv_icmp_ne (tgt := 128) hx hb d_Mo_evaluate_121 (by decide) (fun c_121 => ?_) (fun c_121 => ?_)
        · replace h := itf c_121 h
          exact J_128 _ hk15 _ _ _ _ h _ _ hP hD hS ls (lv_sub hl [0, 1, 2, 3, 4] rfl)
        · replace h := itp c_121 h
          exact J_124 _ hk15 _ _ _ _ h _ _ hP hD hS ls (lv_sub hl [0, 1, 2, 3, 4] rfl)
  have J_66 : ∀ (k15 : Sto → Int32 → Int32 → Option (Int32 × Sto)) (hk15 : ∀ (σ : Sto) (x3 : Int32) (x4 : Int32), k15 σ x3 x4 = some (rr, ss) → ∀ (H : Heap) (locs : List Loc), va_P K.1 vwCl (wY K A σ) H → va_D (YF A) (wY K A σ) → va_S (YF A) s.heap H locs → ∀ ls : Array Slot, lv_has ls 7 [(0, .ref (A 0)), (2, .int x2), (3, .int x3), (4, .int x4)] → W p l e (headSpec w_Mo_evaluate r_Mo_evaluate).room s m args below meth c H locs 0 0 Q (F0 m 15 ls [])) (σ : Sto) (x3 : Int32) (x4 : Int32) (x5 : Int32), p_Mo_evaluate_b66 x1 x2 k15 σ x3 x4 x5 = some (rr, ss) → ∀ (H : Heap) (locs : List Loc), va_P K.1 vwCl (wY K A σ) H → va_D (YF A) (wY K A σ) → va_S (YF A) s.heap H locs → ∀ ls : Array Slot, lv_has ls 7 [(0, .ref (A 0)), (2, .int x2), (3, .int x3), (4, .int x4), (5, .int x5)] → W p l e (headSpec w_Mo_evaluate r_Mo_evaluate).room s m args below meth c H locs 0 0 Q (F0 m 66 ls []) := by
    intro k15 hk15 σ x3 x4 x5 h H locs hP hD hS ls hl
    rw [p_Mo_evaluate_b66] at h
    refine lv_iload hx hb d_Mo_evaluate_66 (lv_at hl 4 rfl) ?_
    refine lv_iconst (v := 1) hx hb d_Mo_evaluate_68 (by decide) ?_
    refine lv_icmp_ne (tgt := 96) hx hb d_Mo_evaluate_69 (by decide) (fun c_69 => ?_) (fun c_69 => ?_)
    · replace h := itf c_69 h
      exact J_96 _ hk15 _ _ _ _ h _ _ hP hD hS ls (lv_sub hl [0, 1, 2, 3, 4] rfl)
    · replace h := itp c_69 h
      refine lv_aload_n hx hb d_Mo_evaluate_72 rfl (lv_at hl 0 rfl) ?_
      refine gf_Mo_29 hx hb hg hown hK hP d_Mo_evaluate_73 ?_
      refine lv_iload_n hx hb d_Mo_evaluate_76 rfl (lv_at hl 2 rfl) ?_
      obtain ⟨i_77, h⟩ := itn h
      refine Yra_7 hx hb hK hP i_77 d_Mo_evaluate_77 ?_
      refine lv_iconst (v := 4) hx hb d_Mo_evaluate_78 (by decide) ?_
      refine lv_icmp_ne (tgt := 96) hx hb d_Mo_evaluate_79 (by decide) (fun c_79 => ?_) (fun c_79 => ?_)
      · replace h := itf c_79 h
        exact J_96 _ hk15 _ _ _ _ h _ _ hP hD hS ls (lv_sub hl [0, 1, 2, 3, 4] rfl)
      · replace h := itp c_79 h
        refine lv_aload_n hx hb d_Mo_evaluate_82 rfl (lv_at hl 0 rfl) ?_
        refine gf_Mo_65 hx hb hg hown hK hP d_Mo_evaluate_83 ?_
        refine lv_aload_n hx hb d_Mo_evaluate_86 rfl (lv_at hl 0 rfl) ?_
        refine gf_Mo_148 hx hb hg hown hK hP d_Mo_evaluate_87 ?_
        refine lv_aload_n hx hb d_Mo_evaluate_90 rfl (lv_at hl 0 rfl) ?_
        refine lv_iload_n hx hb d_Mo_evaluate_91 rfl (lv_at hl 2 rfl) ?_
        obtain ⟨v_92, e_92, h⟩ := bd1_some h
        refine Y_calli (va_runV (As := [.int x3]) (rest := [.int (σ.1 7), .ref (A 19)]) ⟨hx, hb, hml, hown, hts⟩ (c_Mo_classOf l K A e_92) (cwV 1 hts (gd_V wd_1120 wd_1122 wp_62 wd_10 wd_1123) rfl rfl rfl dv_Mo_classOf ⟨Nat.le_of_ble_eq_true rfl, Nat.le_of_ble_eq_true rfl⟩) (Y_pv_0 hK hP hD) rfl rfl hl.1 rfl (lv_room (Nat.le_of_ble_eq_true rfl)) d_Mo_evaluate_92 ⟨Nat.le_of_ble_eq_true rfl, Nat.le_of_ble_eq_true rfl⟩) hS (fun H locs hP hD hS => ?_)
        obtain ⟨i_95, h⟩ := itn h
        refine Ywa_19 hx hb hK hP hD hS i_95 d_Mo_evaluate_95 (fun H locs hP hD hS => ?_)
        exact J_96 _ hk15 _ _ _ _ h _ _ hP hD hS ls (lv_sub hl [0, 1, 2, 3, 4] rfl)
  have J_44 : ∀ (k15 : Sto → Int32 → Int32 → Option (Int32 × Sto)) (hk15 : ∀ (σ : Sto) (x3 : Int32) (x4 : Int32), k15 σ x3 x4 = some (rr, ss) → ∀ (H : Heap) (locs : List Loc), va_P K.1 vwCl (wY K A σ) H → va_D (YF A) (wY K A σ) → va_S (YF A) s.heap H locs → ∀ ls : Array Slot, lv_has ls 7 [(0, .ref (A 0)), (2, .int x2), (3, .int x3), (4, .int x4)] → W p l e (headSpec w_Mo_evaluate r_Mo_evaluate).room s m args below meth c H locs 0 0 Q (F0 m 15 ls [])) (σ : Sto) (x3 : Int32) (x4 : Int32) (x5 : Int32), p_Mo_evaluate_b44 x1 x2 k15 σ x3 x4 x5 = some (rr, ss) → ∀ (H : Heap) (locs : List Loc), va_P K.1 vwCl (wY K A σ) H → va_D (YF A) (wY K A σ) → va_S (YF A) s.heap H locs → ∀ ls : Array Slot, lv_has ls 7 [(0, .ref (A 0)), (2, .int x2), (3, .int x3), (4, .int x4), (5, .int x5)] → W p l e (headSpec w_Mo_evaluate r_Mo_evaluate).room s m args below meth c H locs 0 0 Q (F0 m 44 ls []) := by
    intro k15 hk15 σ x3 x4 x5 h H locs hP hD hS ls hl
    rw [p_Mo_evaluate_b44] at h
    refine lv_iload hx hb d_Mo_evaluate_44 (lv_at hl 4 rfl) ?_
    refine lv_bipush (v := 8) hx hb d_Mo_evaluate_46 (by decide) ?_
    refine lv_icmp_ne (tgt := 66) hx hb d_Mo_evaluate_48 (by decide) (fun c_48 => ?_) (fun c_48 => ?_)
    · replace h := itf c_48 h
      exact J_66 _ hk15 _ _ _ _ h _ _ hP hD hS ls (lv_sub hl [0, 1, 2, 3, 4] rfl)
    · replace h := itp c_48 h
      refine lv_aload_n hx hb d_Mo_evaluate_51 rfl (lv_at hl 0 rfl) ?_
      refine gf_Mo_65 hx hb hg hown hK hP d_Mo_evaluate_52 ?_
      refine lv_aload_n hx hb d_Mo_evaluate_55 rfl (lv_at hl 0 rfl) ?_
      refine gf_Mo_148 hx hb hg hown hK hP d_Mo_evaluate_56 ?_
      refine lv_aload_n hx hb d_Mo_evaluate_59 rfl (lv_at hl 0 rfl) ?_
      refine gf_Mo_32 hx hb hg hown hK hP d_Mo_evaluate_60 ?_
      refine lv_iload_n hx hb d_Mo_evaluate_63 rfl (lv_at hl 1 rfl) ?_
      obtain ⟨i_64, h⟩ := itn h
      refine Yra_8 hx hb hK hP i_64 d_Mo_evaluate_64 ?_
      obtain ⟨i_65, h⟩ := itn h
      refine Ywa_19 hx hb hK hP hD hS i_65 d_Mo_evaluate_65 (fun H locs hP hD hS => ?_)
      exact J_66 _ hk15 _ _ _ _ h _ _ hP hD hS ls (lv_sub hl [0, 1, 2, 3, 4] rfl)
  have L_15 : ∀ (n : Nat) (σ : Sto) (x3 : Int32) (x4 : Int32), p_Mo_evaluate_L15 x1 x2 n σ x3 x4 = some (rr, ss) → ∀ (H : Heap) (locs : List Loc), va_P K.1 vwCl (wY K A σ) H → va_D (YF A) (wY K A σ) → va_S (YF A) s.heap H locs → ∀ ls : Array Slot, lv_has ls 7 [(0, .ref (A 0)), (2, .int x2), (3, .int x3), (4, .int x4)] → W p l e (headSpec w_Mo_evaluate r_Mo_evaluate).room s m args below meth c H locs 0 0 Q (F0 m 15 ls []) := by
    intro n
    induction n with
    | zero => intro _ _ _ h; cases h
    | succ n ih =>
      intro σ x3 x4 h H locs hP hD hS ls hl
      rw [p_Mo_evaluate_L15] at h
      refine lv_iload hx hb d_Mo_evaluate_15 (lv_at hl 3 rfl) ?_
      refine lv_if_eq (tgt := 200) hx hb d_Mo_evaluate_17 (by decide) (fun c_17 => ?_) (fun c_17 => ?_)
      · replace h := itp c_17 h
        refine lv_aload_n hx hb d_Mo_evaluate_200 rfl (lv_at hl 0 rfl) ?_
        refine lv_iload_n hx hb d_Mo_evaluate_201 rfl (lv_at hl 2 rfl) ?_
        refine pf_Mo_253 hx hb hg hown hK hP hD hS d_Mo_evaluate_202 (fun H locs hP hD hS => ?_)
        refine lv_aload_n hx hb d_Mo_evaluate_205 rfl (lv_at hl 0 rfl) ?_
        obtain ⟨v_206, σ_206, e_206, h⟩ := bd2_some h
        refine Y_calli (va_runV (As := []) (rest := []) ⟨hx, hb, hml, hown, hts⟩ (c_Mo_over l K A e_206) (cwV 0 hts (gd_V wd_1207 wd_1209 wp_83 wd_10 wd_1210) rfl rfl rfl dv_Mo_over ⟨Nat.le_of_ble_eq_true rfl, Nat.le_of_ble_eq_true rfl⟩) (Y_pv_0 hK hP hD) rfl rfl hl.1 rfl (lv_room (Nat.le_of_ble_eq_true rfl)) d_Mo_evaluate_206 ⟨Nat.le_of_ble_eq_true rfl, Nat.le_of_ble_eq_true rfl⟩) hS (fun H locs hP hD hS => ?_)
        exact hRet _ _ h _ _ hP hD hS _ _ d_Mo_evaluate_209
      · replace h := itf c_17 h
        refine lv_aload_n hx hb d_Mo_evaluate_20 rfl (lv_at hl 0 rfl) ?_
        refine gf_Mo_16 hx hb hg hown hK hP d_Mo_evaluate_21 ?_
        refine lv_iload_n hx hb d_Mo_evaluate_24 rfl (lv_at hl 2 rfl) ?_
        obtain ⟨i_25, h⟩ := itn h
        refine Yra_3 hx hb hK hP i_25 d_Mo_evaluate_25 ?_
        refine lv_istore (lv' := [(5, .int (σ.2.1 3 x3.toNatClampNeg)), (0, .ref (A 0)), (2, .int x2), (3, .int x3), (4, .int x4)]) hx hb d_Mo_evaluate_26 hl (by decide) rfl (fun ls hl => ?_)
        refine lv_iload hx hb d_Mo_evaluate_28 (lv_at hl 0 rfl) ?_
        refine lv_iconst (v := 2) hx hb d_Mo_evaluate_30 (by decide) ?_
        refine lv_icmp_ne (tgt := 44) hx hb d_Mo_evaluate_31 (by decide) (fun c_31 => ?_) (fun c_31 => ?_)
        · replace h := itf c_31 h
          exact J_44 _ ih _ _ _ _ h _ _ hP hD hS ls (lv_sub hl [1, 2, 3, 4, 0] rfl)
        · replace h := itp c_31 h
          refine lv_aload_n hx hb d_Mo_evaluate_34 rfl (lv_at hl 1 rfl) ?_
          refine gf_Mo_65 hx hb hg hown hK hP d_Mo_evaluate_35 ?_
          refine lv_aload_n hx hb d_Mo_evaluate_38 rfl (lv_at hl 1 rfl) ?_
          refine gf_Mo_148 hx hb hg hown hK hP d_Mo_evaluate_39 ?_
          refine lv_iconst (v := (-1)) hx hb d_Mo_evaluate_42 (by decide) ?_
          obtain ⟨i_43, h⟩ := itn h
          refine Ywa_19 hx hb hK hP hD hS i_43 d_Mo_evaluate_43 (fun H locs hP hD hS => ?_)
          exact J_44 _ ih _ _ _ _ h _ _ hP hD hS ls (lv_sub hl [1, 2, 3, 4, 0] rfl)
  refine lv_aload_n hx hb d_Mo_evaluate_0 rfl (lv_at hl 0 rfl) ?_
  refine lv_iconst (v := 0) hx hb d_Mo_evaluate_1 (by decide) ?_
  refine pf_Mo_148 hx hb hg hown hK hP hD hS d_Mo_evaluate_2 (fun H locs hP hD hS => ?_)
  refine lv_aload_n hx hb d_Mo_evaluate_5 rfl (lv_at hl 0 rfl) ?_
  refine lv_iload_n hx hb d_Mo_evaluate_6 rfl (lv_at hl 1 rfl) ?_
  obtain ⟨σ_7, e_7, h⟩ := bd1_some h
  refine Y_callv (va_runV (As := [.int x1]) (rest := []) ⟨hx, hb, hml, hown, hts⟩ (c_Mo_start l K A e_7) (cwV 1 hts (gd_V wd_1155 wd_1157 wp_70 wd_10 wd_1158) rfl rfl rfl dv_Mo_start ⟨Nat.le_of_ble_eq_true rfl, Nat.le_of_ble_eq_true rfl⟩) (Y_pv_0 hK hP hD) rfl rfl hl.1 rfl (lv_room (Nat.le_of_ble_eq_true rfl)) d_Mo_evaluate_7 ⟨Nat.le_of_ble_eq_true rfl, Nat.le_of_ble_eq_true rfl⟩) hS (fun H locs hP hD hS => ?_)
  refine lv_iload_n hx hb d_Mo_evaluate_10 rfl (lv_at hl 1 rfl) ?_
  refine lv_istore_n (lv' := [(3, .int x1), (0, .ref (A 0)), (1, .int x1), (2, .int x2)]) hx hb d_Mo_evaluate_11 rfl hl (by decide) rfl (fun ls hl => ?_)
  refine lv_iconst (v := 1) hx hb d_Mo_evaluate_12 (by decide) ?_
  refine lv_istore (lv' := [(4, .int 1), (3, .int x1), (0, .ref (A 0)), (1, .int x1), (2, .int x2)]) hx hb d_Mo_evaluate_13 hl (by decide) rfl (fun ls hl => ?_)
  exact L_15  FU _ _ _ h _ _ hP hD hS ls (lv_sub hl [2, 4, 1, 0] rfl)
def p_Mo_judgeStatement_b162 (x1 : Int32) (σ : Sto) (x2 : Int32) : Option Sto :=
  bd2 (p_Mo_evaluate σ ((σ.1 8) + 1) x1) fun v_175 σ_175 =>
    bd1 (p_Mo_should σ_175 v_175 x2 ((σ.1 8) + 1)) fun σ_181 =>
    some σ_181
def p_Mo_judgeStatement_b150 (x1 : Int32) (σ : Sto) (x2 : Int32) (s0 : Int32) : Option Sto :=
  (if s0 = 0 then
      bd1 (p_Mo_note σ x1 10) fun σ_159 =>
      p_Mo_judgeStatement_b162 x1 σ_159 x2
    else
      p_Mo_judgeStatement_b162 x1 σ x2)
def p_Mo_judgeStatement_b149 (x1 : Int32) (σ : Sto) (x2 : Int32) : Option Sto :=
  p_Mo_judgeStatement_b150 x1 σ x2 0
def p_Mo_judgeStatement_b145 (x1 : Int32) (σ : Sto) (x2 : Int32) : Option Sto :=
  p_Mo_judgeStatement_b150 x1 σ x2 1
def p_Mo_judgeStatement (σ : Sto) (x1 : Int32) : Option Sto :=
  if inR x1 124 then (if (σ.2.1 10 x1.toNatClampNeg) = 1 then
      bd2 (p_Mo_evaluate σ (x1 + 3) x1) fun v_16 σ_16 =>
      bd1 (p_Mo_declared σ_16 (x1 + 1)) fun v_23 =>
      bd1 (p_Mo_should σ_16 v_16 v_23 (x1 + 3)) fun σ_29 =>
      some σ_29
    else
      if inR x1 124 then (if (σ.2.1 10 x1.toNatClampNeg) = 2 then
        bd2 (p_Mo_evaluate σ (x1 + 1) x1) fun v_51 σ_51 =>
        if inR x1 124 then bd1 (p_Mo_declared σ_51 (σ_51.2.1 9 x1.toNatClampNeg)) fun v_61 =>
        bd1 (p_Mo_should σ_51 v_51 v_61 (x1 + 1)) fun σ_67 =>
        some σ_67 else none
      else
        bd2 (p_Mo_evaluate σ x1 x1) fun v_76 σ_76 =>
        if inR (σ_76.1 8) 124 then (if (σ_76.2.1 3 ((σ_76.1 8).toNatClampNeg)) = 61 then
          if inR (0 : Int32) 10 then (if (σ_76.2.1 20 ((0 : Int32).toNatClampNeg)) = 0 then
            if inR ((σ_76.1 8) - 1) 124 then (if (σ_76.2.1 3 (((σ_76.1 8) - 1).toNatClampNeg)) = 1 then
              (if ((σ_76.1 8) - 1) = x1 then
                p_Mo_judgeStatement_b145 x1 σ_76 v_76
              else
                if inR ((σ_76.1 8) - 2) 124 then (if (σ_76.2.1 3 (((σ_76.1 8) - 2).toNatClampNeg)) = 46 then
                  p_Mo_judgeStatement_b145 x1 σ_76 v_76
                else
                  p_Mo_judgeStatement_b149 x1 σ_76 v_76) else none)
            else
              p_Mo_judgeStatement_b149 x1 σ_76 v_76) else none
          else
            p_Mo_judgeStatement_b149 x1 σ_76 v_76) else none
        else
          some σ_76) else none) else none) else none
abbrev w_Mo_judgeStatement : List Cond := Cond.code y_Mo_judgeStatement b_Mo_judgeStatement 5 none :: Tg
abbrev r_Mo_judgeStatement : Room := { frames := 10, cells := 0, slots := 0, locals := 224 }
theorem dv_Mo_judgeStatement : y_Mo_judgeStatement.cls = "LanguageServerModel" ∧ y_Mo_judgeStatement.cls ≠ "java/lang/invoke/MethodHandle" ∧ y_Mo_judgeStatement.cls ≠ "java/lang/invoke/VarHandle" ∧ (parseMethodDescriptor y_Mo_judgeStatement.desc).map (fun d => d.parameters.length) = some 1 := by decide +kernel
set_option maxHeartbeats 4000000 in
set_option maxRecDepth 100000 in
theorem c_Mo_judgeStatement (l : Launch) (K : Kst) (A : Nat → Nat) {σ : Sto} {x1 : Int32} {ss : Sto} (h : p_Mo_judgeStatement σ x1 = some ss) : Met l y_Mo_judgeStatement w_Mo_judgeStatement r_Mo_judgeStatement (va_Pc [.ref (A 0), .int x1] (YB K A σ)) (YQv K A ss) 0 0 (YF A) := by
  refine Met.ofW (cc := b_Mo_judgeStatement) (maxL := 5) (ret := none) (by decide) rfl ?_
  intro p e s m args below meth c s₁ B hml hv
  obtain ⟨rfl, hP, hK, hD⟩ := hv
  have hx := B.exec
  have hb := B.bytes
  have hr := B.returns
  have hts := atoms_spec (ws := w_Mo_judgeStatement) B.pre
  have hg : ∀ w ∈ Tg, w.before _ s = true := fun w q => hts w (List.mem_cons_of_mem _ q)
  have hown : s.vm.findClass "LanguageServerModel" = some m.cls := findClass_of_methodNamed B.named
  have hlocks := B.notSynchronized
  have hS : va_S (YF A) s.heap s.heap [] := va_S.rf
  have hl := lv_entry ([.ref (A 0), .int x1]) (n := 5) (Nat.le_of_ble_eq_true rfl)
  rw [lg_entry_eq]
  generalize (lg_sl ([.ref (A 0), .int x1]) ++ List.replicate (5 - (lg_sl ([.ref (A 0), .int x1])).length) Slot.unset).toArray = ls at hl ⊢
  have hl : lv_has ls 5 [(0, .ref (A 0)), (1, .int x1)] := hl
  generalize hargs : ([.ref (A 0), .int x1] : List Value).toArray = args at hg hts ⊢
  obtain ⟨Q, hQ⟩ : ∃ Q, Q = MQ below (YQv K A ss) args s 0 0 (YF A) := ⟨_, rfl⟩
  rw [← hQ]
  have hRet : ∀ (σ : Sto), some σ = some ss → ∀ (H : Heap) (locs : List Loc), va_P K.1 vwCl (wY K A σ) H → va_D (YF A) (wY K A σ) → va_S (YF A) s.heap H locs → ∀ (pc : Nat) (ls : Array Slot), decode b_Mo_judgeStatement pc = .ok (.return_, 1) → W p l e (headSpec w_Mo_judgeStatement r_Mo_judgeStatement).room s m args below meth c H locs 0 0 Q (F0 m pc ls []) := by
    intro σ h H locs hP hD hS pc ls hd
    cases h
    subst hQ
    exact W.vret hx hb hr (fun t ht hW => ⟨⟨(), rfl, trivial, by rw [ht]; exact hP, RK.warm hW hK, hD⟩, hS.F ht⟩) hS.2.2 hd
  clear hQ
  unfold p_Mo_judgeStatement at h
  have J_162 : ∀ (σ : Sto) (x2 : Int32), p_Mo_judgeStatement_b162 x1 σ x2 = some ss → ∀ (H : Heap) (locs : List Loc), va_P K.1 vwCl (wY K A σ) H → va_D (YF A) (wY K A σ) → va_S (YF A) s.heap H locs → ∀ ls : Array Slot, lv_has ls 5 [(0, .ref (A 0)), (1, .int x1), (2, .int x2)] → W p l e (headSpec w_Mo_judgeStatement r_Mo_judgeStatement).room s m args below meth c H locs 0 0 Q (F0 m 162 ls []) := by
    intro  σ x2 h H locs hP hD hS ls hl
    rw [p_Mo_judgeStatement_b162] at h
    refine lv_aload_n hx hb d_Mo_judgeStatement_162 rfl (lv_at hl 0 rfl) ?_
    refine gf_Mo_253 hx hb hg hown hK hP d_Mo_judgeStatement_163 ?_
    refine lv_iconst (v := 1) hx hb d_Mo_judgeStatement_166 (by decide) ?_
    refine lv_iadd hx hb d_Mo_judgeStatement_167 ?_
    refine lv_istore (lv' := [(4, .int ((σ.1 8) + 1)), (0, .ref (A 0)), (1, .int x1), (2, .int x2)]) hx hb d_Mo_judgeStatement_168 hl (by decide) rfl (fun ls hl => ?_)
    refine lv_aload_n hx hb d_Mo_judgeStatement_170 rfl (lv_at hl 1 rfl) ?_
    refine lv_aload_n hx hb d_Mo_judgeStatement_171 rfl (lv_at hl 1 rfl) ?_
    refine lv_iload hx hb d_Mo_judgeStatement_172 (lv_at hl 0 rfl) ?_
    refine lv_iload_n hx hb d_Mo_judgeStatement_174 rfl (lv_at hl 2 rfl) ?_
    obtain ⟨v_175, σ_175, e_175, h⟩ := bd2_some h
    refine Y_calli (va_runV (As := [.int ((σ.1 8) + 1), .int x1]) (rest := [.ref (A 0)]) ⟨hx, hb, hml, hown, hts⟩ (c_Mo_evaluate l K A e_175) (cwV 2 hts (gd_V wd_1151 wd_1153 wp_69 wd_10 wd_1154) rfl rfl rfl dv_Mo_evaluate ⟨Nat.le_of_ble_eq_true rfl, Nat.le_of_ble_eq_true rfl⟩) (Y_pv_0 hK hP hD) rfl rfl hl.1 rfl (lv_room (Nat.le_of_ble_eq_true rfl)) d_Mo_judgeStatement_175 ⟨Nat.le_of_ble_eq_true rfl, Nat.le_of_ble_eq_true rfl⟩) hS (fun H locs hP hD hS => ?_)
    refine lv_iload_n hx hb d_Mo_judgeStatement_178 rfl (lv_at hl 3 rfl) ?_
    refine lv_iload hx hb d_Mo_judgeStatement_179 (lv_at hl 0 rfl) ?_
    obtain ⟨σ_181, e_181, h⟩ := bd1_some h
    refine Y_callv (va_runV (As := [.int v_175, .int x2, .int ((σ.1 8) + 1)]) (rest := []) ⟨hx, hb, hml, hown, hts⟩ (c_Mo_should l K A e_181) (cwV 3 hts (gd_V wd_1195 wd_1197 wp_80 wd_10 wd_1198) rfl rfl rfl dv_Mo_should ⟨Nat.le_of_ble_eq_true rfl, Nat.le_of_ble_eq_true rfl⟩) (Y_pv_0 hK hP hD) rfl rfl hl.1 rfl (lv_room (Nat.le_of_ble_eq_true rfl)) d_Mo_judgeStatement_181 ⟨Nat.le_of_ble_eq_true rfl, Nat.le_of_ble_eq_true rfl⟩) hS (fun H locs hP hD hS => ?_)
    exact hRet _ h _ _ hP hD hS _ _ d_Mo_judgeStatement_184
  have J_150 : ∀ (σ : Sto) (x2 : Int32) (s0 : Int32), p_Mo_judgeStatement_b150 x1 σ x2 s0 = some ss → ∀ (H : Heap) (locs : List Loc), va_P K.1 vwCl (wY K A σ) H → va_D (YF A) (wY K A σ) → va_S (YF A) s.heap H locs → ∀ ls : Array Slot, lv_has ls 5 [(0, .ref (A 0)), (1, .int x1), (2, .int x2)] → W p l e (headSpec w_Mo_judgeStatement r_Mo_judgeStatement).room s m args below meth c H locs 0 0 Q (F0 m 150 ls [.int s0]) := by
    intro  σ x2 s0 h H locs hP hD hS ls hl
    rw [p_Mo_judgeStatement_b150] at h
    refine lv_istore_n (lv' := [(3, .int s0), (0, .ref (A 0)), (1, .int x1), (2, .int x2)]) hx hb d_Mo_judgeStatement_150 rfl hl (by decide) rfl (fun ls hl => ?_)
    refine lv_iload_n hx hb d_Mo_judgeStatement_151 rfl (lv_at hl 0 rfl) ?_
    refine lv_if_ne (tgt := 162) hx hb d_Mo_judgeStatement_152 (by decide) (fun c_152 => ?_) (fun c_152 => ?_)
    · replace h := itf c_152 h
      exact J_162  _ _ h _ _ hP hD hS ls (lv_sub hl [1, 2, 3] rfl)
    · replace h := itp c_152 h
      refine lv_aload_n hx hb d_Mo_judgeStatement_155 rfl (lv_at hl 1 rfl) ?_
      refine lv_iload_n hx hb d_Mo_judgeStatement_156 rfl (lv_at hl 2 rfl) ?_
      refine lv_bipush (v := 10) hx hb d_Mo_judgeStatement_157 (by decide) ?_
      obtain ⟨σ_159, e_159, h⟩ := bd1_some h
      refine Y_callv (va_runV (As := [.int x1, .int 10]) (rest := []) ⟨hx, hb, hml, hown, hts⟩ (c_Mo_note l K A e_159) (cwV 2 hts (gd_V wd_1124 wd_1126 wp_63 wd_10 wd_1127) rfl rfl rfl dv_Mo_note ⟨Nat.le_of_ble_eq_true rfl, Nat.le_of_ble_eq_true rfl⟩) (Y_pv_0 hK hP hD) rfl rfl hl.1 rfl (lv_room (Nat.le_of_ble_eq_true rfl)) d_Mo_judgeStatement_159 ⟨Nat.le_of_ble_eq_true rfl, Nat.le_of_ble_eq_true rfl⟩) hS (fun H locs hP hD hS => ?_)
      exact J_162  _ _ h _ _ hP hD hS ls (lv_sub hl [1, 2, 3] rfl)
  have J_149 : ∀ (σ : Sto) (x2 : Int32), p_Mo_judgeStatement_b149 x1 σ x2 = some ss → ∀ (H : Heap) (locs : List Loc), va_P K.1 vwCl (wY K A σ) H → va_D (YF A) (wY K A σ) → va_S (YF A) s.heap H locs → ∀ ls : Array Slot, lv_has ls 5 [(0, .ref (A 0)), (1, .int x1), (2, .int x2)] → W p l e (headSpec w_Mo_judgeStatement r_Mo_judgeStatement).room s m args below meth c H locs 0 0 Q (F0 m 149 ls []) := by
    intro  σ x2 h H locs hP hD hS ls hl
    rw [p_Mo_judgeStatement_b149] at h
    refine lv_iconst (v := 0) hx hb d_Mo_judgeStatement_149 (by decide) ?_
    exact J_150  _ _ _ h _ _ hP hD hS ls (lv_sub hl [0, 1, 2] rfl)
  have J_145 : ∀ (σ : Sto) (x2 : Int32), p_Mo_judgeStatement_b145 x1 σ x2 = some ss → ∀ (H : Heap) (locs : List Loc), va_P K.1 vwCl (wY K A σ) H → va_D (YF A) (wY K A σ) → va_S (YF A) s.heap H locs → ∀ ls : Array Slot, lv_has ls 5 [(0, .ref (A 0)), (1, .int x1), (2, .int x2)] → W p l e (headSpec w_Mo_judgeStatement r_Mo_judgeStatement).room s m args below meth c H locs 0 0 Q (F0 m 145 ls []) := by
    intro  σ x2 h H locs hP hD hS ls hl
    rw [p_Mo_judgeStatement_b145] at h
    refine lv_iconst (v := 1) hx hb d_Mo_judgeStatement_145 (by decide) ?_
    refine lv_goto (tgt := 150) hx hb d_Mo_judgeStatement_146 (by decide) ?_
    exact J_150  _ _ _ h _ _ hP hD hS ls (lv_sub hl [0, 1, 2] rfl)
  refine lv_aload_n hx hb d_Mo_judgeStatement_0 rfl (lv_at hl 0 rfl) ?_
  refine gf_Mo_38 hx hb hg hown hK hP d_Mo_judgeStatement_1 ?_
  refine lv_iload_n hx hb d_Mo_judgeStatement_4 rfl (lv_at hl 1 rfl) ?_
  obtain ⟨i_5, h⟩ := itn h
  refine Yra_10 hx hb hK hP i_5 d_Mo_judgeStatement_5 ?_
  refine lv_iconst (v := 1) hx hb d_Mo_judgeStatement_6 (by decide) ?_
  refine lv_icmp_ne (tgt := 35) hx hb d_Mo_judgeStatement_7 (by decide) (fun c_7 => ?_) (fun c_7 => ?_)
  · replace h := itf c_7 h
    refine lv_aload_n hx hb d_Mo_judgeStatement_35 rfl (lv_at hl 0 rfl) ?_
    refine gf_Mo_38 hx hb hg hown hK hP d_Mo_judgeStatement_36 ?_
    refine lv_iload_n hx hb d_Mo_judgeStatement_39 rfl (lv_at hl 1 rfl) ?_
    obtain ⟨i_40, h⟩ := itn h
    refine Yra_10 hx hb hK hP i_40 d_Mo_judgeStatement_40 ?_
    refine lv_iconst (v := 2) hx hb d_Mo_judgeStatement_41 (by decide) ?_
    refine lv_icmp_ne (tgt := 73) hx hb d_Mo_judgeStatement_42 (by decide) (fun c_42 => ?_) (fun c_42 => ?_)
    · replace h := itf c_42 h
      refine lv_aload_n hx hb d_Mo_judgeStatement_73 rfl (lv_at hl 0 rfl) ?_
      refine lv_iload_n hx hb d_Mo_judgeStatement_74 rfl (lv_at hl 1 rfl) ?_
      refine lv_iload_n hx hb d_Mo_judgeStatement_75 rfl (lv_at hl 1 rfl) ?_
      obtain ⟨v_76, σ_76, e_76, h⟩ := bd2_some h
      refine Y_calli (va_runV (As := [.int x1, .int x1]) (rest := []) ⟨hx, hb, hml, hown, hts⟩ (c_Mo_evaluate l K A e_76) (cwV 2 hts (gd_V wd_1151 wd_1153 wp_69 wd_10 wd_1154) rfl rfl rfl dv_Mo_evaluate ⟨Nat.le_of_ble_eq_true rfl, Nat.le_of_ble_eq_true rfl⟩) (Y_pv_0 hK hP hD) rfl rfl hl.1 rfl (lv_room (Nat.le_of_ble_eq_true rfl)) d_Mo_judgeStatement_76 ⟨Nat.le_of_ble_eq_true rfl, Nat.le_of_ble_eq_true rfl⟩) hS (fun H locs hP hD hS => ?_)
      refine lv_istore_n (lv' := [(2, .int v_76), (0, .ref (A 0)), (1, .int x1)]) hx hb d_Mo_judgeStatement_79 rfl hl (by decide) rfl (fun ls hl => ?_)
      refine lv_aload_n hx hb d_Mo_judgeStatement_80 rfl (lv_at hl 1 rfl) ?_
      refine gf_Mo_16 hx hb hg hown hK hP d_Mo_judgeStatement_81 ?_
      refine lv_aload_n hx hb d_Mo_judgeStatement_84 rfl (lv_at hl 1 rfl) ?_
      refine gf_Mo_253 hx hb hg hown hK hP d_Mo_judgeStatement_85 ?_
      obtain ⟨i_88, h⟩ := itn h
      refine Yra_3 hx hb hK hP i_88 d_Mo_judgeStatement_88 ?_
      refine lv_bipush (v := 61) hx hb d_Mo_judgeStatement_89 (by decide) ?_
      refine lv_icmp_eq (tgt := 95) hx hb d_Mo_judgeStatement_91 (by decide) (fun c_91 => ?_) (fun c_91 => ?_)
      · replace h := itp c_91 h
        refine lv_aload_n hx hb d_Mo_judgeStatement_95 rfl (lv_at hl 1 rfl) ?_
        refine gf_Mo_68 hx hb hg hown hK hP d_Mo_judgeStatement_96 ?_
        refine lv_iconst (v := 0) hx hb d_Mo_judgeStatement_99 (by decide) ?_
        obtain ⟨i_100, h⟩ := itn h
        refine Yra_20 hx hb hK hP i_100 d_Mo_judgeStatement_100 ?_
        refine lv_if_ne (tgt := 149) hx hb d_Mo_judgeStatement_101 (by decide) (fun c_101 => ?_) (fun c_101 => ?_)
        · replace h := itf c_101 h
          exact J_149  _ _ h _ _ hP hD hS ls (lv_sub hl [1, 2, 0] rfl)
        · replace h := itp c_101 h
          refine lv_aload_n hx hb d_Mo_judgeStatement_104 rfl (lv_at hl 1 rfl) ?_
          refine gf_Mo_16 hx hb hg hown hK hP d_Mo_judgeStatement_105 ?_
          refine lv_aload_n hx hb d_Mo_judgeStatement_108 rfl (lv_at hl 1 rfl) ?_
          refine gf_Mo_253 hx hb hg hown hK hP d_Mo_judgeStatement_109 ?_
          refine lv_iconst (v := 1) hx hb d_Mo_judgeStatement_112 (by decide) ?_
          refine lv_isub hx hb d_Mo_judgeStatement_113 ?_
          obtain ⟨i_114, h⟩ := itn h
          refine Yra_3 hx hb hK hP i_114 d_Mo_judgeStatement_114 ?_
          refine lv_iconst (v := 1) hx hb d_Mo_judgeStatement_115 (by decide) ?_
          refine lv_icmp_ne (tgt := 149) hx hb d_Mo_judgeStatement_116 (by decide) (fun c_116 => ?_) (fun c_116 => ?_)
          · replace h := itf c_116 h
            exact J_149  _ _ h _ _ hP hD hS ls (lv_sub hl [1, 2, 0] rfl)
          · replace h := itp c_116 h
            refine lv_aload_n hx hb d_Mo_judgeStatement_119 rfl (lv_at hl 1 rfl) ?_
            refine gf_Mo_253 hx hb hg hown hK hP d_Mo_judgeStatement_120 ?_
            refine lv_iconst (v := 1) hx hb d_Mo_judgeStatement_123 (by decide) ?_
            refine lv_isub hx hb d_Mo_judgeStatement_124 ?_
            refine lv_iload_n hx hb d_Mo_judgeStatement_125 rfl (lv_at hl 2 rfl) ?_
            refine lv_icmp_eq (tgt := 145) hx hb d_Mo_judgeStatement_126 (by decide) (fun c_126 => ?_) (fun c_126 => ?_)
            · replace h := itp c_126 h
              exact J_145  _ _ h _ _ hP hD hS ls (lv_sub hl [1, 2, 0] rfl)
            · replace h := itf c_126 h
              refine lv_aload_n hx hb d_Mo_judgeStatement_129 rfl (lv_at hl 1 rfl) ?_
              refine gf_Mo_16 hx hb hg hown hK hP d_Mo_judgeStatement_130 ?_
              refine lv_aload_n hx hb d_Mo_judgeStatement_133 rfl (lv_at hl 1 rfl) ?_
              refine gf_Mo_253 hx hb hg hown hK hP d_Mo_judgeStatement_134 ?_
              refine lv_iconst (v := 2) hx hb d_Mo_judgeStatement_137 (by decide) ?_
              refine lv_isub hx hb d_Mo_judgeStatement_138 ?_
              obtain ⟨i_139, h⟩ := itn h
              refine Yra_3 hx hb hK hP i_139 d_Mo_judgeStatement_139 ?_
              refine lv_bipush (v := 46) hx hb d_Mo_judgeStatement_140 (by decide) ?_
              refine lv_icmp_ne (tgt := 149) hx hb d_Mo_judgeStatement_142 (by decide) (fun c_142 => ?_) (fun c_142 => ?_)
              · replace h := itf c_142 h
                exact J_149  _ _ h _ _ hP hD hS ls (lv_sub hl [1, 2, 0] rfl)
              · replace h := itp c_142 h
                exact J_145  _ _ h _ _ hP hD hS ls (lv_sub hl [1, 2, 0] rfl)
      · replace h := itf c_91 h
        exact hRet _ h _ _ hP hD hS _ _ d_Mo_judgeStatement_94
    · replace h := itp c_42 h
      refine lv_aload_n hx hb d_Mo_judgeStatement_45 rfl (lv_at hl 0 rfl) ?_
      refine lv_aload_n hx hb d_Mo_judgeStatement_46 rfl (lv_at hl 0 rfl) ?_
      refine lv_iload_n hx hb d_Mo_judgeStatement_47 rfl (lv_at hl 1 rfl) ?_
      refine lv_iconst (v := 1) hx hb d_Mo_judgeStatement_48 (by decide) ?_
      refine lv_iadd hx hb d_Mo_judgeStatement_49 ?_
      refine lv_iload_n hx hb d_Mo_judgeStatement_50 rfl (lv_at hl 1 rfl) ?_
      obtain ⟨v_51, σ_51, e_51, h⟩ := bd2_some h
      refine Y_calli (va_runV (As := [.int (x1 + 1), .int x1]) (rest := [.ref (A 0)]) ⟨hx, hb, hml, hown, hts⟩ (c_Mo_evaluate l K A e_51) (cwV 2 hts (gd_V wd_1151 wd_1153 wp_69 wd_10 wd_1154) rfl rfl rfl dv_Mo_evaluate ⟨Nat.le_of_ble_eq_true rfl, Nat.le_of_ble_eq_true rfl⟩) (Y_pv_0 hK hP hD) rfl rfl hl.1 rfl (lv_room (Nat.le_of_ble_eq_true rfl)) d_Mo_judgeStatement_51 ⟨Nat.le_of_ble_eq_true rfl, Nat.le_of_ble_eq_true rfl⟩) hS (fun H locs hP hD hS => ?_)
      refine lv_aload_n hx hb d_Mo_judgeStatement_54 rfl (lv_at hl 0 rfl) ?_
      refine lv_aload_n hx hb d_Mo_judgeStatement_55 rfl (lv_at hl 0 rfl) ?_
      refine gf_Mo_35 hx hb hg hown hK hP d_Mo_judgeStatement_56 ?_
      refine lv_iload_n hx hb d_Mo_judgeStatement_59 rfl (lv_at hl 1 rfl) ?_
      obtain ⟨i_60, h⟩ := itn h
      refine Yra_9 hx hb hK hP i_60 d_Mo_judgeStatement_60 ?_
      obtain ⟨v_61, e_61, h⟩ := bd1_some h
      refine Y_calli (va_runV (As := [.int (σ_51.2.1 9 x1.toNatClampNeg)]) (rest := [.int v_51, .ref (A 0)]) ⟨hx, hb, hml, hown, hts⟩ (c_Mo_declared l K A e_61) (cwV 1 hts (gd_V wd_1175 wd_1177 wp_75 wd_10 wd_1178) rfl rfl rfl dv_Mo_declared ⟨Nat.le_of_ble_eq_true rfl, Nat.le_of_ble_eq_true rfl⟩) (Y_pv_0 hK hP hD) rfl rfl hl.1 rfl (lv_room (Nat.le_of_ble_eq_true rfl)) d_Mo_judgeStatement_61 ⟨Nat.le_of_ble_eq_true rfl, Nat.le_of_ble_eq_true rfl⟩) hS (fun H locs hP hD hS => ?_)
      refine lv_iload_n hx hb d_Mo_judgeStatement_64 rfl (lv_at hl 1 rfl) ?_
      refine lv_iconst (v := 1) hx hb d_Mo_judgeStatement_65 (by decide) ?_
      refine lv_iadd hx hb d_Mo_judgeStatement_66 ?_
      obtain ⟨σ_67, e_67, h⟩ := bd1_some h
      refine Y_callv (va_runV (As := [.int v_51, .int v_61, .int (x1 + 1)]) (rest := []) ⟨hx, hb, hml, hown, hts⟩ (c_Mo_should l K A e_67) (cwV 3 hts (gd_V wd_1195 wd_1197 wp_80 wd_10 wd_1198) rfl rfl rfl dv_Mo_should ⟨Nat.le_of_ble_eq_true rfl, Nat.le_of_ble_eq_true rfl⟩) (Y_pv_0 hK hP hD) rfl rfl hl.1 rfl (lv_room (Nat.le_of_ble_eq_true rfl)) d_Mo_judgeStatement_67 ⟨Nat.le_of_ble_eq_true rfl, Nat.le_of_ble_eq_true rfl⟩) hS (fun H locs hP hD hS => ?_)
      refine lv_goto (tgt := 184) hx hb d_Mo_judgeStatement_70 (by decide) ?_
      exact hRet _ h _ _ hP hD hS _ _ d_Mo_judgeStatement_184
  · replace h := itp c_7 h
    refine lv_aload_n hx hb d_Mo_judgeStatement_10 rfl (lv_at hl 0 rfl) ?_
    refine lv_aload_n hx hb d_Mo_judgeStatement_11 rfl (lv_at hl 0 rfl) ?_
    refine lv_iload_n hx hb d_Mo_judgeStatement_12 rfl (lv_at hl 1 rfl) ?_
    refine lv_iconst (v := 3) hx hb d_Mo_judgeStatement_13 (by decide) ?_
    refine lv_iadd hx hb d_Mo_judgeStatement_14 ?_
    refine lv_iload_n hx hb d_Mo_judgeStatement_15 rfl (lv_at hl 1 rfl) ?_
    obtain ⟨v_16, σ_16, e_16, h⟩ := bd2_some h
    refine Y_calli (va_runV (As := [.int (x1 + 3), .int x1]) (rest := [.ref (A 0)]) ⟨hx, hb, hml, hown, hts⟩ (c_Mo_evaluate l K A e_16) (cwV 2 hts (gd_V wd_1151 wd_1153 wp_69 wd_10 wd_1154) rfl rfl rfl dv_Mo_evaluate ⟨Nat.le_of_ble_eq_true rfl, Nat.le_of_ble_eq_true rfl⟩) (Y_pv_0 hK hP hD) rfl rfl hl.1 rfl (lv_room (Nat.le_of_ble_eq_true rfl)) d_Mo_judgeStatement_16 ⟨Nat.le_of_ble_eq_true rfl, Nat.le_of_ble_eq_true rfl⟩) hS (fun H locs hP hD hS => ?_)
    refine lv_aload_n hx hb d_Mo_judgeStatement_19 rfl (lv_at hl 0 rfl) ?_
    refine lv_iload_n hx hb d_Mo_judgeStatement_20 rfl (lv_at hl 1 rfl) ?_
    refine lv_iconst (v := 1) hx hb d_Mo_judgeStatement_21 (by decide) ?_
    refine lv_iadd hx hb d_Mo_judgeStatement_22 ?_
    obtain ⟨v_23, e_23, h⟩ := bd1_some h
    refine Y_calli (va_runV (As := [.int (x1 + 1)]) (rest := [.int v_16, .ref (A 0)]) ⟨hx, hb, hml, hown, hts⟩ (c_Mo_declared l K A e_23) (cwV 1 hts (gd_V wd_1175 wd_1177 wp_75 wd_10 wd_1178) rfl rfl rfl dv_Mo_declared ⟨Nat.le_of_ble_eq_true rfl, Nat.le_of_ble_eq_true rfl⟩) (Y_pv_0 hK hP hD) rfl rfl hl.1 rfl (lv_room (Nat.le_of_ble_eq_true rfl)) d_Mo_judgeStatement_23 ⟨Nat.le_of_ble_eq_true rfl, Nat.le_of_ble_eq_true rfl⟩) hS (fun H locs hP hD hS => ?_)
    refine lv_iload_n hx hb d_Mo_judgeStatement_26 rfl (lv_at hl 1 rfl) ?_
    refine lv_iconst (v := 3) hx hb d_Mo_judgeStatement_27 (by decide) ?_
    refine lv_iadd hx hb d_Mo_judgeStatement_28 ?_
    obtain ⟨σ_29, e_29, h⟩ := bd1_some h
    refine Y_callv (va_runV (As := [.int v_16, .int v_23, .int (x1 + 3)]) (rest := []) ⟨hx, hb, hml, hown, hts⟩ (c_Mo_should l K A e_29) (cwV 3 hts (gd_V wd_1195 wd_1197 wp_80 wd_10 wd_1198) rfl rfl rfl dv_Mo_should ⟨Nat.le_of_ble_eq_true rfl, Nat.le_of_ble_eq_true rfl⟩) (Y_pv_0 hK hP hD) rfl rfl hl.1 rfl (lv_room (Nat.le_of_ble_eq_true rfl)) d_Mo_judgeStatement_29 ⟨Nat.le_of_ble_eq_true rfl, Nat.le_of_ble_eq_true rfl⟩) hS (fun H locs hP hD hS => ?_)
    refine lv_goto (tgt := 184) hx hb d_Mo_judgeStatement_32 (by decide) ?_
    exact hRet _ h _ _ hP hD hS _ _ d_Mo_judgeStatement_184
def p_Mo_analyse_L205 : Nat → Sto → Int32 → Option Sto
  | 0, _, _ => none
  | n + 1, σ, x1 =>
    (if (σ.1 3) ≤ x1 then
        some σ
      else
        if inR x1 124 then (if (σ.2.1 10 x1.toNatClampNeg) ≤ 0 then
          p_Mo_analyse_L205 n σ (x1 + 1)
        else
          bd1 (p_Mo_judgeStatement σ x1) fun σ_224 =>
          p_Mo_analyse_L205 n σ_224 (x1 + 1)) else none)
def p_Mo_analyse_L184 : Nat → Sto → Int32 → Option Sto
  | 0, _, _ => none
  | n + 1, σ, x1 =>
    (if (σ.1 3) ≤ x1 then
        p_Mo_analyse_L205 FU σ 0
      else
        bd1 (p_Mo_judgeName σ x1) fun σ_194 =>
        p_Mo_analyse_L184 n σ_194 (x1 + 1))
def p_Mo_analyse_L88 : Nat → Sto → Int32 → Option Sto
  | 0, _, _ => none
  | n + 1, σ, x1 =>
    (if (124 : Int32) ≤ x1 then
        (if (σ.1 3) ≤ (σ.1 4) then
          (if (σ.1 4) = 0 then
            if inR (σ.1 4) 124 then some (sS (sA σ 5 ((σ.1 4).toNatClampNeg) 0) 3 ((sA σ 5 ((σ.1 4).toNatClampNeg) 0).1 4)) else none
          else
            if inR ((σ.1 4) - 1) 124 then if inR (σ.1 4) 124 then some (sS (sA σ 5 ((σ.1 4).toNatClampNeg) (σ.2.1 6 (((σ.1 4) - 1).toNatClampNeg))) 3 ((sA σ 5 ((σ.1 4).toNatClampNeg) (σ.2.1 6 (((σ.1 4) - 1).toNatClampNeg))).1 4)) else none else none)
        else
          if inR (σ.1 4) 124 then if inR (σ.1 4) 124 then some (sS (sA σ 5 ((σ.1 4).toNatClampNeg) (σ.2.1 5 ((σ.1 4).toNatClampNeg))) 3 ((sA σ 5 ((σ.1 4).toNatClampNeg) (σ.2.1 5 ((σ.1 4).toNatClampNeg))).1 4)) else none else none)
      else
        (if x1 = (σ.1 4) then
          if inR x1 124 then p_Mo_analyse_L88 n (sA σ 13 x1.toNatClampNeg 1) (x1 + 1) else none
        else
          if inR x1 124 then p_Mo_analyse_L88 n (sA σ 13 x1.toNatClampNeg 0) (x1 + 1) else none))
def p_Mo_analyse_L6 : Nat → Sto → Int32 → Option Sto
  | 0, _, _ => none
  | n + 1, σ, x1 =>
    (if (124 : Int32) ≤ x1 then
        bd1 (p_Mo_file (sS (sS σ 4 0) 5 0)) fun σ_71 =>
        (if (σ_71.1 5) = 0 then
          p_Mo_analyse_L184 FU σ_71 0
        else
          p_Mo_analyse_L88 FU (sS σ_71 6 0) 0)
      else
        if inR x1 124 then if inR x1 124 then if inR x1 124 then if inR x1 124 then if inR x1 124 then if inR x1 124 then p_Mo_analyse_L6 n (sA (sA (sA (sA (sA (sA σ 7 x1.toNatClampNeg 0) 8 x1.toNatClampNeg (-1)) 9 x1.toNatClampNeg (-1)) 10 x1.toNatClampNeg 0) 13 x1.toNatClampNeg 0) 14 x1.toNatClampNeg (-1)) (x1 + 1) else none else none else none else none else none else none)
def p_Mo_analyse (σ : Sto) : Option Sto :=
  bd1 (p_Mo_cutAll σ) fun σ_1 =>
    p_Mo_analyse_L6 FU σ_1 0
abbrev w_Mo_analyse : List Cond := Cond.code y_Mo_analyse b_Mo_analyse 2 none :: Tg
abbrev r_Mo_analyse : Room := { frames := 11, cells := 0, slots := 0, locals := 248 }
theorem dv_Mo_analyse : y_Mo_analyse.cls = "LanguageServerModel" ∧ y_Mo_analyse.cls ≠ "java/lang/invoke/MethodHandle" ∧ y_Mo_analyse.cls ≠ "java/lang/invoke/VarHandle" ∧ (parseMethodDescriptor y_Mo_analyse.desc).map (fun d => d.parameters.length) = some 0 := by decide +kernel
set_option maxHeartbeats 4000000 in
set_option maxRecDepth 100000 in
theorem c_Mo_analyse (l : Launch) (K : Kst) (A : Nat → Nat) {σ : Sto} {ss : Sto} (h : p_Mo_analyse σ = some ss) : Met l y_Mo_analyse w_Mo_analyse r_Mo_analyse (va_Pc [.ref (A 0)] (YB K A σ)) (YQv K A ss) 0 0 (YF A) := by
  refine Met.ofW (cc := b_Mo_analyse) (maxL := 2) (ret := none) (by decide) rfl ?_
  intro p e s m args below meth c s₁ B hml hv
  obtain ⟨rfl, hP, hK, hD⟩ := hv
  have hx := B.exec
  have hb := B.bytes
  have hr := B.returns
  have hts := atoms_spec (ws := w_Mo_analyse) B.pre
  have hg : ∀ w ∈ Tg, w.before _ s = true := fun w q => hts w (List.mem_cons_of_mem _ q)
  have hown : s.vm.findClass "LanguageServerModel" = some m.cls := findClass_of_methodNamed B.named
  have hlocks := B.notSynchronized
  have hS : va_S (YF A) s.heap s.heap [] := va_S.rf
  have hl := lv_entry ([.ref (A 0)]) (n := 2) (Nat.le_of_ble_eq_true rfl)
  rw [lg_entry_eq]
  generalize (lg_sl ([.ref (A 0)]) ++ List.replicate (2 - (lg_sl ([.ref (A 0)])).length) Slot.unset).toArray = ls at hl ⊢
  have hl : lv_has ls 2 [(0, .ref (A 0))] := hl
  generalize hargs : ([.ref (A 0)] : List Value).toArray = args at hg hts ⊢
  obtain ⟨Q, hQ⟩ : ∃ Q, Q = MQ below (YQv K A ss) args s 0 0 (YF A) := ⟨_, rfl⟩
  rw [← hQ]
  have hRet : ∀ (σ : Sto), some σ = some ss → ∀ (H : Heap) (locs : List Loc), va_P K.1 vwCl (wY K A σ) H → va_D (YF A) (wY K A σ) → va_S (YF A) s.heap H locs → ∀ (pc : Nat) (ls : Array Slot), decode b_Mo_analyse pc = .ok (.return_, 1) → W p l e (headSpec w_Mo_analyse r_Mo_analyse).room s m args below meth c H locs 0 0 Q (F0 m pc ls []) := by
    intro σ h H locs hP hD hS pc ls hd
    cases h
    subst hQ
    exact W.vret hx hb hr (fun t ht hW => ⟨⟨(), rfl, trivial, by rw [ht]; exact hP, RK.warm hW hK, hD⟩, hS.F ht⟩) hS.2.2 hd
  clear hQ
  unfold p_Mo_analyse at h
  have L_205 : ∀ (n : Nat) (σ : Sto) (x1 : Int32), p_Mo_analyse_L205 n σ x1 = some ss → ∀ (H : Heap) (locs : List Loc), va_P K.1 vwCl (wY K A σ) H → va_D (YF A) (wY K A σ) → va_S (YF A) s.heap H locs → ∀ ls : Array Slot, lv_has ls 2 [(0, .ref (A 0)), (1, .int x1)] → W p l e (headSpec w_Mo_analyse r_Mo_analyse).room s m args below meth c H locs 0 0 Q (F0 m 205 ls []) := by
    intro n
    induction n with
    | zero => intro _ _ h; cases h
    | succ n ih =>
      intro σ x1 h H locs hP hD hS ls hl
      rw [p_Mo_analyse_L205] at h
      refine lv_iload_n hx hb d_Mo_analyse_205 rfl (lv_at hl 1 rfl) ?_
      refine lv_aload_n hx hb d_Mo_analyse_206 rfl (lv_at hl 0 rfl) ?_
      refine gf_Mo_118 hx hb hg hown hK hP d_Mo_analyse_207 ?_
      refine lv_icmp_ge (tgt := 233) hx hb d_Mo_analyse_210 (by decide) (fun c_210 => ?_) (fun c_210 => ?_)
      · replace h := itp c_210 h
        exact hRet _ h _ _ hP hD hS _ _ d_Mo_analyse_233
      · replace h := itf c_210 h
        refine lv_aload_n hx hb d_Mo_analyse_213 rfl (lv_at hl 0 rfl) ?_
        refine gf_Mo_38 hx hb hg hown hK hP d_Mo_analyse_214 ?_
        refine lv_iload_n hx hb d_Mo_analyse_217 rfl (lv_at hl 1 rfl) ?_
        obtain ⟨i_218, h⟩ := itn h
        refine Yra_10 hx hb hK hP i_218 d_Mo_analyse_218 ?_
        refine lv_if_le (tgt := 227) hx hb d_Mo_analyse_219 (by decide) (fun c_219 => ?_) (fun c_219 => ?_)
        · replace h := itp c_219 h
          refine lv_iinc (v := x1 + 1) (lv' := [(1, .int (x1 + 1)), (0, .ref (A 0))]) hx hb d_Mo_analyse_227 hl (k := 1) rfl (by first | rfl | decide) (by decide) rfl (fun ls hl => ?_)
          refine lv_goto (tgt := 205) hx hb d_Mo_analyse_230 (by decide) ?_
          exact ih _ _ h _ _ hP hD hS ls (lv_sub hl [1, 0] rfl)
        · replace h := itf c_219 h
          refine lv_aload_n hx hb d_Mo_analyse_222 rfl (lv_at hl 0 rfl) ?_
          refine lv_iload_n hx hb d_Mo_analyse_223 rfl (lv_at hl 1 rfl) ?_
          obtain ⟨σ_224, e_224, h⟩ := bd1_some h
          refine Y_callv (va_runV (As := [.int x1]) (rest := []) ⟨hx, hb, hml, hown, hts⟩ (c_Mo_judgeStatement l K A e_224) (cwV 1 hts (gd_V wd_1147 wd_1149 wp_68 wd_10 wd_1150) rfl rfl rfl dv_Mo_judgeStatement ⟨Nat.le_of_ble_eq_true rfl, Nat.le_of_ble_eq_true rfl⟩) (Y_pv_0 hK hP hD) rfl rfl hl.1 rfl (lv_room (Nat.le_of_ble_eq_true rfl)) d_Mo_analyse_224 ⟨Nat.le_of_ble_eq_true rfl, Nat.le_of_ble_eq_true rfl⟩) hS (fun H locs hP hD hS => ?_)
          refine lv_iinc (v := x1 + 1) (lv' := [(1, .int (x1 + 1)), (0, .ref (A 0))]) hx hb d_Mo_analyse_227 hl (k := 1) rfl (by first | rfl | decide) (by decide) rfl (fun ls hl => ?_)
          refine lv_goto (tgt := 205) hx hb d_Mo_analyse_230 (by decide) ?_
          exact ih _ _ h _ _ hP hD hS ls (lv_sub hl [1, 0] rfl)
  have L_184 : ∀ (n : Nat) (σ : Sto) (x1 : Int32), p_Mo_analyse_L184 n σ x1 = some ss → ∀ (H : Heap) (locs : List Loc), va_P K.1 vwCl (wY K A σ) H → va_D (YF A) (wY K A σ) → va_S (YF A) s.heap H locs → ∀ ls : Array Slot, lv_has ls 2 [(0, .ref (A 0)), (1, .int x1)] → W p l e (headSpec w_Mo_analyse r_Mo_analyse).room s m args below meth c H locs 0 0 Q (F0 m 184 ls []) := by
    intro n
    induction n with
    | zero => intro _ _ h; cases h
    | succ n ih =>
      intro σ x1 h H locs hP hD hS ls hl
      rw [p_Mo_analyse_L184] at h
      refine lv_iload_n hx hb d_Mo_analyse_184 rfl (lv_at hl 1 rfl) ?_
      refine lv_aload_n hx hb d_Mo_analyse_185 rfl (lv_at hl 0 rfl) ?_
      refine gf_Mo_118 hx hb hg hown hK hP d_Mo_analyse_186 ?_
      refine lv_icmp_ge (tgt := 203) hx hb d_Mo_analyse_189 (by decide) (fun c_189 => ?_) (fun c_189 => ?_)
      · replace h := itp c_189 h
        refine lv_iconst (v := 0) hx hb d_Mo_analyse_203 (by decide) ?_
        refine lv_istore_n (lv' := [(1, .int 0), (0, .ref (A 0))]) hx hb d_Mo_analyse_204 rfl hl (by decide) rfl (fun ls hl => ?_)
        exact L_205  FU _ _ h _ _ hP hD hS ls (lv_sub hl [1, 0] rfl)
      · replace h := itf c_189 h
        refine lv_aload_n hx hb d_Mo_analyse_192 rfl (lv_at hl 0 rfl) ?_
        refine lv_iload_n hx hb d_Mo_analyse_193 rfl (lv_at hl 1 rfl) ?_
        obtain ⟨σ_194, e_194, h⟩ := bd1_some h
        refine Y_callv (va_runV (As := [.int x1]) (rest := []) ⟨hx, hb, hml, hown, hts⟩ (c_Mo_judgeName l K A e_194) (cwV 1 hts (gd_V wd_1112 wd_1114 wp_60 wd_10 wd_1115) rfl rfl rfl dv_Mo_judgeName ⟨Nat.le_of_ble_eq_true rfl, Nat.le_of_ble_eq_true rfl⟩) (Y_pv_0 hK hP hD) rfl rfl hl.1 rfl (lv_room (Nat.le_of_ble_eq_true rfl)) d_Mo_analyse_194 ⟨Nat.le_of_ble_eq_true rfl, Nat.le_of_ble_eq_true rfl⟩) hS (fun H locs hP hD hS => ?_)
        refine lv_iinc (v := x1 + 1) (lv' := [(1, .int (x1 + 1)), (0, .ref (A 0))]) hx hb d_Mo_analyse_197 hl (k := 1) rfl (by first | rfl | decide) (by decide) rfl (fun ls hl => ?_)
        refine lv_goto (tgt := 184) hx hb d_Mo_analyse_200 (by decide) ?_
        exact ih _ _ h _ _ hP hD hS ls (lv_sub hl [1, 0] rfl)
  have L_88 : ∀ (n : Nat) (σ : Sto) (x1 : Int32), p_Mo_analyse_L88 n σ x1 = some ss → ∀ (H : Heap) (locs : List Loc), va_P K.1 vwCl (wY K A σ) H → va_D (YF A) (wY K A σ) → va_S (YF A) s.heap H locs → ∀ ls : Array Slot, lv_has ls 2 [(0, .ref (A 0)), (1, .int x1)] → W p l e (headSpec w_Mo_analyse r_Mo_analyse).room s m args below meth c H locs 0 0 Q (F0 m 88 ls []) := by
    intro n
    induction n with
    | zero => intro _ _ h; cases h
    | succ n ih =>
      intro σ x1 h H locs hP hD hS ls hl
      rw [p_Mo_analyse_L88] at h
      refine lv_iload_n hx hb d_Mo_analyse_88 rfl (lv_at hl 1 rfl) ?_
      refine lv_bipush (v := 124) hx hb d_Mo_analyse_89 (by decide) ?_
      refine lv_icmp_ge (tgt := 119) hx hb d_Mo_analyse_91 (by decide) (fun c_91 => ?_) (fun c_91 => ?_)
      · replace h := itp c_91 h
        refine lv_aload_n hx hb d_Mo_analyse_119 rfl (lv_at hl 0 rfl) ?_
        refine gf_Mo_23 hx hb hg hown hK hP d_Mo_analyse_120 ?_
        refine lv_aload_n hx hb d_Mo_analyse_123 rfl (lv_at hl 0 rfl) ?_
        refine gf_Mo_135 hx hb hg hown hK hP d_Mo_analyse_124 ?_
        refine lv_aload_n hx hb d_Mo_analyse_127 rfl (lv_at hl 0 rfl) ?_
        refine gf_Mo_135 hx hb hg hown hK hP d_Mo_analyse_128 ?_
        refine lv_aload_n hx hb d_Mo_analyse_131 rfl (lv_at hl 0 rfl) ?_
        refine gf_Mo_118 hx hb hg hown hK hP d_Mo_analyse_132 ?_
        refine lv_icmp_ge (tgt := 150) hx hb d_Mo_analyse_135 (by decide) (fun c_135 => ?_) (fun c_135 => ?_)
        · replace h := itp c_135 h
          refine lv_aload_n hx hb d_Mo_analyse_150 rfl (lv_at hl 0 rfl) ?_
          refine gf_Mo_135 hx hb hg hown hK hP d_Mo_analyse_151 ?_
          refine lv_if_ne (tgt := 161) hx hb d_Mo_analyse_154 (by decide) (fun c_154 => ?_) (fun c_154 => ?_)
          · replace h := itf c_154 h
            refine lv_aload_n hx hb d_Mo_analyse_161 rfl (lv_at hl 0 rfl) ?_
            refine gf_Mo_26 hx hb hg hown hK hP d_Mo_analyse_162 ?_
            refine lv_aload_n hx hb d_Mo_analyse_165 rfl (lv_at hl 0 rfl) ?_
            refine gf_Mo_135 hx hb hg hown hK hP d_Mo_analyse_166 ?_
            refine lv_iconst (v := 1) hx hb d_Mo_analyse_169 (by decide) ?_
            refine lv_isub hx hb d_Mo_analyse_170 ?_
            obtain ⟨i_171, h⟩ := itn h
            refine Yra_6 hx hb hK hP i_171 d_Mo_analyse_171 ?_
            obtain ⟨i_172, h⟩ := itn h
            refine Ywa_5 hx hb hK hP hD hS i_172 d_Mo_analyse_172 (fun H locs hP hD hS => ?_)
            refine lv_aload_n hx hb d_Mo_analyse_173 rfl (lv_at hl 0 rfl) ?_
            refine lv_aload_n hx hb d_Mo_analyse_174 rfl (lv_at hl 0 rfl) ?_
            refine gf_Mo_135 hx hb hg hown hK hP d_Mo_analyse_175 ?_
            refine pf_Mo_118 hx hb hg hown hK hP hD hS d_Mo_analyse_178 (fun H locs hP hD hS => ?_)
            exact hRet _ h _ _ hP hD hS _ _ d_Mo_analyse_181
          · replace h := itp c_154 h
            refine lv_iconst (v := 0) hx hb d_Mo_analyse_157 (by decide) ?_
            refine lv_goto (tgt := 172) hx hb d_Mo_analyse_158 (by decide) ?_
            obtain ⟨i_172, h⟩ := itn h
            refine Ywa_5 hx hb hK hP hD hS i_172 d_Mo_analyse_172 (fun H locs hP hD hS => ?_)
            refine lv_aload_n hx hb d_Mo_analyse_173 rfl (lv_at hl 0 rfl) ?_
            refine lv_aload_n hx hb d_Mo_analyse_174 rfl (lv_at hl 0 rfl) ?_
            refine gf_Mo_135 hx hb hg hown hK hP d_Mo_analyse_175 ?_
            refine pf_Mo_118 hx hb hg hown hK hP hD hS d_Mo_analyse_178 (fun H locs hP hD hS => ?_)
            exact hRet _ h _ _ hP hD hS _ _ d_Mo_analyse_181
        · replace h := itf c_135 h
          refine lv_aload_n hx hb d_Mo_analyse_138 rfl (lv_at hl 0 rfl) ?_
          refine gf_Mo_23 hx hb hg hown hK hP d_Mo_analyse_139 ?_
          refine lv_aload_n hx hb d_Mo_analyse_142 rfl (lv_at hl 0 rfl) ?_
          refine gf_Mo_135 hx hb hg hown hK hP d_Mo_analyse_143 ?_
          obtain ⟨i_146, h⟩ := itn h
          refine Yra_5 hx hb hK hP i_146 d_Mo_analyse_146 ?_
          refine lv_goto (tgt := 172) hx hb d_Mo_analyse_147 (by decide) ?_
          obtain ⟨i_172, h⟩ := itn h
          refine Ywa_5 hx hb hK hP hD hS i_172 d_Mo_analyse_172 (fun H locs hP hD hS => ?_)
          refine lv_aload_n hx hb d_Mo_analyse_173 rfl (lv_at hl 0 rfl) ?_
          refine lv_aload_n hx hb d_Mo_analyse_174 rfl (lv_at hl 0 rfl) ?_
          refine gf_Mo_135 hx hb hg hown hK hP d_Mo_analyse_175 ?_
          refine pf_Mo_118 hx hb hg hown hK hP hD hS d_Mo_analyse_178 (fun H locs hP hD hS => ?_)
          exact hRet _ h _ _ hP hD hS _ _ d_Mo_analyse_181
      · replace h := itf c_91 h
        refine lv_aload_n hx hb d_Mo_analyse_94 rfl (lv_at hl 0 rfl) ?_
        refine gf_Mo_47 hx hb hg hown hK hP d_Mo_analyse_95 ?_
        refine lv_iload_n hx hb d_Mo_analyse_98 rfl (lv_at hl 1 rfl) ?_
        refine lv_iload_n hx hb d_Mo_analyse_99 rfl (lv_at hl 1 rfl) ?_
        refine lv_aload_n hx hb d_Mo_analyse_100 rfl (lv_at hl 0 rfl) ?_
        refine gf_Mo_135 hx hb hg hown hK hP d_Mo_analyse_101 ?_
        refine lv_icmp_ne (tgt := 111) hx hb d_Mo_analyse_104 (by decide) (fun c_104 => ?_) (fun c_104 => ?_)
        · replace h := itf c_104 h
          refine lv_iconst (v := 0) hx hb d_Mo_analyse_111 (by decide) ?_
          obtain ⟨i_112, h⟩ := itn h
          refine Ywa_13 hx hb hK hP hD hS i_112 d_Mo_analyse_112 (fun H locs hP hD hS => ?_)
          refine lv_iinc (v := x1 + 1) (lv' := [(1, .int (x1 + 1)), (0, .ref (A 0))]) hx hb d_Mo_analyse_113 hl (k := 1) rfl (by first | rfl | decide) (by decide) rfl (fun ls hl => ?_)
          refine lv_goto (tgt := 88) hx hb d_Mo_analyse_116 (by decide) ?_
          exact ih _ _ h _ _ hP hD hS ls (lv_sub hl [1, 0] rfl)
        · replace h := itp c_104 h
          refine lv_iconst (v := 1) hx hb d_Mo_analyse_107 (by decide) ?_
          refine lv_goto (tgt := 112) hx hb d_Mo_analyse_108 (by decide) ?_
          obtain ⟨i_112, h⟩ := itn h
          refine Ywa_13 hx hb hK hP hD hS i_112 d_Mo_analyse_112 (fun H locs hP hD hS => ?_)
          refine lv_iinc (v := x1 + 1) (lv' := [(1, .int (x1 + 1)), (0, .ref (A 0))]) hx hb d_Mo_analyse_113 hl (k := 1) rfl (by first | rfl | decide) (by decide) rfl (fun ls hl => ?_)
          refine lv_goto (tgt := 88) hx hb d_Mo_analyse_116 (by decide) ?_
          exact ih _ _ h _ _ hP hD hS ls (lv_sub hl [1, 0] rfl)
  have L_6 : ∀ (n : Nat) (σ : Sto) (x1 : Int32), p_Mo_analyse_L6 n σ x1 = some ss → ∀ (H : Heap) (locs : List Loc), va_P K.1 vwCl (wY K A σ) H → va_D (YF A) (wY K A σ) → va_S (YF A) s.heap H locs → ∀ ls : Array Slot, lv_has ls 2 [(0, .ref (A 0)), (1, .int x1)] → W p l e (headSpec w_Mo_analyse r_Mo_analyse).room s m args below meth c H locs 0 0 Q (F0 m 6 ls []) := by
    intro n
    induction n with
    | zero => intro _ _ h; cases h
    | succ n ih =>
      intro σ x1 h H locs hP hD hS ls hl
      rw [p_Mo_analyse_L6] at h
      refine lv_iload_n hx hb d_Mo_analyse_6 rfl (lv_at hl 1 rfl) ?_
      refine lv_bipush (v := 124) hx hb d_Mo_analyse_7 (by decide) ?_
      refine lv_icmp_ge (tgt := 60) hx hb d_Mo_analyse_9 (by decide) (fun c_9 => ?_) (fun c_9 => ?_)
      · replace h := itp c_9 h
        refine lv_aload_n hx hb d_Mo_analyse_60 rfl (lv_at hl 0 rfl) ?_
        refine lv_iconst (v := 0) hx hb d_Mo_analyse_61 (by decide) ?_
        refine pf_Mo_135 hx hb hg hown hK hP hD hS d_Mo_analyse_62 (fun H locs hP hD hS => ?_)
        refine lv_aload_n hx hb d_Mo_analyse_65 rfl (lv_at hl 0 rfl) ?_
        refine lv_iconst (v := 0) hx hb d_Mo_analyse_66 (by decide) ?_
        refine pf_Mo_131 hx hb hg hown hK hP hD hS d_Mo_analyse_67 rfl rfl (fun H locs hP hD hS => ?_)
        refine lv_aload_n hx hb d_Mo_analyse_70 rfl (lv_at hl 0 rfl) ?_
        obtain ⟨σ_71, e_71, h⟩ := bd1_some h
        refine Y_callv (va_runV (As := []) (rest := []) ⟨hx, hb, hml, hown, hts⟩ (c_Mo_file l K A e_71) (cwV 0 hts (gd_V wd_1060 wd_1062 wp_47 wd_10 wd_1063) rfl rfl rfl dv_Mo_file ⟨Nat.le_of_ble_eq_true rfl, Nat.le_of_ble_eq_true rfl⟩) (Y_pv_0 hK hP hD) rfl rfl hl.1 rfl (lv_room (Nat.le_of_ble_eq_true rfl)) d_Mo_analyse_71 ⟨Nat.le_of_ble_eq_true rfl, Nat.le_of_ble_eq_true rfl⟩) hS (fun H locs hP hD hS => ?_)
        refine lv_aload_n hx hb d_Mo_analyse_74 rfl (lv_at hl 0 rfl) ?_
        refine gf_Mo_131 hx hb hg hown hK hP d_Mo_analyse_75 ?_
        refine lv_if_eq (tgt := 182) hx hb d_Mo_analyse_78 (by decide) (fun c_78 => ?_) (fun c_78 => ?_)
        · replace h := itp c_78 h
          refine lv_iconst (v := 0) hx hb d_Mo_analyse_182 (by decide) ?_
          refine lv_istore_n (lv' := [(1, .int 0), (0, .ref (A 0))]) hx hb d_Mo_analyse_183 rfl hl (by decide) rfl (fun ls hl => ?_)
          exact L_184  FU _ _ h _ _ hP hD hS ls (lv_sub hl [1, 0] rfl)
        · replace h := itf c_78 h
          refine lv_aload_n hx hb d_Mo_analyse_81 rfl (lv_at hl 0 rfl) ?_
          refine lv_iconst (v := 0) hx hb d_Mo_analyse_82 (by decide) ?_
          refine pf_Mo_180 hx hb hg hown hK hP hD hS d_Mo_analyse_83 (fun H locs hP hD hS => ?_)
          refine lv_iconst (v := 0) hx hb d_Mo_analyse_86 (by decide) ?_
          refine lv_istore_n (lv' := [(1, .int 0), (0, .ref (A 0))]) hx hb d_Mo_analyse_87 rfl hl (by decide) rfl (fun ls hl => ?_)
          exact L_88  FU _ _ h _ _ hP hD hS ls (lv_sub hl [1, 0] rfl)
      · replace h := itf c_9 h
        refine lv_aload_n hx hb d_Mo_analyse_12 rfl (lv_at hl 0 rfl) ?_
        refine gf_Mo_29 hx hb hg hown hK hP d_Mo_analyse_13 ?_
        refine lv_iload_n hx hb d_Mo_analyse_16 rfl (lv_at hl 1 rfl) ?_
        refine lv_iconst (v := 0) hx hb d_Mo_analyse_17 (by decide) ?_
        obtain ⟨i_18, h⟩ := itn h
        refine Ywa_7 hx hb hK hP hD hS i_18 d_Mo_analyse_18 (fun H locs hP hD hS => ?_)
        refine lv_aload_n hx hb d_Mo_analyse_19 rfl (lv_at hl 0 rfl) ?_
        refine gf_Mo_32 hx hb hg hown hK hP d_Mo_analyse_20 ?_
        refine lv_iload_n hx hb d_Mo_analyse_23 rfl (lv_at hl 1 rfl) ?_
        refine lv_iconst (v := (-1)) hx hb d_Mo_analyse_24 (by decide) ?_
        obtain ⟨i_25, h⟩ := itn h
        refine Ywa_8 hx hb hK hP hD hS i_25 d_Mo_analyse_25 (fun H locs hP hD hS => ?_)
        refine lv_aload_n hx hb d_Mo_analyse_26 rfl (lv_at hl 0 rfl) ?_
        refine gf_Mo_35 hx hb hg hown hK hP d_Mo_analyse_27 ?_
        refine lv_iload_n hx hb d_Mo_analyse_30 rfl (lv_at hl 1 rfl) ?_
        refine lv_iconst (v := (-1)) hx hb d_Mo_analyse_31 (by decide) ?_
        obtain ⟨i_32, h⟩ := itn h
        refine Ywa_9 hx hb hK hP hD hS i_32 d_Mo_analyse_32 (fun H locs hP hD hS => ?_)
        refine lv_aload_n hx hb d_Mo_analyse_33 rfl (lv_at hl 0 rfl) ?_
        refine gf_Mo_38 hx hb hg hown hK hP d_Mo_analyse_34 ?_
        refine lv_iload_n hx hb d_Mo_analyse_37 rfl (lv_at hl 1 rfl) ?_
        refine lv_iconst (v := 0) hx hb d_Mo_analyse_38 (by decide) ?_
        obtain ⟨i_39, h⟩ := itn h
        refine Ywa_10 hx hb hK hP hD hS i_39 d_Mo_analyse_39 (fun H locs hP hD hS => ?_)
        refine lv_aload_n hx hb d_Mo_analyse_40 rfl (lv_at hl 0 rfl) ?_
        refine gf_Mo_47 hx hb hg hown hK hP d_Mo_analyse_41 ?_
        refine lv_iload_n hx hb d_Mo_analyse_44 rfl (lv_at hl 1 rfl) ?_
        refine lv_iconst (v := 0) hx hb d_Mo_analyse_45 (by decide) ?_
        obtain ⟨i_46, h⟩ := itn h
        refine Ywa_13 hx hb hK hP hD hS i_46 d_Mo_analyse_46 (fun H locs hP hD hS => ?_)
        refine lv_aload_n hx hb d_Mo_analyse_47 rfl (lv_at hl 0 rfl) ?_
        refine gf_Mo_50 hx hb hg hown hK hP d_Mo_analyse_48 ?_
        refine lv_iload_n hx hb d_Mo_analyse_51 rfl (lv_at hl 1 rfl) ?_
        refine lv_iconst (v := (-1)) hx hb d_Mo_analyse_52 (by decide) ?_
        obtain ⟨i_53, h⟩ := itn h
        refine Ywa_14 hx hb hK hP hD hS i_53 d_Mo_analyse_53 (fun H locs hP hD hS => ?_)
        refine lv_iinc (v := x1 + 1) (lv' := [(1, .int (x1 + 1)), (0, .ref (A 0))]) hx hb d_Mo_analyse_54 hl (k := 1) rfl (by first | rfl | decide) (by decide) rfl (fun ls hl => ?_)
        refine lv_goto (tgt := 6) hx hb d_Mo_analyse_57 (by decide) ?_
        exact ih _ _ h _ _ hP hD hS ls (lv_sub hl [1, 0] rfl)
  refine lv_aload_n hx hb d_Mo_analyse_0 rfl (lv_at hl 0 rfl) ?_
  obtain ⟨σ_1, e_1, h⟩ := bd1_some h
  refine Y_callv (va_runV (As := []) (rest := []) ⟨hx, hb, hml, hown, hts⟩ (c_Mo_cutAll l K A e_1) (cwV 0 hts (gd_V wd_1034 wd_1036 wp_45 wd_10 wd_1037) rfl rfl rfl dv_Mo_cutAll ⟨Nat.le_of_ble_eq_true rfl, Nat.le_of_ble_eq_true rfl⟩) (Y_pv_0 hK hP hD) rfl rfl hl.1 rfl (lv_room (Nat.le_of_ble_eq_true rfl)) d_Mo_analyse_1 ⟨Nat.le_of_ble_eq_true rfl, Nat.le_of_ble_eq_true rfl⟩) hS (fun H locs hP hD hS => ?_)
  refine lv_iconst (v := 0) hx hb d_Mo_analyse_4 (by decide) ?_
  refine lv_istore_n (lv' := [(1, .int 0), (0, .ref (A 0))]) hx hb d_Mo_analyse_5 rfl hl (by decide) rfl (fun ls hl => ?_)
  exact L_6  FU _ _ h _ _ hP hD hS ls (lv_sub hl [1, 0] rfl)
def p_Mo_diagnosticCount_L4 (σ : Sto) : Nat → Int32 → Int32 → Option Int32
  | 0, _, _ => none
  | n + 1, x1, x2 =>
    (if (1364 : Int32) ≤ x2 then
        some x1
      else
        if inR (x2 / 11) 124 then (if (((σ.2.1 13 ((x2 / 11).toNatClampNeg)) >>> ((x2 - x2 / 11 * 11) &&& 31)) &&& 1) = 0 then
          p_Mo_diagnosticCount_L4 σ n x1 (x2 + 1)
        else
          p_Mo_diagnosticCount_L4 σ n (x1 + 1) (x2 + 1)) else none)
def p_Mo_diagnosticCount (σ : Sto) : Option Int32 :=
  p_Mo_diagnosticCount_L4 σ FU 0 0
abbrev w_Mo_diagnosticCount : List Cond := Cond.code y_Mo_diagnosticCount b_Mo_diagnosticCount 3 (some .int) :: Tg
abbrev r_Mo_diagnosticCount : Room := { frames := 0, cells := 0, slots := 0, locals := 0 }
theorem dv_Mo_diagnosticCount : y_Mo_diagnosticCount.cls = "LanguageServerModel" ∧ y_Mo_diagnosticCount.cls ≠ "java/lang/invoke/MethodHandle" ∧ y_Mo_diagnosticCount.cls ≠ "java/lang/invoke/VarHandle" ∧ (parseMethodDescriptor y_Mo_diagnosticCount.desc).map (fun d => d.parameters.length) = some 0 := by decide +kernel
set_option maxHeartbeats 4000000 in
set_option maxRecDepth 100000 in
theorem c_Mo_diagnosticCount (l : Launch) (K : Kst) (A : Nat → Nat) {σ : Sto} {rr : Int32} (h : p_Mo_diagnosticCount σ = some rr) : Met l y_Mo_diagnosticCount w_Mo_diagnosticCount r_Mo_diagnosticCount (va_Pc [.ref (A 0)] (YB K A σ)) (YQi K A rr σ) 0 0 (YF A) := by
  refine Met.ofW (cc := b_Mo_diagnosticCount) (maxL := 3) (ret := (some .int)) (by decide) rfl ?_
  intro p e s m args below meth c s₁ B hml hv
  obtain ⟨rfl, hP, hK, hD⟩ := hv
  have hx := B.exec
  have hb := B.bytes
  have hr := B.returns
  have hts := atoms_spec (ws := w_Mo_diagnosticCount) B.pre
  have hg : ∀ w ∈ Tg, w.before _ s = true := fun w q => hts w (List.mem_cons_of_mem _ q)
  have hown : s.vm.findClass "LanguageServerModel" = some m.cls := findClass_of_methodNamed B.named
  have hlocks := B.notSynchronized
  have hS : va_S (YF A) s.heap s.heap [] := va_S.rf
  have hl := lv_entry ([.ref (A 0)]) (n := 3) (Nat.le_of_ble_eq_true rfl)
  rw [lg_entry_eq]
  generalize (lg_sl ([.ref (A 0)]) ++ List.replicate (3 - (lg_sl ([.ref (A 0)])).length) Slot.unset).toArray = ls at hl ⊢
  have hl : lv_has ls 3 [(0, .ref (A 0))] := hl
  generalize hargs : ([.ref (A 0)] : List Value).toArray = args at hg hts ⊢
  obtain ⟨Q, hQ⟩ : ∃ Q, Q = MQ below (YQi K A rr σ) args s 0 0 (YF A) := ⟨_, rfl⟩
  rw [← hQ]
  have hRet : ∀ (v : Int32), some v = some rr → ∀ (H : Heap) (locs : List Loc), va_P K.1 vwCl (wY K A σ) H → va_D (YF A) (wY K A σ) → va_S (YF A) s.heap H locs → ∀ (pc : Nat) (ls : Array Slot), decode b_Mo_diagnosticCount pc = .ok (.ireturn, 1) → W p l e (headSpec w_Mo_diagnosticCount r_Mo_diagnosticCount).room s m args below meth c H locs 0 0 Q (F0 m pc ls [.int v]) := by
    intro v h H locs hP hD hS pc ls hd
    cases h
    subst hQ
    exact W.iret hx hb hr (fun t ht hW => ⟨⟨_, (), rfl, rfl, by rw [ht]; exact hP, RK.warm hW hK, hD⟩, hS.F ht⟩) hS.2.2 hd
  clear hQ
  unfold p_Mo_diagnosticCount at h
  have L_4 : ∀ (n : Nat) (x1 : Int32) (x2 : Int32), p_Mo_diagnosticCount_L4 σ n x1 x2 = some rr → ∀ (H : Heap) (locs : List Loc), va_P K.1 vwCl (wY K A σ) H → va_D (YF A) (wY K A σ) → va_S (YF A) s.heap H locs → ∀ ls : Array Slot, lv_has ls 3 [(0, .ref (A 0)), (1, .int x1), (2, .int x2)] → W p l e (headSpec w_Mo_diagnosticCount r_Mo_diagnosticCount).room s m args below meth c H locs 0 0 Q (F0 m 4 ls []) := by
    intro n
    induction n with
    | zero => intro _ _ h; cases h
    | succ n ih =>
      intro x1 x2 h H locs hP hD hS ls hl
      rw [p_Mo_diagnosticCount_L4] at h
      refine lv_iload_n hx hb d_Mo_diagnosticCount_4 rfl (lv_at hl 2 rfl) ?_
      refine lv_sipush (v := 1364) hx hb d_Mo_diagnosticCount_5 (by decide) ?_
      refine lv_icmp_ge (tgt := 39) hx hb d_Mo_diagnosticCount_8 (by decide) (fun c_8 => ?_) (fun c_8 => ?_)
      · replace h := itp c_8 h
        refine lv_iload_n hx hb d_Mo_diagnosticCount_39 rfl (lv_at hl 1 rfl) ?_
        exact hRet _ h _ _ hP hD hS _ _ d_Mo_diagnosticCount_40
      · replace h := itf c_8 h
        refine lv_aload_n hx hb d_Mo_diagnosticCount_11 rfl (lv_at hl 0 rfl) ?_
        refine gf_Mo_47 hx hb hg hown hK hP d_Mo_diagnosticCount_12 ?_
        refine lv_iload_n hx hb d_Mo_diagnosticCount_15 rfl (lv_at hl 2 rfl) ?_
        refine lv_bipush (v := 11) hx hb d_Mo_diagnosticCount_16 (by decide) ?_
        refine lv_idiv hx hb d_Mo_diagnosticCount_18 (by decide) ?_
        obtain ⟨i_19, h⟩ := itn h
        refine Yra_13 hx hb hK hP i_19 d_Mo_diagnosticCount_19 ?_
        refine lv_iload_n hx hb d_Mo_diagnosticCount_20 rfl (lv_at hl 2 rfl) ?_
        refine lv_bipush (v := 11) hx hb d_Mo_diagnosticCount_21 (by decide) ?_
        refine lv_irem hx hb d_Mo_diagnosticCount_23 (by decide) ?_
        refine lv_ishr hx hb d_Mo_diagnosticCount_24 ?_
        refine lv_iconst (v := 1) hx hb d_Mo_diagnosticCount_25 (by decide) ?_
        refine lv_iand hx hb d_Mo_diagnosticCount_26 ?_
        refine lv_if_eq (tgt := 33) hx hb d_Mo_diagnosticCount_27 (by decide) (fun c_27 => ?_) (fun c_27 => ?_)
        · replace h := itp c_27 h
          refine lv_iinc (v := x2 + 1) (lv' := [(2, .int (x2 + 1)), (0, .ref (A 0)), (1, .int x1)]) hx hb d_Mo_diagnosticCount_33 hl (k := 2) rfl (by first | rfl | decide) (by decide) rfl (fun ls hl => ?_)
          refine lv_goto (tgt := 4) hx hb d_Mo_diagnosticCount_36 (by decide) ?_
          exact ih _ _ h _ _ hP hD hS ls (lv_sub hl [1, 2, 0] rfl)
        · replace h := itf c_27 h
          refine lv_iinc (v := x1 + 1) (lv' := [(1, .int (x1 + 1)), (0, .ref (A 0)), (2, .int x2)]) hx hb d_Mo_diagnosticCount_30 hl (k := 1) rfl (by first | rfl | decide) (by decide) rfl (fun ls hl => ?_)
          refine lv_iinc (v := x2 + 1) (lv' := [(2, .int (x2 + 1)), (1, .int (x1 + 1)), (0, .ref (A 0))]) hx hb d_Mo_diagnosticCount_33 hl (k := 2) rfl (by first | rfl | decide) (by decide) rfl (fun ls hl => ?_)
          refine lv_goto (tgt := 4) hx hb d_Mo_diagnosticCount_36 (by decide) ?_
          exact ih _ _ h _ _ hP hD hS ls (lv_sub hl [2, 1, 0] rfl)
  refine lv_iconst (v := 0) hx hb d_Mo_diagnosticCount_0 (by decide) ?_
  refine lv_istore_n (lv' := [(1, .int 0), (0, .ref (A 0))]) hx hb d_Mo_diagnosticCount_1 rfl hl (by decide) rfl (fun ls hl => ?_)
  refine lv_iconst (v := 0) hx hb d_Mo_diagnosticCount_2 (by decide) ?_
  refine lv_istore_n (lv' := [(2, .int 0), (1, .int 0), (0, .ref (A 0))]) hx hb d_Mo_diagnosticCount_3 rfl hl (by decide) rfl (fun ls hl => ?_)
  exact L_4  FU _ _ h _ _ hP hD hS ls (lv_sub hl [2, 1, 0] rfl)
def p_Mo_diagnostics (σ : Sto) : Option (Int32 × Sto) :=
  bd1 (p_Mo_analyse (sS σ 0 0)) fun σ_6 =>
    bd1 (p_Mo_diagnosticCount σ_6) fun v_10 =>
    some (v_10, σ_6)
abbrev w_Mo_diagnostics : List Cond := Cond.code y_Mo_diagnostics b_Mo_diagnostics 1 (some .int) :: Tg
abbrev r_Mo_diagnostics : Room := { frames := 12, cells := 0, slots := 0, locals := 269 }
theorem dv_Mo_diagnostics : y_Mo_diagnostics.cls = "LanguageServerModel" ∧ y_Mo_diagnostics.cls ≠ "java/lang/invoke/MethodHandle" ∧ y_Mo_diagnostics.cls ≠ "java/lang/invoke/VarHandle" ∧ (parseMethodDescriptor y_Mo_diagnostics.desc).map (fun d => d.parameters.length) = some 0 := by decide +kernel
set_option maxHeartbeats 4000000 in
set_option maxRecDepth 100000 in
theorem c_Mo_diagnostics (l : Launch) (K : Kst) (A : Nat → Nat) {σ : Sto} {rr : Int32} {ss : Sto} (h : p_Mo_diagnostics σ = some (rr, ss)) : Met l y_Mo_diagnostics w_Mo_diagnostics r_Mo_diagnostics (va_Pc [.ref (A 0)] (YB K A σ)) (YQi K A rr ss) 0 0 (YF A) := by
  refine Met.ofW (cc := b_Mo_diagnostics) (maxL := 1) (ret := (some .int)) (by decide) rfl ?_
  intro p e s m args below meth c s₁ B hml hv
  obtain ⟨rfl, hP, hK, hD⟩ := hv
  have hx := B.exec
  have hb := B.bytes
  have hr := B.returns
  have hts := atoms_spec (ws := w_Mo_diagnostics) B.pre
  have hg : ∀ w ∈ Tg, w.before _ s = true := fun w q => hts w (List.mem_cons_of_mem _ q)
  have hown : s.vm.findClass "LanguageServerModel" = some m.cls := findClass_of_methodNamed B.named
  have hlocks := B.notSynchronized
  have hS : va_S (YF A) s.heap s.heap [] := va_S.rf
  have hl := lv_entry ([.ref (A 0)]) (n := 1) (Nat.le_of_ble_eq_true rfl)
  rw [lg_entry_eq]
  generalize (lg_sl ([.ref (A 0)]) ++ List.replicate (1 - (lg_sl ([.ref (A 0)])).length) Slot.unset).toArray = ls at hl ⊢
  have hl : lv_has ls 1 [(0, .ref (A 0))] := hl
  generalize hargs : ([.ref (A 0)] : List Value).toArray = args at hg hts ⊢
  obtain ⟨Q, hQ⟩ : ∃ Q, Q = MQ below (YQi K A rr ss) args s 0 0 (YF A) := ⟨_, rfl⟩
  rw [← hQ]
  have hRet : ∀ (v : Int32) (σ : Sto), some (v, σ) = some (rr, ss) → ∀ (H : Heap) (locs : List Loc), va_P K.1 vwCl (wY K A σ) H → va_D (YF A) (wY K A σ) → va_S (YF A) s.heap H locs → ∀ (pc : Nat) (ls : Array Slot), decode b_Mo_diagnostics pc = .ok (.ireturn, 1) → W p l e (headSpec w_Mo_diagnostics r_Mo_diagnostics).room s m args below meth c H locs 0 0 Q (F0 m pc ls [.int v]) := by
    intro v σ h H locs hP hD hS pc ls hd
    cases h
    subst hQ
    exact W.iret hx hb hr (fun t ht hW => ⟨⟨_, (), rfl, rfl, by rw [ht]; exact hP, RK.warm hW hK, hD⟩, hS.F ht⟩) hS.2.2 hd
  clear hQ
  unfold p_Mo_diagnostics at h
  refine lv_aload_n hx hb d_Mo_diagnostics_0 rfl (lv_at hl 0 rfl) ?_
  refine lv_iconst (v := 0) hx hb d_Mo_diagnostics_1 (by decide) ?_
  refine pf_Mo_81 hx hb hg hown hK hP hD hS d_Mo_diagnostics_2 (fun H locs hP hD hS => ?_)
  refine lv_aload_n hx hb d_Mo_diagnostics_5 rfl (lv_at hl 0 rfl) ?_
  obtain ⟨σ_6, e_6, h⟩ := bd1_some h
  refine Y_callv (va_runV (As := []) (rest := []) ⟨hx, hb, hml, hown, hts⟩ (c_Mo_analyse l K A e_6) (cwV 0 hts (gd_V wd_1030 wd_1032 wp_44 wd_10 wd_1033) rfl rfl rfl dv_Mo_analyse ⟨Nat.le_of_ble_eq_true rfl, Nat.le_of_ble_eq_true rfl⟩) (Y_pv_0 hK hP hD) rfl rfl hl.1 rfl (lv_room (Nat.le_of_ble_eq_true rfl)) d_Mo_diagnostics_6 ⟨Nat.le_of_ble_eq_true rfl, Nat.le_of_ble_eq_true rfl⟩) hS (fun H locs hP hD hS => ?_)
  refine lv_aload_n hx hb d_Mo_diagnostics_9 rfl (lv_at hl 0 rfl) ?_
  obtain ⟨v_10, e_10, h⟩ := bd1_some h
  refine Y_calli (va_runV (As := []) (rest := []) ⟨hx, hb, hml, hown, hts⟩ (c_Mo_diagnosticCount l K A e_10) (cwV 0 hts (gd_V wd_1211 wd_1213 wp_84 wd_10 wd_1214) rfl rfl rfl dv_Mo_diagnosticCount ⟨Nat.le_of_ble_eq_true rfl, Nat.le_of_ble_eq_true rfl⟩) (Y_pv_0 hK hP hD) rfl rfl hl.1 rfl (lv_room (Nat.le_of_ble_eq_true rfl)) d_Mo_diagnostics_10 ⟨Nat.le_of_ble_eq_true rfl, Nat.le_of_ble_eq_true rfl⟩) hS (fun H locs hP hD hS => ?_)
  exact hRet _ _ h _ _ hP hD hS _ _ d_Mo_diagnostics_13
def p_Mo_diagnostic_L47 (x1 : Int32) (x2 : Int32) : Nat → Sto → Int32 → Int32 → Option (Int32 × Sto)
  | 0, _, _, _ => none
  | n + 1, σ, x3, x4 =>
    (if (1364 : Int32) ≤ x4 then
        some (0, σ)
      else
        if inR (x4 / 11) 124 then (if (((σ.2.1 13 ((x4 / 11).toNatClampNeg)) >>> ((x4 - x4 / 11 * 11) &&& 31)) &&& 1) = 0 then
          p_Mo_diagnostic_L47 x1 x2 n σ x3 (x4 + 1)
        else
          (if x3 = 0 then
            (if x2 = 0 then
              some (x4 - x4 / 11 * 11, σ)
            else
              if inR (x4 / 11) 124 then some (σ.2.1 5 ((x4 / 11).toNatClampNeg), σ) else none)
          else
            p_Mo_diagnostic_L47 x1 x2 n σ (x3 + (-1)) (x4 + 1))) else none)
def p_Mo_diagnostic (σ : Sto) (x1 : Int32) (x2 : Int32) : Option (Int32 × Sto) :=
  bd1 (p_Mo_analyse (sS σ 0 0)) fun σ_6 =>
    (if x1 < 0 then
      bd2 (p_Mo_fail σ_6 1) fun v_23 σ_23 =>
      some (v_23, σ_23)
    else
      bd1 (p_Mo_diagnosticCount σ_6) fun v_15 =>
      (if x1 < v_15 then
        (if x2 < 0 then
          bd2 (p_Mo_fail σ_6 2) fun v_38 σ_38 =>
          some (v_38, σ_38)
        else
          (if x2 ≤ 1 then
            p_Mo_diagnostic_L47 x1 x2 FU σ_6 x1 0
          else
            bd2 (p_Mo_fail σ_6 2) fun v_38 σ_38 =>
            some (v_38, σ_38)))
      else
        bd2 (p_Mo_fail σ_6 1) fun v_23 σ_23 =>
        some (v_23, σ_23)))
abbrev w_Mo_diagnostic : List Cond := Cond.code y_Mo_diagnostic b_Mo_diagnostic 5 (some .int) :: Tg
abbrev r_Mo_diagnostic : Room := { frames := 12, cells := 0, slots := 0, locals := 269 }
theorem dv_Mo_diagnostic : y_Mo_diagnostic.cls = "LanguageServerModel" ∧ y_Mo_diagnostic.cls ≠ "java/lang/invoke/MethodHandle" ∧ y_Mo_diagnostic.cls ≠ "java/lang/invoke/VarHandle" ∧ (parseMethodDescriptor y_Mo_diagnostic.desc).map (fun d => d.parameters.length) = some 2 := by decide +kernel
set_option maxHeartbeats 4000000 in
set_option maxRecDepth 100000 in
theorem c_Mo_diagnostic (l : Launch) (K : Kst) (A : Nat → Nat) {σ : Sto} {x1 : Int32} {x2 : Int32} {rr : Int32} {ss : Sto} (h : p_Mo_diagnostic σ x1 x2 = some (rr, ss)) : Met l y_Mo_diagnostic w_Mo_diagnostic r_Mo_diagnostic (va_Pc [.ref (A 0), .int x1, .int x2] (YB K A σ)) (YQi K A rr ss) 0 0 (YF A) := by
  refine Met.ofW (cc := b_Mo_diagnostic) (maxL := 5) (ret := (some .int)) (by decide) rfl ?_
  intro p e s m args below meth c s₁ B hml hv
  obtain ⟨rfl, hP, hK, hD⟩ := hv
  have hx := B.exec
  have hb := B.bytes
  have hr := B.returns
  have hts := atoms_spec (ws := w_Mo_diagnostic) B.pre
  have hg : ∀ w ∈ Tg, w.before _ s = true := fun w q => hts w (List.mem_cons_of_mem _ q)
  have hown : s.vm.findClass "LanguageServerModel" = some m.cls := findClass_of_methodNamed B.named
  have hlocks := B.notSynchronized
  have hS : va_S (YF A) s.heap s.heap [] := va_S.rf
  have hl := lv_entry ([.ref (A 0), .int x1, .int x2]) (n := 5) (Nat.le_of_ble_eq_true rfl)
  rw [lg_entry_eq]
  generalize (lg_sl ([.ref (A 0), .int x1, .int x2]) ++ List.replicate (5 - (lg_sl ([.ref (A 0), .int x1, .int x2])).length) Slot.unset).toArray = ls at hl ⊢
  have hl : lv_has ls 5 [(0, .ref (A 0)), (1, .int x1), (2, .int x2)] := hl
  generalize hargs : ([.ref (A 0), .int x1, .int x2] : List Value).toArray = args at hg hts ⊢
  obtain ⟨Q, hQ⟩ : ∃ Q, Q = MQ below (YQi K A rr ss) args s 0 0 (YF A) := ⟨_, rfl⟩
  rw [← hQ]
  have hRet : ∀ (v : Int32) (σ : Sto), some (v, σ) = some (rr, ss) → ∀ (H : Heap) (locs : List Loc), va_P K.1 vwCl (wY K A σ) H → va_D (YF A) (wY K A σ) → va_S (YF A) s.heap H locs → ∀ (pc : Nat) (ls : Array Slot), decode b_Mo_diagnostic pc = .ok (.ireturn, 1) → W p l e (headSpec w_Mo_diagnostic r_Mo_diagnostic).room s m args below meth c H locs 0 0 Q (F0 m pc ls [.int v]) := by
    intro v σ h H locs hP hD hS pc ls hd
    cases h
    subst hQ
    exact W.iret hx hb hr (fun t ht hW => ⟨⟨_, (), rfl, rfl, by rw [ht]; exact hP, RK.warm hW hK, hD⟩, hS.F ht⟩) hS.2.2 hd
  clear hQ
  unfold p_Mo_diagnostic at h
  have L_47 : ∀ (n : Nat) (σ : Sto) (x3 : Int32) (x4 : Int32), p_Mo_diagnostic_L47 x1 x2 n σ x3 x4 = some (rr, ss) → ∀ (H : Heap) (locs : List Loc), va_P K.1 vwCl (wY K A σ) H → va_D (YF A) (wY K A σ) → va_S (YF A) s.heap H locs → ∀ ls : Array Slot, lv_has ls 5 [(0, .ref (A 0)), (2, .int x2), (3, .int x3), (4, .int x4)] → W p l e (headSpec w_Mo_diagnostic r_Mo_diagnostic).room s m args below meth c H locs 0 0 Q (F0 m 47 ls []) := by
    intro n
    induction n with
    | zero => intro _ _ _ h; cases h
    | succ n ih =>
      intro σ x3 x4 h H locs hP hD hS ls hl
      rw [p_Mo_diagnostic_L47] at h
      refine lv_iload hx hb d_Mo_diagnostic_47 (lv_at hl 3 rfl) ?_
      refine lv_sipush (v := 1364) hx hb d_Mo_diagnostic_49 (by decide) ?_
      refine lv_icmp_ge (tgt := 115) hx hb d_Mo_diagnostic_52 (by decide) (fun c_52 => ?_) (fun c_52 => ?_)
      · replace h := itp c_52 h
        refine lv_iconst (v := 0) hx hb d_Mo_diagnostic_115 (by decide) ?_
        exact hRet _ _ h _ _ hP hD hS _ _ d_Mo_diagnostic_116
      · replace h := itf c_52 h
        refine lv_aload_n hx hb d_Mo_diagnostic_55 rfl (lv_at hl 0 rfl) ?_
        refine gf_Mo_47 hx hb hg hown hK hP d_Mo_diagnostic_56 ?_
        refine lv_iload hx hb d_Mo_diagnostic_59 (lv_at hl 3 rfl) ?_
        refine lv_bipush (v := 11) hx hb d_Mo_diagnostic_61 (by decide) ?_
        refine lv_idiv hx hb d_Mo_diagnostic_63 (by decide) ?_
        obtain ⟨i_64, h⟩ := itn h
        refine Yra_13 hx hb hK hP i_64 d_Mo_diagnostic_64 ?_
        refine lv_iload hx hb d_Mo_diagnostic_65 (lv_at hl 3 rfl) ?_
        refine lv_bipush (v := 11) hx hb d_Mo_diagnostic_67 (by decide) ?_
        refine lv_irem hx hb d_Mo_diagnostic_69 (by decide) ?_
        refine lv_ishr hx hb d_Mo_diagnostic_70 ?_
        refine lv_iconst (v := 1) hx hb d_Mo_diagnostic_71 (by decide) ?_
        refine lv_iand hx hb d_Mo_diagnostic_72 ?_
        refine lv_if_ne (tgt := 79) hx hb d_Mo_diagnostic_73 (by decide) (fun c_73 => ?_) (fun c_73 => ?_)
        · replace h := itf c_73 h
          refine lv_iload_n hx hb d_Mo_diagnostic_79 rfl (lv_at hl 2 rfl) ?_
          refine lv_if_ne (tgt := 106) hx hb d_Mo_diagnostic_80 (by decide) (fun c_80 => ?_) (fun c_80 => ?_)
          · replace h := itf c_80 h
            refine lv_iinc (v := x3 + (-1)) (lv' := [(3, .int (x3 + (-1))), (0, .ref (A 0)), (2, .int x2), (4, .int x4)]) hx hb d_Mo_diagnostic_106 hl (k := 2) rfl (by first | rfl | decide) (by decide) rfl (fun ls hl => ?_)
            refine lv_iinc (v := x4 + 1) (lv' := [(4, .int (x4 + 1)), (3, .int (x3 + (-1))), (0, .ref (A 0)), (2, .int x2)]) hx hb d_Mo_diagnostic_109 hl (k := 3) rfl (by first | rfl | decide) (by decide) rfl (fun ls hl => ?_)
            refine lv_goto (tgt := 47) hx hb d_Mo_diagnostic_112 (by decide) ?_
            exact ih _ _ _ h _ _ hP hD hS ls (lv_sub hl [2, 3, 1, 0] rfl)
          · replace h := itp c_80 h
            refine lv_iload_n hx hb d_Mo_diagnostic_83 rfl (lv_at hl 1 rfl) ?_
            refine lv_if_ne (tgt := 95) hx hb d_Mo_diagnostic_84 (by decide) (fun c_84 => ?_) (fun c_84 => ?_)
            · replace h := itf c_84 h
              refine lv_aload_n hx hb d_Mo_diagnostic_95 rfl (lv_at hl 0 rfl) ?_
              refine gf_Mo_23 hx hb hg hown hK hP d_Mo_diagnostic_96 ?_
              refine lv_iload hx hb d_Mo_diagnostic_99 (lv_at hl 3 rfl) ?_
              refine lv_bipush (v := 11) hx hb d_Mo_diagnostic_101 (by decide) ?_
              refine lv_idiv hx hb d_Mo_diagnostic_103 (by decide) ?_
              obtain ⟨i_104, h⟩ := itn h
              refine Yra_5 hx hb hK hP i_104 d_Mo_diagnostic_104 ?_
              exact hRet _ _ h _ _ hP hD hS _ _ d_Mo_diagnostic_105
            · replace h := itp c_84 h
              refine lv_iload hx hb d_Mo_diagnostic_87 (lv_at hl 3 rfl) ?_
              refine lv_bipush (v := 11) hx hb d_Mo_diagnostic_89 (by decide) ?_
              refine lv_irem hx hb d_Mo_diagnostic_91 (by decide) ?_
              refine lv_goto (tgt := 105) hx hb d_Mo_diagnostic_92 (by decide) ?_
              exact hRet _ _ h _ _ hP hD hS _ _ d_Mo_diagnostic_105
        · replace h := itp c_73 h
          refine lv_goto (tgt := 109) hx hb d_Mo_diagnostic_76 (by decide) ?_
          refine lv_iinc (v := x4 + 1) (lv' := [(4, .int (x4 + 1)), (0, .ref (A 0)), (2, .int x2), (3, .int x3)]) hx hb d_Mo_diagnostic_109 hl (k := 3) rfl (by first | rfl | decide) (by decide) rfl (fun ls hl => ?_)
          refine lv_goto (tgt := 47) hx hb d_Mo_diagnostic_112 (by decide) ?_
          exact ih _ _ _ h _ _ hP hD hS ls (lv_sub hl [1, 2, 3, 0] rfl)
  refine lv_aload_n hx hb d_Mo_diagnostic_0 rfl (lv_at hl 0 rfl) ?_
  refine lv_iconst (v := 0) hx hb d_Mo_diagnostic_1 (by decide) ?_
  refine pf_Mo_81 hx hb hg hown hK hP hD hS d_Mo_diagnostic_2 (fun H locs hP hD hS => ?_)
  refine lv_aload_n hx hb d_Mo_diagnostic_5 rfl (lv_at hl 0 rfl) ?_
  obtain ⟨σ_6, e_6, h⟩ := bd1_some h
  refine Y_callv (va_runV (As := []) (rest := []) ⟨hx, hb, hml, hown, hts⟩ (c_Mo_analyse l K A e_6) (cwV 0 hts (gd_V wd_1030 wd_1032 wp_44 wd_10 wd_1033) rfl rfl rfl dv_Mo_analyse ⟨Nat.le_of_ble_eq_true rfl, Nat.le_of_ble_eq_true rfl⟩) (Y_pv_0 hK hP hD) rfl rfl hl.1 rfl (lv_room (Nat.le_of_ble_eq_true rfl)) d_Mo_diagnostic_6 ⟨Nat.le_of_ble_eq_true rfl, Nat.le_of_ble_eq_true rfl⟩) hS (fun H locs hP hD hS => ?_)
  refine lv_iload_n hx hb d_Mo_diagnostic_9 rfl (lv_at hl 1 rfl) ?_
  refine lv_if_lt (tgt := 21) hx hb d_Mo_diagnostic_10 (by decide) (fun c_10 => ?_) (fun c_10 => ?_)
  · replace h := itp c_10 h
    refine lv_aload_n hx hb d_Mo_diagnostic_21 rfl (lv_at hl 0 rfl) ?_
    refine lv_iconst (v := 1) hx hb d_Mo_diagnostic_22 (by decide) ?_
    obtain ⟨v_23, σ_23, e_23, h⟩ := bd2_some h
    refine Y_calli (va_runV (As := [.int 1]) (rest := []) ⟨hx, hb, hml, hown, hts⟩ (c_Mo_fail l K A e_23) (cwV 1 hts (gd_V wd_1007 wd_1009 wp_43 wd_10 wd_1010) rfl rfl rfl dv_Mo_fail ⟨Nat.le_of_ble_eq_true rfl, Nat.le_of_ble_eq_true rfl⟩) (Y_pv_0 hK hP hD) rfl rfl hl.1 rfl (lv_room (Nat.le_of_ble_eq_true rfl)) d_Mo_diagnostic_23 ⟨Nat.le_of_ble_eq_true rfl, Nat.le_of_ble_eq_true rfl⟩) hS (fun H locs hP hD hS => ?_)
    exact hRet _ _ h _ _ hP hD hS _ _ d_Mo_diagnostic_26
  · replace h := itf c_10 h
    refine lv_iload_n hx hb d_Mo_diagnostic_13 rfl (lv_at hl 1 rfl) ?_
    refine lv_aload_n hx hb d_Mo_diagnostic_14 rfl (lv_at hl 0 rfl) ?_
    obtain ⟨v_15, e_15, h⟩ := bd1_some h
    refine Y_calli (va_runV (As := []) (rest := [.int x1]) ⟨hx, hb, hml, hown, hts⟩ (c_Mo_diagnosticCount l K A e_15) (cwV 0 hts (gd_V wd_1211 wd_1213 wp_84 wd_10 wd_1214) rfl rfl rfl dv_Mo_diagnosticCount ⟨Nat.le_of_ble_eq_true rfl, Nat.le_of_ble_eq_true rfl⟩) (Y_pv_0 hK hP hD) rfl rfl hl.1 rfl (lv_room (Nat.le_of_ble_eq_true rfl)) d_Mo_diagnostic_15 ⟨Nat.le_of_ble_eq_true rfl, Nat.le_of_ble_eq_true rfl⟩) hS (fun H locs hP hD hS => ?_)
    refine lv_icmp_lt (tgt := 27) hx hb d_Mo_diagnostic_18 (by decide) (fun c_18 => ?_) (fun c_18 => ?_)
    · replace h := itp c_18 h
      refine lv_iload_n hx hb d_Mo_diagnostic_27 rfl (lv_at hl 2 rfl) ?_
      refine lv_if_lt (tgt := 36) hx hb d_Mo_diagnostic_28 (by decide) (fun c_28 => ?_) (fun c_28 => ?_)
      · replace h := itp c_28 h
        refine lv_aload_n hx hb d_Mo_diagnostic_36 rfl (lv_at hl 0 rfl) ?_
        refine lv_iconst (v := 2) hx hb d_Mo_diagnostic_37 (by decide) ?_
        obtain ⟨v_38, σ_38, e_38, h⟩ := bd2_some h
        refine Y_calli (va_runV (As := [.int 2]) (rest := []) ⟨hx, hb, hml, hown, hts⟩ (c_Mo_fail l K A e_38) (cwV 1 hts (gd_V wd_1007 wd_1009 wp_43 wd_10 wd_1010) rfl rfl rfl dv_Mo_fail ⟨Nat.le_of_ble_eq_true rfl, Nat.le_of_ble_eq_true rfl⟩) (Y_pv_0 hK hP hD) rfl rfl hl.1 rfl (lv_room (Nat.le_of_ble_eq_true rfl)) d_Mo_diagnostic_38 ⟨Nat.le_of_ble_eq_true rfl, Nat.le_of_ble_eq_true rfl⟩) hS (fun H locs hP hD hS => ?_)
        exact hRet _ _ h _ _ hP hD hS _ _ d_Mo_diagnostic_41
      · replace h := itf c_28 h
        refine lv_iload_n hx hb d_Mo_diagnostic_31 rfl (lv_at hl 2 rfl) ?_
        refine lv_iconst (v := 1) hx hb d_Mo_diagnostic_32 (by decide) ?_
        refine lv_icmp_le (tgt := 42) hx hb d_Mo_diagnostic_33 (by decide) (fun c_33 => ?_) (fun c_33 => ?_)
        · replace h := itp c_33 h
          refine lv_iload_n hx hb d_Mo_diagnostic_42 rfl (lv_at hl 1 rfl) ?_
          refine lv_istore_n (lv' := [(3, .int x1), (0, .ref (A 0)), (1, .int x1), (2, .int x2)]) hx hb d_Mo_diagnostic_43 rfl hl (by decide) rfl (fun ls hl => ?_)
          refine lv_iconst (v := 0) hx hb d_Mo_diagnostic_44 (by decide) ?_
          refine lv_istore (lv' := [(4, .int 0), (3, .int x1), (0, .ref (A 0)), (1, .int x1), (2, .int x2)]) hx hb d_Mo_diagnostic_45 hl (by decide) rfl (fun ls hl => ?_)
          exact L_47  FU _ _ _ h _ _ hP hD hS ls (lv_sub hl [2, 4, 1, 0] rfl)
        · replace h := itf c_33 h
          refine lv_aload_n hx hb d_Mo_diagnostic_36 rfl (lv_at hl 0 rfl) ?_
          refine lv_iconst (v := 2) hx hb d_Mo_diagnostic_37 (by decide) ?_
          obtain ⟨v_38, σ_38, e_38, h⟩ := bd2_some h
          refine Y_calli (va_runV (As := [.int 2]) (rest := []) ⟨hx, hb, hml, hown, hts⟩ (c_Mo_fail l K A e_38) (cwV 1 hts (gd_V wd_1007 wd_1009 wp_43 wd_10 wd_1010) rfl rfl rfl dv_Mo_fail ⟨Nat.le_of_ble_eq_true rfl, Nat.le_of_ble_eq_true rfl⟩) (Y_pv_0 hK hP hD) rfl rfl hl.1 rfl (lv_room (Nat.le_of_ble_eq_true rfl)) d_Mo_diagnostic_38 ⟨Nat.le_of_ble_eq_true rfl, Nat.le_of_ble_eq_true rfl⟩) hS (fun H locs hP hD hS => ?_)
          exact hRet _ _ h _ _ hP hD hS _ _ d_Mo_diagnostic_41
    · replace h := itf c_18 h
      refine lv_aload_n hx hb d_Mo_diagnostic_21 rfl (lv_at hl 0 rfl) ?_
      refine lv_iconst (v := 1) hx hb d_Mo_diagnostic_22 (by decide) ?_
      obtain ⟨v_23, σ_23, e_23, h⟩ := bd2_some h
      refine Y_calli (va_runV (As := [.int 1]) (rest := []) ⟨hx, hb, hml, hown, hts⟩ (c_Mo_fail l K A e_23) (cwV 1 hts (gd_V wd_1007 wd_1009 wp_43 wd_10 wd_1010) rfl rfl rfl dv_Mo_fail ⟨Nat.le_of_ble_eq_true rfl, Nat.le_of_ble_eq_true rfl⟩) (Y_pv_0 hK hP hD) rfl rfl hl.1 rfl (lv_room (Nat.le_of_ble_eq_true rfl)) d_Mo_diagnostic_23 ⟨Nat.le_of_ble_eq_true rfl, Nat.le_of_ble_eq_true rfl⟩) hS (fun H locs hP hD hS => ?_)
      exact hRet _ _ h _ _ hP hD hS _ _ d_Mo_diagnostic_26
def p_Mo_named_L6 (x1 : Int32) : Nat → Sto → Int32 → Option (Int32 × Sto)
  | 0, _, _ => none
  | n + 1, σ, x2 =>
    (if (σ.1 3) ≤ x2 then
        some ((-1), σ)
      else
        if inR x2 124 then (if x1 < (σ.2.1 5 x2.toNatClampNeg) then
          p_Mo_named_L6 x1 n σ (x2 + 1)
        else
          if inR x2 124 then (if (σ.2.1 6 x2.toNatClampNeg) ≤ x1 then
            p_Mo_named_L6 x1 n σ (x2 + 1)
          else
            if inR x2 124 then (if (σ.2.1 3 x2.toNatClampNeg) = 1 then
              (if (σ.1 5) = 0 then
                if inR x2 124 then (if (σ.2.1 14 x2.toNatClampNeg) < 0 then
                  some ((-1), σ)
                else
                  some (x2, σ)) else none
              else
                some ((-1), σ))
            else
              some ((-1), σ)) else none) else none) else none)
def p_Mo_named (σ : Sto) (x1 : Int32) : Option (Int32 × Sto) :=
  bd1 (p_Mo_analyse σ) fun σ_1 =>
    p_Mo_named_L6 x1 FU σ_1 0
abbrev w_Mo_named : List Cond := Cond.code y_Mo_named b_Mo_named 3 (some .int) :: Tg
abbrev r_Mo_named : Room := { frames := 12, cells := 0, slots := 0, locals := 269 }
theorem dv_Mo_named : y_Mo_named.cls = "LanguageServerModel" ∧ y_Mo_named.cls ≠ "java/lang/invoke/MethodHandle" ∧ y_Mo_named.cls ≠ "java/lang/invoke/VarHandle" ∧ (parseMethodDescriptor y_Mo_named.desc).map (fun d => d.parameters.length) = some 1 := by decide +kernel
set_option maxHeartbeats 4000000 in
set_option maxRecDepth 100000 in
theorem c_Mo_named (l : Launch) (K : Kst) (A : Nat → Nat) {σ : Sto} {x1 : Int32} {rr : Int32} {ss : Sto} (h : p_Mo_named σ x1 = some (rr, ss)) : Met l y_Mo_named w_Mo_named r_Mo_named (va_Pc [.ref (A 0), .int x1] (YB K A σ)) (YQi K A rr ss) 0 0 (YF A) := by
  refine Met.ofW (cc := b_Mo_named) (maxL := 3) (ret := (some .int)) (by decide) rfl ?_
  intro p e s m args below meth c s₁ B hml hv
  obtain ⟨rfl, hP, hK, hD⟩ := hv
  have hx := B.exec
  have hb := B.bytes
  have hr := B.returns
  have hts := atoms_spec (ws := w_Mo_named) B.pre
  have hg : ∀ w ∈ Tg, w.before _ s = true := fun w q => hts w (List.mem_cons_of_mem _ q)
  have hown : s.vm.findClass "LanguageServerModel" = some m.cls := findClass_of_methodNamed B.named
  have hlocks := B.notSynchronized
  have hS : va_S (YF A) s.heap s.heap [] := va_S.rf
  have hl := lv_entry ([.ref (A 0), .int x1]) (n := 3) (Nat.le_of_ble_eq_true rfl)
  rw [lg_entry_eq]
  generalize (lg_sl ([.ref (A 0), .int x1]) ++ List.replicate (3 - (lg_sl ([.ref (A 0), .int x1])).length) Slot.unset).toArray = ls at hl ⊢
  have hl : lv_has ls 3 [(0, .ref (A 0)), (1, .int x1)] := hl
  generalize hargs : ([.ref (A 0), .int x1] : List Value).toArray = args at hg hts ⊢
  obtain ⟨Q, hQ⟩ : ∃ Q, Q = MQ below (YQi K A rr ss) args s 0 0 (YF A) := ⟨_, rfl⟩
  rw [← hQ]
  have hRet : ∀ (v : Int32) (σ : Sto), some (v, σ) = some (rr, ss) → ∀ (H : Heap) (locs : List Loc), va_P K.1 vwCl (wY K A σ) H → va_D (YF A) (wY K A σ) → va_S (YF A) s.heap H locs → ∀ (pc : Nat) (ls : Array Slot), decode b_Mo_named pc = .ok (.ireturn, 1) → W p l e (headSpec w_Mo_named r_Mo_named).room s m args below meth c H locs 0 0 Q (F0 m pc ls [.int v]) := by
    intro v σ h H locs hP hD hS pc ls hd
    cases h
    subst hQ
    exact W.iret hx hb hr (fun t ht hW => ⟨⟨_, (), rfl, rfl, by rw [ht]; exact hP, RK.warm hW hK, hD⟩, hS.F ht⟩) hS.2.2 hd
  clear hQ
  unfold p_Mo_named at h
  have L_6 : ∀ (n : Nat) (σ : Sto) (x2 : Int32), p_Mo_named_L6 x1 n σ x2 = some (rr, ss) → ∀ (H : Heap) (locs : List Loc), va_P K.1 vwCl (wY K A σ) H → va_D (YF A) (wY K A σ) → va_S (YF A) s.heap H locs → ∀ ls : Array Slot, lv_has ls 3 [(0, .ref (A 0)), (1, .int x1), (2, .int x2)] → W p l e (headSpec w_Mo_named r_Mo_named).room s m args below meth c H locs 0 0 Q (F0 m 6 ls []) := by
    intro n
    induction n with
    | zero => intro _ _ h; cases h
    | succ n ih =>
      intro σ x2 h H locs hP hD hS ls hl
      rw [p_Mo_named_L6] at h
      refine lv_iload_n hx hb d_Mo_named_6 rfl (lv_at hl 2 rfl) ?_
      refine lv_aload_n hx hb d_Mo_named_7 rfl (lv_at hl 0 rfl) ?_
      refine gf_Mo_118 hx hb hg hown hK hP d_Mo_named_8 ?_
      refine lv_icmp_ge (tgt := 72) hx hb d_Mo_named_11 (by decide) (fun c_11 => ?_) (fun c_11 => ?_)
      · replace h := itp c_11 h
        refine lv_iconst (v := (-1)) hx hb d_Mo_named_72 (by decide) ?_
        exact hRet _ _ h _ _ hP hD hS _ _ d_Mo_named_73
      · replace h := itf c_11 h
        refine lv_iload_n hx hb d_Mo_named_14 rfl (lv_at hl 1 rfl) ?_
        refine lv_aload_n hx hb d_Mo_named_15 rfl (lv_at hl 0 rfl) ?_
        refine gf_Mo_23 hx hb hg hown hK hP d_Mo_named_16 ?_
        refine lv_iload_n hx hb d_Mo_named_19 rfl (lv_at hl 2 rfl) ?_
        obtain ⟨i_20, h⟩ := itn h
        refine Yra_5 hx hb hK hP i_20 d_Mo_named_20 ?_
        refine lv_icmp_lt (tgt := 66) hx hb d_Mo_named_21 (by decide) (fun c_21 => ?_) (fun c_21 => ?_)
        · replace h := itp c_21 h
          refine lv_iinc (v := x2 + 1) (lv' := [(2, .int (x2 + 1)), (0, .ref (A 0)), (1, .int x1)]) hx hb d_Mo_named_66 hl (k := 2) rfl (by first | rfl | decide) (by decide) rfl (fun ls hl => ?_)
          refine lv_goto (tgt := 6) hx hb d_Mo_named_69 (by decide) ?_
          exact ih _ _ h _ _ hP hD hS ls (lv_sub hl [1, 2, 0] rfl)
        · replace h := itf c_21 h
          refine lv_iload_n hx hb d_Mo_named_24 rfl (lv_at hl 1 rfl) ?_
          refine lv_aload_n hx hb d_Mo_named_25 rfl (lv_at hl 0 rfl) ?_
          refine gf_Mo_26 hx hb hg hown hK hP d_Mo_named_26 ?_
          refine lv_iload_n hx hb d_Mo_named_29 rfl (lv_at hl 2 rfl) ?_
          obtain ⟨i_30, h⟩ := itn h
          refine Yra_6 hx hb hK hP i_30 d_Mo_named_30 ?_
          refine lv_icmp_ge (tgt := 66) hx hb d_Mo_named_31 (by decide) (fun c_31 => ?_) (fun c_31 => ?_)
          · replace h := itp c_31 h
            refine lv_iinc (v := x2 + 1) (lv' := [(2, .int (x2 + 1)), (0, .ref (A 0)), (1, .int x1)]) hx hb d_Mo_named_66 hl (k := 2) rfl (by first | rfl | decide) (by decide) rfl (fun ls hl => ?_)
            refine lv_goto (tgt := 6) hx hb d_Mo_named_69 (by decide) ?_
            exact ih _ _ h _ _ hP hD hS ls (lv_sub hl [1, 2, 0] rfl)
          · replace h := itf c_31 h
            refine lv_aload_n hx hb d_Mo_named_34 rfl (lv_at hl 0 rfl) ?_
            refine gf_Mo_16 hx hb hg hown hK hP d_Mo_named_35 ?_
            refine lv_iload_n hx hb d_Mo_named_38 rfl (lv_at hl 2 rfl) ?_
            obtain ⟨i_39, h⟩ := itn h
            refine Yra_3 hx hb hK hP i_39 d_Mo_named_39 ?_
            refine lv_iconst (v := 1) hx hb d_Mo_named_40 (by decide) ?_
            refine lv_icmp_ne (tgt := 64) hx hb d_Mo_named_41 (by decide) (fun c_41 => ?_) (fun c_41 => ?_)
            · replace h := itf c_41 h
              refine lv_iconst (v := (-1)) hx hb d_Mo_named_64 (by decide) ?_
              exact hRet _ _ h _ _ hP hD hS _ _ d_Mo_named_65
            · replace h := itp c_41 h
              refine lv_aload_n hx hb d_Mo_named_44 rfl (lv_at hl 0 rfl) ?_
              refine gf_Mo_131 hx hb hg hown hK hP d_Mo_named_45 ?_
              refine lv_if_ne (tgt := 64) hx hb d_Mo_named_48 (by decide) (fun c_48 => ?_) (fun c_48 => ?_)
              · replace h := itf c_48 h
                refine lv_iconst (v := (-1)) hx hb d_Mo_named_64 (by decide) ?_
                exact hRet _ _ h _ _ hP hD hS _ _ d_Mo_named_65
              · replace h := itp c_48 h
                refine lv_aload_n hx hb d_Mo_named_51 rfl (lv_at hl 0 rfl) ?_
                refine gf_Mo_50 hx hb hg hown hK hP d_Mo_named_52 ?_
                refine lv_iload_n hx hb d_Mo_named_55 rfl (lv_at hl 2 rfl) ?_
                obtain ⟨i_56, h⟩ := itn h
                refine Yra_14 hx hb hK hP i_56 d_Mo_named_56 ?_
                refine lv_if_lt (tgt := 64) hx hb d_Mo_named_57 (by decide) (fun c_57 => ?_) (fun c_57 => ?_)
                · replace h := itp c_57 h
                  refine lv_iconst (v := (-1)) hx hb d_Mo_named_64 (by decide) ?_
                  exact hRet _ _ h _ _ hP hD hS _ _ d_Mo_named_65
                · replace h := itf c_57 h
                  refine lv_iload_n hx hb d_Mo_named_60 rfl (lv_at hl 2 rfl) ?_
                  refine lv_goto (tgt := 65) hx hb d_Mo_named_61 (by decide) ?_
                  exact hRet _ _ h _ _ hP hD hS _ _ d_Mo_named_65
  refine lv_aload_n hx hb d_Mo_named_0 rfl (lv_at hl 0 rfl) ?_
  obtain ⟨σ_1, e_1, h⟩ := bd1_some h
  refine Y_callv (va_runV (As := []) (rest := []) ⟨hx, hb, hml, hown, hts⟩ (c_Mo_analyse l K A e_1) (cwV 0 hts (gd_V wd_1030 wd_1032 wp_44 wd_10 wd_1033) rfl rfl rfl dv_Mo_analyse ⟨Nat.le_of_ble_eq_true rfl, Nat.le_of_ble_eq_true rfl⟩) (Y_pv_0 hK hP hD) rfl rfl hl.1 rfl (lv_room (Nat.le_of_ble_eq_true rfl)) d_Mo_named_1 ⟨Nat.le_of_ble_eq_true rfl, Nat.le_of_ble_eq_true rfl⟩) hS (fun H locs hP hD hS => ?_)
  refine lv_iconst (v := 0) hx hb d_Mo_named_4 (by decide) ?_
  refine lv_istore_n (lv' := [(2, .int 0), (0, .ref (A 0)), (1, .int x1)]) hx hb d_Mo_named_5 rfl hl (by decide) rfl (fun ls hl => ?_)
  exact L_6  FU _ _ h _ _ hP hD hS ls (lv_sub hl [1, 2, 0] rfl)
def p_Mo_definition (σ : Sto) (x1 : Int32) : Option (Int32 × Sto) :=
  bd2 (p_Mo_named (sS σ 0 0) x1) fun v_7 σ_7 =>
    (if (0 : Int32) ≤ v_7 then
      if inR v_7 124 then if inR (σ_7.2.1 14 v_7.toNatClampNeg) 124 then some (σ_7.2.1 5 ((σ_7.2.1 14 v_7.toNatClampNeg).toNatClampNeg), σ_7) else none else none
    else
      bd2 (p_Mo_fail σ_7 1) fun v_17 σ_17 =>
      some (v_17, σ_17))
abbrev w_Mo_definition : List Cond := Cond.code y_Mo_definition b_Mo_definition 3 (some .int) :: Tg
abbrev r_Mo_definition : Room := { frames := 13, cells := 0, slots := 0, locals := 291 }
theorem dv_Mo_definition : y_Mo_definition.cls = "LanguageServerModel" ∧ y_Mo_definition.cls ≠ "java/lang/invoke/MethodHandle" ∧ y_Mo_definition.cls ≠ "java/lang/invoke/VarHandle" ∧ (parseMethodDescriptor y_Mo_definition.desc).map (fun d => d.parameters.length) = some 1 := by decide +kernel
set_option maxHeartbeats 4000000 in
set_option maxRecDepth 100000 in
theorem c_Mo_definition (l : Launch) (K : Kst) (A : Nat → Nat) {σ : Sto} {x1 : Int32} {rr : Int32} {ss : Sto} (h : p_Mo_definition σ x1 = some (rr, ss)) : Met l y_Mo_definition w_Mo_definition r_Mo_definition (va_Pc [.ref (A 0), .int x1] (YB K A σ)) (YQi K A rr ss) 0 0 (YF A) := by
  refine Met.ofW (cc := b_Mo_definition) (maxL := 3) (ret := (some .int)) (by decide) rfl ?_
  intro p e s m args below meth c s₁ B hml hv
  obtain ⟨rfl, hP, hK, hD⟩ := hv
  have hx := B.exec
  have hb := B.bytes
  have hr := B.returns
  have hts := atoms_spec (ws := w_Mo_definition) B.pre
  have hg : ∀ w ∈ Tg, w.before _ s = true := fun w q => hts w (List.mem_cons_of_mem _ q)
  have hown : s.vm.findClass "LanguageServerModel" = some m.cls := findClass_of_methodNamed B.named
  have hlocks := B.notSynchronized
  have hS : va_S (YF A) s.heap s.heap [] := va_S.rf
  have hl := lv_entry ([.ref (A 0), .int x1]) (n := 3) (Nat.le_of_ble_eq_true rfl)
  rw [lg_entry_eq]
  generalize (lg_sl ([.ref (A 0), .int x1]) ++ List.replicate (3 - (lg_sl ([.ref (A 0), .int x1])).length) Slot.unset).toArray = ls at hl ⊢
  have hl : lv_has ls 3 [(0, .ref (A 0)), (1, .int x1)] := hl
  generalize hargs : ([.ref (A 0), .int x1] : List Value).toArray = args at hg hts ⊢
  obtain ⟨Q, hQ⟩ : ∃ Q, Q = MQ below (YQi K A rr ss) args s 0 0 (YF A) := ⟨_, rfl⟩
  rw [← hQ]
  have hRet : ∀ (v : Int32) (σ : Sto), some (v, σ) = some (rr, ss) → ∀ (H : Heap) (locs : List Loc), va_P K.1 vwCl (wY K A σ) H → va_D (YF A) (wY K A σ) → va_S (YF A) s.heap H locs → ∀ (pc : Nat) (ls : Array Slot), decode b_Mo_definition pc = .ok (.ireturn, 1) → W p l e (headSpec w_Mo_definition r_Mo_definition).room s m args below meth c H locs 0 0 Q (F0 m pc ls [.int v]) := by
    intro v σ h H locs hP hD hS pc ls hd
    cases h
    subst hQ
    exact W.iret hx hb hr (fun t ht hW => ⟨⟨_, (), rfl, rfl, by rw [ht]; exact hP, RK.warm hW hK, hD⟩, hS.F ht⟩) hS.2.2 hd
  clear hQ
  unfold p_Mo_definition at h
  refine lv_aload_n hx hb d_Mo_definition_0 rfl (lv_at hl 0 rfl) ?_
  refine lv_iconst (v := 0) hx hb d_Mo_definition_1 (by decide) ?_
  refine pf_Mo_81 hx hb hg hown hK hP hD hS d_Mo_definition_2 (fun H locs hP hD hS => ?_)
  refine lv_aload_n hx hb d_Mo_definition_5 rfl (lv_at hl 0 rfl) ?_
  refine lv_iload_n hx hb d_Mo_definition_6 rfl (lv_at hl 1 rfl) ?_
  obtain ⟨v_7, σ_7, e_7, h⟩ := bd2_some h
  refine Y_calli (va_runV (As := [.int x1]) (rest := []) ⟨hx, hb, hml, hown, hts⟩ (c_Mo_named l K A e_7) (cwV 1 hts (gd_V wd_1223 wd_1225 wp_85 wd_10 wd_1226) rfl rfl rfl dv_Mo_named ⟨Nat.le_of_ble_eq_true rfl, Nat.le_of_ble_eq_true rfl⟩) (Y_pv_0 hK hP hD) rfl rfl hl.1 rfl (lv_room (Nat.le_of_ble_eq_true rfl)) d_Mo_definition_7 ⟨Nat.le_of_ble_eq_true rfl, Nat.le_of_ble_eq_true rfl⟩) hS (fun H locs hP hD hS => ?_)
  refine lv_istore_n (lv' := [(2, .int v_7), (0, .ref (A 0)), (1, .int x1)]) hx hb d_Mo_definition_10 rfl hl (by decide) rfl (fun ls hl => ?_)
  refine lv_iload_n hx hb d_Mo_definition_11 rfl (lv_at hl 0 rfl) ?_
  refine lv_if_ge (tgt := 23) hx hb d_Mo_definition_12 (by decide) (fun c_12 => ?_) (fun c_12 => ?_)
  · replace h := itp c_12 h
    refine lv_aload_n hx hb d_Mo_definition_23 rfl (lv_at hl 1 rfl) ?_
    refine gf_Mo_23 hx hb hg hown hK hP d_Mo_definition_24 ?_
    refine lv_aload_n hx hb d_Mo_definition_27 rfl (lv_at hl 1 rfl) ?_
    refine gf_Mo_50 hx hb hg hown hK hP d_Mo_definition_28 ?_
    refine lv_iload_n hx hb d_Mo_definition_31 rfl (lv_at hl 0 rfl) ?_
    obtain ⟨i_32, h⟩ := itn h
    refine Yra_14 hx hb hK hP i_32 d_Mo_definition_32 ?_
    obtain ⟨i_33, h⟩ := itn h
    refine Yra_5 hx hb hK hP i_33 d_Mo_definition_33 ?_
    exact hRet _ _ h _ _ hP hD hS _ _ d_Mo_definition_34
  · replace h := itf c_12 h
    refine lv_aload_n hx hb d_Mo_definition_15 rfl (lv_at hl 1 rfl) ?_
    refine lv_iconst (v := 1) hx hb d_Mo_definition_16 (by decide) ?_
    obtain ⟨v_17, σ_17, e_17, h⟩ := bd2_some h
    refine Y_calli (va_runV (As := [.int 1]) (rest := []) ⟨hx, hb, hml, hown, hts⟩ (c_Mo_fail l K A e_17) (cwV 1 hts (gd_V wd_1007 wd_1009 wp_43 wd_10 wd_1010) rfl rfl rfl dv_Mo_fail ⟨Nat.le_of_ble_eq_true rfl, Nat.le_of_ble_eq_true rfl⟩) (Y_pv_0 hK hP hD) rfl rfl hl.1 rfl (lv_room (Nat.le_of_ble_eq_true rfl)) d_Mo_definition_17 ⟨Nat.le_of_ble_eq_true rfl, Nat.le_of_ble_eq_true rfl⟩) hS (fun H locs hP hD hS => ?_)
    refine lv_goto (tgt := 34) hx hb d_Mo_definition_20 (by decide) ?_
    exact hRet _ _ h _ _ hP hD hS _ _ d_Mo_definition_34
def p_Mo_type (σ : Sto) (x1 : Int32) : Option (Int32 × Sto) :=
  bd2 (p_Mo_named (sS σ 0 0) x1) fun v_7 σ_7 =>
    (if (0 : Int32) ≤ v_7 then
      if inR v_7 124 then if inR (σ_7.2.1 14 v_7.toNatClampNeg) 124 then (if (σ_7.2.1 7 ((σ_7.2.1 14 v_7.toNatClampNeg).toNatClampNeg)) = 1 then
        if inR (σ_7.2.1 14 v_7.toNatClampNeg) 124 then some (σ_7.2.1 8 ((σ_7.2.1 14 v_7.toNatClampNeg).toNatClampNeg), σ_7) else none
      else
        bd1 (p_Mo_declared σ_7 (σ_7.2.1 14 v_7.toNatClampNeg)) fun v_49 =>
        some (v_49, σ_7)) else none else none
    else
      bd2 (p_Mo_fail σ_7 1) fun v_17 σ_17 =>
      some (v_17, σ_17))
abbrev w_Mo_type : List Cond := Cond.code y_Mo_type b_Mo_type 4 (some .int) :: Tg
abbrev r_Mo_type : Room := { frames := 13, cells := 0, slots := 0, locals := 291 }
theorem dv_Mo_type : y_Mo_type.cls = "LanguageServerModel" ∧ y_Mo_type.cls ≠ "java/lang/invoke/MethodHandle" ∧ y_Mo_type.cls ≠ "java/lang/invoke/VarHandle" ∧ (parseMethodDescriptor y_Mo_type.desc).map (fun d => d.parameters.length) = some 1 := by decide +kernel
set_option maxHeartbeats 4000000 in
set_option maxRecDepth 100000 in
theorem c_Mo_type (l : Launch) (K : Kst) (A : Nat → Nat) {σ : Sto} {x1 : Int32} {rr : Int32} {ss : Sto} (h : p_Mo_type σ x1 = some (rr, ss)) : Met l y_Mo_type w_Mo_type r_Mo_type (va_Pc [.ref (A 0), .int x1] (YB K A σ)) (YQi K A rr ss) 0 0 (YF A) := by
  refine Met.ofW (cc := b_Mo_type) (maxL := 4) (ret := (some .int)) (by decide) rfl ?_
  intro p e s m args below meth c s₁ B hml hv
  obtain ⟨rfl, hP, hK, hD⟩ := hv
  have hx := B.exec
  have hb := B.bytes
  have hr := B.returns
  have hts := atoms_spec (ws := w_Mo_type) B.pre
  have hg : ∀ w ∈ Tg, w.before _ s = true := fun w q => hts w (List.mem_cons_of_mem _ q)
  have hown : s.vm.findClass "LanguageServerModel" = some m.cls := findClass_of_methodNamed B.named
  have hlocks := B.notSynchronized
  have hS : va_S (YF A) s.heap s.heap [] := va_S.rf
  have hl := lv_entry ([.ref (A 0), .int x1]) (n := 4) (Nat.le_of_ble_eq_true rfl)
  rw [lg_entry_eq]
  generalize (lg_sl ([.ref (A 0), .int x1]) ++ List.replicate (4 - (lg_sl ([.ref (A 0), .int x1])).length) Slot.unset).toArray = ls at hl ⊢
  have hl : lv_has ls 4 [(0, .ref (A 0)), (1, .int x1)] := hl
  generalize hargs : ([.ref (A 0), .int x1] : List Value).toArray = args at hg hts ⊢
  obtain ⟨Q, hQ⟩ : ∃ Q, Q = MQ below (YQi K A rr ss) args s 0 0 (YF A) := ⟨_, rfl⟩
  rw [← hQ]
  have hRet : ∀ (v : Int32) (σ : Sto), some (v, σ) = some (rr, ss) → ∀ (H : Heap) (locs : List Loc), va_P K.1 vwCl (wY K A σ) H → va_D (YF A) (wY K A σ) → va_S (YF A) s.heap H locs → ∀ (pc : Nat) (ls : Array Slot), decode b_Mo_type pc = .ok (.ireturn, 1) → W p l e (headSpec w_Mo_type r_Mo_type).room s m args below meth c H locs 0 0 Q (F0 m pc ls [.int v]) := by
    intro v σ h H locs hP hD hS pc ls hd
    cases h
    subst hQ
    exact W.iret hx hb hr (fun t ht hW => ⟨⟨_, (), rfl, rfl, by rw [ht]; exact hP, RK.warm hW hK, hD⟩, hS.F ht⟩) hS.2.2 hd
  clear hQ
  unfold p_Mo_type at h
  refine lv_aload_n hx hb d_Mo_type_0 rfl (lv_at hl 0 rfl) ?_
  refine lv_iconst (v := 0) hx hb d_Mo_type_1 (by decide) ?_
  refine pf_Mo_81 hx hb hg hown hK hP hD hS d_Mo_type_2 (fun H locs hP hD hS => ?_)
  refine lv_aload_n hx hb d_Mo_type_5 rfl (lv_at hl 0 rfl) ?_
  refine lv_iload_n hx hb d_Mo_type_6 rfl (lv_at hl 1 rfl) ?_
  obtain ⟨v_7, σ_7, e_7, h⟩ := bd2_some h
  refine Y_calli (va_runV (As := [.int x1]) (rest := []) ⟨hx, hb, hml, hown, hts⟩ (c_Mo_named l K A e_7) (cwV 1 hts (gd_V wd_1223 wd_1225 wp_85 wd_10 wd_1226) rfl rfl rfl dv_Mo_named ⟨Nat.le_of_ble_eq_true rfl, Nat.le_of_ble_eq_true rfl⟩) (Y_pv_0 hK hP hD) rfl rfl hl.1 rfl (lv_room (Nat.le_of_ble_eq_true rfl)) d_Mo_type_7 ⟨Nat.le_of_ble_eq_true rfl, Nat.le_of_ble_eq_true rfl⟩) hS (fun H locs hP hD hS => ?_)
  refine lv_istore_n (lv' := [(2, .int v_7), (0, .ref (A 0)), (1, .int x1)]) hx hb d_Mo_type_10 rfl hl (by decide) rfl (fun ls hl => ?_)
  refine lv_iload_n hx hb d_Mo_type_11 rfl (lv_at hl 0 rfl) ?_
  refine lv_if_ge (tgt := 21) hx hb d_Mo_type_12 (by decide) (fun c_12 => ?_) (fun c_12 => ?_)
  · replace h := itp c_12 h
    refine lv_aload_n hx hb d_Mo_type_21 rfl (lv_at hl 1 rfl) ?_
    refine gf_Mo_50 hx hb hg hown hK hP d_Mo_type_22 ?_
    refine lv_iload_n hx hb d_Mo_type_25 rfl (lv_at hl 0 rfl) ?_
    obtain ⟨i_26, h⟩ := itn h
    refine Yra_14 hx hb hK hP i_26 d_Mo_type_26 ?_
    refine lv_istore_n (lv' := [(3, .int (σ_7.2.1 14 v_7.toNatClampNeg)), (2, .int v_7), (0, .ref (A 0)), (1, .int x1)]) hx hb d_Mo_type_27 rfl hl (by decide) rfl (fun ls hl => ?_)
    refine lv_aload_n hx hb d_Mo_type_28 rfl (lv_at hl 2 rfl) ?_
    refine gf_Mo_29 hx hb hg hown hK hP d_Mo_type_29 ?_
    refine lv_iload_n hx hb d_Mo_type_32 rfl (lv_at hl 0 rfl) ?_
    obtain ⟨i_33, h⟩ := itn h
    refine Yra_7 hx hb hK hP i_33 d_Mo_type_33 ?_
    refine lv_iconst (v := 1) hx hb d_Mo_type_34 (by decide) ?_
    refine lv_icmp_ne (tgt := 47) hx hb d_Mo_type_35 (by decide) (fun c_35 => ?_) (fun c_35 => ?_)
    · replace h := itf c_35 h
      refine lv_aload_n hx hb d_Mo_type_47 rfl (lv_at hl 2 rfl) ?_
      refine lv_iload_n hx hb d_Mo_type_48 rfl (lv_at hl 0 rfl) ?_
      obtain ⟨v_49, e_49, h⟩ := bd1_some h
      refine Y_calli (va_runV (As := [.int (σ_7.2.1 14 v_7.toNatClampNeg)]) (rest := []) ⟨hx, hb, hml, hown, hts⟩ (c_Mo_declared l K A e_49) (cwV 1 hts (gd_V wd_1175 wd_1177 wp_75 wd_10 wd_1178) rfl rfl rfl dv_Mo_declared ⟨Nat.le_of_ble_eq_true rfl, Nat.le_of_ble_eq_true rfl⟩) (Y_pv_0 hK hP hD) rfl rfl hl.1 rfl (lv_room (Nat.le_of_ble_eq_true rfl)) d_Mo_type_49 ⟨Nat.le_of_ble_eq_true rfl, Nat.le_of_ble_eq_true rfl⟩) hS (fun H locs hP hD hS => ?_)
      exact hRet _ _ h _ _ hP hD hS _ _ d_Mo_type_52
    · replace h := itp c_35 h
      refine lv_aload_n hx hb d_Mo_type_38 rfl (lv_at hl 2 rfl) ?_
      refine gf_Mo_32 hx hb hg hown hK hP d_Mo_type_39 ?_
      refine lv_iload_n hx hb d_Mo_type_42 rfl (lv_at hl 0 rfl) ?_
      obtain ⟨i_43, h⟩ := itn h
      refine Yra_8 hx hb hK hP i_43 d_Mo_type_43 ?_
      refine lv_goto (tgt := 52) hx hb d_Mo_type_44 (by decide) ?_
      exact hRet _ _ h _ _ hP hD hS _ _ d_Mo_type_52
  · replace h := itf c_12 h
    refine lv_aload_n hx hb d_Mo_type_15 rfl (lv_at hl 1 rfl) ?_
    refine lv_iconst (v := 1) hx hb d_Mo_type_16 (by decide) ?_
    obtain ⟨v_17, σ_17, e_17, h⟩ := bd2_some h
    refine Y_calli (va_runV (As := [.int 1]) (rest := []) ⟨hx, hb, hml, hown, hts⟩ (c_Mo_fail l K A e_17) (cwV 1 hts (gd_V wd_1007 wd_1009 wp_43 wd_10 wd_1010) rfl rfl rfl dv_Mo_fail ⟨Nat.le_of_ble_eq_true rfl, Nat.le_of_ble_eq_true rfl⟩) (Y_pv_0 hK hP hD) rfl rfl hl.1 rfl (lv_room (Nat.le_of_ble_eq_true rfl)) d_Mo_type_17 ⟨Nat.le_of_ble_eq_true rfl, Nat.le_of_ble_eq_true rfl⟩) hS (fun H locs hP hD hS => ?_)
    exact hRet _ _ h _ _ hP hD hS _ _ d_Mo_type_20
def p_Mo_uses_L4 (σ : Sto) (x1 : Int32) : Nat → Int32 → Int32 → Option Int32
  | 0, _, _ => none
  | n + 1, x2, x3 =>
    (if (σ.1 3) ≤ x3 then
        some x2
      else
        if inR x3 124 then (if (σ.2.1 14 x3.toNatClampNeg) = x1 then
          p_Mo_uses_L4 σ x1 n (x2 + 1) (x3 + 1)
        else
          p_Mo_uses_L4 σ x1 n x2 (x3 + 1)) else none)
def p_Mo_uses (σ : Sto) (x1 : Int32) : Option Int32 :=
  p_Mo_uses_L4 σ x1 FU 0 0
abbrev w_Mo_uses : List Cond := Cond.code y_Mo_uses b_Mo_uses 4 (some .int) :: Tg
abbrev r_Mo_uses : Room := { frames := 0, cells := 0, slots := 0, locals := 0 }
theorem dv_Mo_uses : y_Mo_uses.cls = "LanguageServerModel" ∧ y_Mo_uses.cls ≠ "java/lang/invoke/MethodHandle" ∧ y_Mo_uses.cls ≠ "java/lang/invoke/VarHandle" ∧ (parseMethodDescriptor y_Mo_uses.desc).map (fun d => d.parameters.length) = some 1 := by decide +kernel
set_option maxHeartbeats 4000000 in
set_option maxRecDepth 100000 in
theorem c_Mo_uses (l : Launch) (K : Kst) (A : Nat → Nat) {σ : Sto} {x1 : Int32} {rr : Int32} (h : p_Mo_uses σ x1 = some rr) : Met l y_Mo_uses w_Mo_uses r_Mo_uses (va_Pc [.ref (A 0), .int x1] (YB K A σ)) (YQi K A rr σ) 0 0 (YF A) := by
  refine Met.ofW (cc := b_Mo_uses) (maxL := 4) (ret := (some .int)) (by decide) rfl ?_
  intro p e s m args below meth c s₁ B hml hv
  obtain ⟨rfl, hP, hK, hD⟩ := hv
  have hx := B.exec
  have hb := B.bytes
  have hr := B.returns
  have hts := atoms_spec (ws := w_Mo_uses) B.pre
  have hg : ∀ w ∈ Tg, w.before _ s = true := fun w q => hts w (List.mem_cons_of_mem _ q)
  have hown : s.vm.findClass "LanguageServerModel" = some m.cls := findClass_of_methodNamed B.named
  have hlocks := B.notSynchronized
  have hS : va_S (YF A) s.heap s.heap [] := va_S.rf
  have hl := lv_entry ([.ref (A 0), .int x1]) (n := 4) (Nat.le_of_ble_eq_true rfl)
  rw [lg_entry_eq]
  generalize (lg_sl ([.ref (A 0), .int x1]) ++ List.replicate (4 - (lg_sl ([.ref (A 0), .int x1])).length) Slot.unset).toArray = ls at hl ⊢
  have hl : lv_has ls 4 [(0, .ref (A 0)), (1, .int x1)] := hl
  generalize hargs : ([.ref (A 0), .int x1] : List Value).toArray = args at hg hts ⊢
  obtain ⟨Q, hQ⟩ : ∃ Q, Q = MQ below (YQi K A rr σ) args s 0 0 (YF A) := ⟨_, rfl⟩
  rw [← hQ]
  have hRet : ∀ (v : Int32), some v = some rr → ∀ (H : Heap) (locs : List Loc), va_P K.1 vwCl (wY K A σ) H → va_D (YF A) (wY K A σ) → va_S (YF A) s.heap H locs → ∀ (pc : Nat) (ls : Array Slot), decode b_Mo_uses pc = .ok (.ireturn, 1) → W p l e (headSpec w_Mo_uses r_Mo_uses).room s m args below meth c H locs 0 0 Q (F0 m pc ls [.int v]) := by
    intro v h H locs hP hD hS pc ls hd
    cases h
    subst hQ
    exact W.iret hx hb hr (fun t ht hW => ⟨⟨_, (), rfl, rfl, by rw [ht]; exact hP, RK.warm hW hK, hD⟩, hS.F ht⟩) hS.2.2 hd
  clear hQ
  unfold p_Mo_uses at h
  have L_4 : ∀ (n : Nat) (x2 : Int32) (x3 : Int32), p_Mo_uses_L4 σ x1 n x2 x3 = some rr → ∀ (H : Heap) (locs : List Loc), va_P K.1 vwCl (wY K A σ) H → va_D (YF A) (wY K A σ) → va_S (YF A) s.heap H locs → ∀ ls : Array Slot, lv_has ls 4 [(0, .ref (A 0)), (1, .int x1), (2, .int x2), (3, .int x3)] → W p l e (headSpec w_Mo_uses r_Mo_uses).room s m args below meth c H locs 0 0 Q (F0 m 4 ls []) := by
    intro n
    induction n with
    | zero => intro _ _ h; cases h
    | succ n ih =>
      intro x2 x3 h H locs hP hD hS ls hl
      rw [p_Mo_uses_L4] at h
      refine lv_iload_n hx hb d_Mo_uses_4 rfl (lv_at hl 3 rfl) ?_
      refine lv_aload_n hx hb d_Mo_uses_5 rfl (lv_at hl 0 rfl) ?_
      refine gf_Mo_118 hx hb hg hown hK hP d_Mo_uses_6 ?_
      refine lv_icmp_ge (tgt := 31) hx hb d_Mo_uses_9 (by decide) (fun c_9 => ?_) (fun c_9 => ?_)
      · replace h := itp c_9 h
        refine lv_iload_n hx hb d_Mo_uses_31 rfl (lv_at hl 2 rfl) ?_
        exact hRet _ h _ _ hP hD hS _ _ d_Mo_uses_32
      · replace h := itf c_9 h
        refine lv_aload_n hx hb d_Mo_uses_12 rfl (lv_at hl 0 rfl) ?_
        refine gf_Mo_50 hx hb hg hown hK hP d_Mo_uses_13 ?_
        refine lv_iload_n hx hb d_Mo_uses_16 rfl (lv_at hl 3 rfl) ?_
        obtain ⟨i_17, h⟩ := itn h
        refine Yra_14 hx hb hK hP i_17 d_Mo_uses_17 ?_
        refine lv_iload_n hx hb d_Mo_uses_18 rfl (lv_at hl 1 rfl) ?_
        refine lv_icmp_ne (tgt := 25) hx hb d_Mo_uses_19 (by decide) (fun c_19 => ?_) (fun c_19 => ?_)
        · replace h := itf c_19 h
          refine lv_iinc (v := x3 + 1) (lv' := [(3, .int (x3 + 1)), (0, .ref (A 0)), (1, .int x1), (2, .int x2)]) hx hb d_Mo_uses_25 hl (k := 3) rfl (by first | rfl | decide) (by decide) rfl (fun ls hl => ?_)
          refine lv_goto (tgt := 4) hx hb d_Mo_uses_28 (by decide) ?_
          exact ih _ _ h _ _ hP hD hS ls (lv_sub hl [1, 2, 3, 0] rfl)
        · replace h := itp c_19 h
          refine lv_iinc (v := x2 + 1) (lv' := [(2, .int (x2 + 1)), (0, .ref (A 0)), (1, .int x1), (3, .int x3)]) hx hb d_Mo_uses_22 hl (k := 2) rfl (by first | rfl | decide) (by decide) rfl (fun ls hl => ?_)
          refine lv_iinc (v := x3 + 1) (lv' := [(3, .int (x3 + 1)), (2, .int (x2 + 1)), (0, .ref (A 0)), (1, .int x1)]) hx hb d_Mo_uses_25 hl (k := 3) rfl (by first | rfl | decide) (by decide) rfl (fun ls hl => ?_)
          refine lv_goto (tgt := 4) hx hb d_Mo_uses_28 (by decide) ?_
          exact ih _ _ h _ _ hP hD hS ls (lv_sub hl [2, 3, 1, 0] rfl)
  refine lv_iconst (v := 0) hx hb d_Mo_uses_0 (by decide) ?_
  refine lv_istore_n (lv' := [(2, .int 0), (0, .ref (A 0)), (1, .int x1)]) hx hb d_Mo_uses_1 rfl hl (by decide) rfl (fun ls hl => ?_)
  refine lv_iconst (v := 0) hx hb d_Mo_uses_2 (by decide) ?_
  refine lv_istore_n (lv' := [(3, .int 0), (2, .int 0), (0, .ref (A 0)), (1, .int x1)]) hx hb d_Mo_uses_3 rfl hl (by decide) rfl (fun ls hl => ?_)
  exact L_4  FU _ _ h _ _ hP hD hS ls (lv_sub hl [2, 3, 1, 0] rfl)
