def p_Mo_rename_L112 (x1 : Int32) (x2 : Int64) (x4 : Int32) : Nat → Sto → Int32 → Int32 → Int32 → Int32 → Int32 → Option (Int32 × Sto)
  | 0, _, _, _, _, _, _ => none
  | n + 1, σ, x5, x6, x7, x8, x9 =>
    (if x9 < 0 then
        bd1 (p_Mo_analyse σ) fun σ_157 =>
        (if (σ_157.1 5) = 0 then
          bd1 (p_Mo_diagnosticCount σ_157) fun v_168 =>
          (if v_168 = x8 then
            bd1 (p_Mo_same σ_157 x5) fun v_179 =>
            (if v_179 = 0 then
              bd2 (p_Mo_back σ_157) fun v_186 σ_186 =>
              some (v_186, σ_186)
            else
              some (x6, sS σ_157 0 0))
          else
            bd2 (p_Mo_back σ_157) fun v_186 σ_186 =>
            some (v_186, σ_186))
        else
          bd2 (p_Mo_back σ_157) fun v_186 σ_186 =>
          some (v_186, σ_186))
      else
        if inR x9 124 then if inR x5 124 then (if (σ.2.1 15 x9.toNatClampNeg) = (σ.2.1 15 x5.toNatClampNeg) then
          if inR x9 124 then bd1 (p_Mo_replace σ (σ.2.1 5 x9.toNatClampNeg) x7 x2 x4) fun σ_147 =>
          p_Mo_rename_L112 x1 x2 x4 n σ_147 x5 x6 x7 x8 (x9 + (-1)) else none
        else
          p_Mo_rename_L112 x1 x2 x4 n σ x5 x6 x7 x8 (x9 + (-1))) else none else none)
def p_Mo_rename (σ : Sto) (x1 : Int32) (x2 : Int64) (x4 : Int32) : Option (Int32 × Sto) :=
  bd2 (p_Mo_named (sS σ 0 0) x1) fun v_7 σ_7 =>
    (if (0 : Int32) ≤ v_7 then
      bd1 (p_Mo_newName σ_7 x2 x4) fun v_27 =>
      (if v_27 = 0 then
        bd2 (p_Mo_fail σ_7 2) fun v_35 σ_35 =>
        some (v_35, σ_35)
      else
        if inR v_7 124 then bd1 (p_Mo_uses σ_7 (σ_7.2.1 14 v_7.toNatClampNeg)) fun v_47 =>
        if inR v_7 124 then if inR v_7 124 then bd1 (p_Mo_diagnosticCount σ_7) fun v_70 =>
        (if ((σ_7.1 1) + (v_47 * (x4 - ((σ_7.2.1 6 v_7.toNatClampNeg) - (σ_7.2.1 5 v_7.toNatClampNeg))))) ≤ 240 then
          bd1 (p_Mo_save σ_7) fun σ_101 =>
          p_Mo_rename_L112 x1 x2 x4 FU σ_101 v_7 v_47 ((σ_7.2.1 6 v_7.toNatClampNeg) - (σ_7.2.1 5 v_7.toNatClampNeg)) v_70 ((σ_101.1 3) - 1)
        else
          bd2 (p_Mo_fail σ_7 3) fun v_96 σ_96 =>
          some (v_96, σ_96)) else none else none else none)
    else
      bd2 (p_Mo_fail σ_7 1) fun v_19 σ_19 =>
      some (v_19, σ_19))
abbrev w_Mo_rename : List Cond := Cond.code y_Mo_rename b_Mo_rename 10 (some .int) :: Tg
abbrev r_Mo_rename : Room := { frames := 13, cells := 0, slots := 0, locals := 291 }
theorem dv_Mo_rename : y_Mo_rename.cls = "LanguageServerModel" ∧ y_Mo_rename.cls ≠ "java/lang/invoke/MethodHandle" ∧ y_Mo_rename.cls ≠ "java/lang/invoke/VarHandle" ∧ (parseMethodDescriptor y_Mo_rename.desc).map (fun d => d.parameters.length) = some 3 := by decide +kernel
set_option maxHeartbeats 4000000 in
set_option maxRecDepth 100000 in
theorem c_Mo_rename (l : Launch) (K : Kst) (A : Nat → Nat) {σ : Sto} {x1 : Int32} {x2 : Int64} {x4 : Int32} {rr : Int32} {ss : Sto} (h : p_Mo_rename σ x1 x2 x4 = some (rr, ss)) : Met l y_Mo_rename w_Mo_rename r_Mo_rename (va_Pc [.ref (A 0), .int x1, .long x2, .int x4] (YB K A σ)) (YQi K A rr ss) 0 0 (YF A) := by
  refine Met.ofW (cc := b_Mo_rename) (maxL := 10) (ret := (some .int)) (by decide) rfl ?_
  intro p e s m args below meth c s₁ B hml hv
  obtain ⟨rfl, hP, hK, hD⟩ := hv
  have hx := B.exec
  have hb := B.bytes
  have hr := B.returns
  have hts := atoms_spec (ws := w_Mo_rename) B.pre
  have hg : ∀ w ∈ Tg, w.before _ s = true := fun w q => hts w (List.mem_cons_of_mem _ q)
  have hown : s.vm.findClass "LanguageServerModel" = some m.cls := findClass_of_methodNamed B.named
  have hlocks := B.notSynchronized
  have hS : va_S (YF A) s.heap s.heap [] := va_S.rf
  have hl := lv_entry ([.ref (A 0), .int x1, .long x2, .int x4]) (n := 10) (Nat.le_of_ble_eq_true rfl)
  rw [lg_entry_eq]
  generalize (lg_sl ([.ref (A 0), .int x1, .long x2, .int x4]) ++ List.replicate (10 - (lg_sl ([.ref (A 0), .int x1, .long x2, .int x4])).length) Slot.unset).toArray = ls at hl ⊢
  have hl : lv_has ls 10 [(0, .ref (A 0)), (1, .int x1), (2, .long x2), (4, .int x4)] := hl
  generalize hargs : ([.ref (A 0), .int x1, .long x2, .int x4] : List Value).toArray = args at hg hts ⊢
  obtain ⟨Q, hQ⟩ : ∃ Q, Q = MQ below (YQi K A rr ss) args s 0 0 (YF A) := ⟨_, rfl⟩
  rw [← hQ]
  have hRet : ∀ (v : Int32) (σ : Sto), some (v, σ) = some (rr, ss) → ∀ (H : Heap) (locs : List Loc), va_P K.1 vwCl (wY K A σ) H → va_D (YF A) (wY K A σ) → va_S (YF A) s.heap H locs → ∀ (pc : Nat) (ls : Array Slot), decode b_Mo_rename pc = .ok (.ireturn, 1) → W p l e (headSpec w_Mo_rename r_Mo_rename).room s m args below meth c H locs 0 0 Q (F0 m pc ls [.int v]) := by
    intro v σ h H locs hP hD hS pc ls hd
    cases h
    subst hQ
    exact W.iret hx hb hr (fun t ht hW => ⟨⟨_, (), rfl, rfl, by rw [ht]; exact hP, RK.warm hW hK, hD⟩, hS.F ht⟩) hS.2.2 hd
  clear hQ
  unfold p_Mo_rename at h
  have L_112 : ∀ (n : Nat) (σ : Sto) (x5 : Int32) (x6 : Int32) (x7 : Int32) (x8 : Int32) (x9 : Int32), p_Mo_rename_L112 x1 x2 x4 n σ x5 x6 x7 x8 x9 = some (rr, ss) → ∀ (H : Heap) (locs : List Loc), va_P K.1 vwCl (wY K A σ) H → va_D (YF A) (wY K A σ) → va_S (YF A) s.heap H locs → ∀ ls : Array Slot, lv_has ls 10 [(0, .ref (A 0)), (2, .long x2), (4, .int x4), (5, .int x5), (6, .int x6), (7, .int x7), (8, .int x8), (9, .int x9)] → W p l e (headSpec w_Mo_rename r_Mo_rename).room s m args below meth c H locs 0 0 Q (F0 m 112 ls []) := by
    intro n
    induction n with
    | zero => intro _ _ _ _ _ _ h; cases h
    | succ n ih =>
      intro σ x5 x6 x7 x8 x9 h H locs hP hD hS ls hl
      rw [p_Mo_rename_L112] at h
      refine lv_iload hx hb d_Mo_rename_112 (lv_at hl 7 rfl) ?_
      refine lv_if_lt (tgt := 156) hx hb d_Mo_rename_114 (by decide) (fun c_114 => ?_) (fun c_114 => ?_)
      · replace h := itp c_114 h
        refine lv_aload_n hx hb d_Mo_rename_156 rfl (lv_at hl 0 rfl) ?_
        obtain ⟨σ_157, e_157, h⟩ := bd1_some h
        refine Y_callv (va_runV (As := []) (rest := []) ⟨hx, hb, hml, hown, hts⟩ (c_Mo_analyse l K A e_157) (cwV 0 hts (gd_V wd_1030 wd_1032 wp_44 wd_10 wd_1033) rfl rfl rfl dv_Mo_analyse ⟨Nat.le_of_ble_eq_true rfl, Nat.le_of_ble_eq_true rfl⟩) (Y_pv_0 hK hP hD) rfl rfl hl.1 rfl (lv_room (Nat.le_of_ble_eq_true rfl)) d_Mo_rename_157 ⟨Nat.le_of_ble_eq_true rfl, Nat.le_of_ble_eq_true rfl⟩) hS (fun H locs hP hD hS => ?_)
        refine lv_aload_n hx hb d_Mo_rename_160 rfl (lv_at hl 0 rfl) ?_
        refine gf_Mo_131 hx hb hg hown hK hP d_Mo_rename_161 ?_
        refine lv_if_ne (tgt := 185) hx hb d_Mo_rename_164 (by decide) (fun c_164 => ?_) (fun c_164 => ?_)
        · replace h := itf c_164 h
          refine lv_aload_n hx hb d_Mo_rename_185 rfl (lv_at hl 0 rfl) ?_
          obtain ⟨v_186, σ_186, e_186, h⟩ := bd2_some h
          refine Y_calli (va_runV (As := []) (rest := []) ⟨hx, hb, hml, hown, hts⟩ (c_Mo_back l K A e_186) (cwV 0 hts (gd_V wd_1284 wd_1286 wp_93 wd_10 wd_1287) rfl rfl rfl dv_Mo_back ⟨Nat.le_of_ble_eq_true rfl, Nat.le_of_ble_eq_true rfl⟩) (Y_pv_0 hK hP hD) rfl rfl hl.1 rfl (lv_room (Nat.le_of_ble_eq_true rfl)) d_Mo_rename_186 ⟨Nat.le_of_ble_eq_true rfl, Nat.le_of_ble_eq_true rfl⟩) hS (fun H locs hP hD hS => ?_)
          exact hRet _ _ h _ _ hP hD hS _ _ d_Mo_rename_189
        · replace h := itp c_164 h
          refine lv_aload_n hx hb d_Mo_rename_167 rfl (lv_at hl 0 rfl) ?_
          obtain ⟨v_168, e_168, h⟩ := bd1_some h
          refine Y_calli (va_runV (As := []) (rest := []) ⟨hx, hb, hml, hown, hts⟩ (c_Mo_diagnosticCount l K A e_168) (cwV 0 hts (gd_V wd_1211 wd_1213 wp_84 wd_10 wd_1214) rfl rfl rfl dv_Mo_diagnosticCount ⟨Nat.le_of_ble_eq_true rfl, Nat.le_of_ble_eq_true rfl⟩) (Y_pv_0 hK hP hD) rfl rfl hl.1 rfl (lv_room (Nat.le_of_ble_eq_true rfl)) d_Mo_rename_168 ⟨Nat.le_of_ble_eq_true rfl, Nat.le_of_ble_eq_true rfl⟩) hS (fun H locs hP hD hS => ?_)
          refine lv_iload hx hb d_Mo_rename_171 (lv_at hl 6 rfl) ?_
          refine lv_icmp_ne (tgt := 185) hx hb d_Mo_rename_173 (by decide) (fun c_173 => ?_) (fun c_173 => ?_)
          · replace h := itf c_173 h
            refine lv_aload_n hx hb d_Mo_rename_185 rfl (lv_at hl 0 rfl) ?_
            obtain ⟨v_186, σ_186, e_186, h⟩ := bd2_some h
            refine Y_calli (va_runV (As := []) (rest := []) ⟨hx, hb, hml, hown, hts⟩ (c_Mo_back l K A e_186) (cwV 0 hts (gd_V wd_1284 wd_1286 wp_93 wd_10 wd_1287) rfl rfl rfl dv_Mo_back ⟨Nat.le_of_ble_eq_true rfl, Nat.le_of_ble_eq_true rfl⟩) (Y_pv_0 hK hP hD) rfl rfl hl.1 rfl (lv_room (Nat.le_of_ble_eq_true rfl)) d_Mo_rename_186 ⟨Nat.le_of_ble_eq_true rfl, Nat.le_of_ble_eq_true rfl⟩) hS (fun H locs hP hD hS => ?_)
            exact hRet _ _ h _ _ hP hD hS _ _ d_Mo_rename_189
          · replace h := itp c_173 h
            refine lv_aload_n hx hb d_Mo_rename_176 rfl (lv_at hl 0 rfl) ?_
            refine lv_iload hx hb d_Mo_rename_177 (lv_at hl 3 rfl) ?_
            obtain ⟨v_179, e_179, h⟩ := bd1_some h
            refine Y_calli (va_runV (As := [.int x5]) (rest := []) ⟨hx, hb, hml, hown, hts⟩ (c_Mo_same l K A e_179) (cwV 1 hts (gd_V wd_1280 wd_1282 wp_92 wd_10 wd_1283) rfl rfl rfl dv_Mo_same ⟨Nat.le_of_ble_eq_true rfl, Nat.le_of_ble_eq_true rfl⟩) (Y_pv_0 hK hP hD) rfl rfl hl.1 rfl (lv_room (Nat.le_of_ble_eq_true rfl)) d_Mo_rename_179 ⟨Nat.le_of_ble_eq_true rfl, Nat.le_of_ble_eq_true rfl⟩) hS (fun H locs hP hD hS => ?_)
            refine lv_if_ne (tgt := 190) hx hb d_Mo_rename_182 (by decide) (fun c_182 => ?_) (fun c_182 => ?_)
            · replace h := itf c_182 h
              refine lv_aload_n hx hb d_Mo_rename_190 rfl (lv_at hl 0 rfl) ?_
              refine lv_iconst (v := 0) hx hb d_Mo_rename_191 (by decide) ?_
              refine pf_Mo_81 hx hb hg hown hK hP hD hS d_Mo_rename_192 (fun H locs hP hD hS => ?_)
              refine lv_iload hx hb d_Mo_rename_195 (lv_at hl 4 rfl) ?_
              exact hRet _ _ h _ _ hP hD hS _ _ d_Mo_rename_197
            · replace h := itp c_182 h
              refine lv_aload_n hx hb d_Mo_rename_185 rfl (lv_at hl 0 rfl) ?_
              obtain ⟨v_186, σ_186, e_186, h⟩ := bd2_some h
              refine Y_calli (va_runV (As := []) (rest := []) ⟨hx, hb, hml, hown, hts⟩ (c_Mo_back l K A e_186) (cwV 0 hts (gd_V wd_1284 wd_1286 wp_93 wd_10 wd_1287) rfl rfl rfl dv_Mo_back ⟨Nat.le_of_ble_eq_true rfl, Nat.le_of_ble_eq_true rfl⟩) (Y_pv_0 hK hP hD) rfl rfl hl.1 rfl (lv_room (Nat.le_of_ble_eq_true rfl)) d_Mo_rename_186 ⟨Nat.le_of_ble_eq_true rfl, Nat.le_of_ble_eq_true rfl⟩) hS (fun H locs hP hD hS => ?_)
              exact hRet _ _ h _ _ hP hD hS _ _ d_Mo_rename_189
      · replace h := itf c_114 h
        refine lv_aload_n hx hb d_Mo_rename_117 rfl (lv_at hl 0 rfl) ?_
        refine gf_Mo_53 hx hb hg hown hK hP d_Mo_rename_118 ?_
        refine lv_iload hx hb d_Mo_rename_121 (lv_at hl 7 rfl) ?_
        obtain ⟨i_123, h⟩ := itn h
        refine Yra_15 hx hb hK hP i_123 d_Mo_rename_123 ?_
        refine lv_aload_n hx hb d_Mo_rename_124 rfl (lv_at hl 0 rfl) ?_
        refine gf_Mo_53 hx hb hg hown hK hP d_Mo_rename_125 ?_
        refine lv_iload hx hb d_Mo_rename_128 (lv_at hl 3 rfl) ?_
        obtain ⟨i_130, h⟩ := itn h
        refine Yra_15 hx hb hK hP i_130 d_Mo_rename_130 ?_
        refine lv_icmp_ne (tgt := 150) hx hb d_Mo_rename_131 (by decide) (fun c_131 => ?_) (fun c_131 => ?_)
        · replace h := itf c_131 h
          refine lv_iinc (v := x9 + (-1)) (lv' := [(9, .int (x9 + (-1))), (0, .ref (A 0)), (2, .long x2), (4, .int x4), (5, .int x5), (6, .int x6), (7, .int x7), (8, .int x8)]) hx hb d_Mo_rename_150 hl (k := 7) rfl (by first | rfl | decide) (by decide) rfl (fun ls hl => ?_)
          refine lv_goto (tgt := 112) hx hb d_Mo_rename_153 (by decide) ?_
          exact ih _ _ _ _ _ _ h _ _ hP hD hS ls (lv_sub hl [1, 2, 3, 4, 5, 6, 7, 0] rfl)
        · replace h := itp c_131 h
          refine lv_aload_n hx hb d_Mo_rename_134 rfl (lv_at hl 0 rfl) ?_
          refine lv_aload_n hx hb d_Mo_rename_135 rfl (lv_at hl 0 rfl) ?_
          refine gf_Mo_23 hx hb hg hown hK hP d_Mo_rename_136 ?_
          refine lv_iload hx hb d_Mo_rename_139 (lv_at hl 7 rfl) ?_
          obtain ⟨i_141, h⟩ := itn h
          refine Yra_5 hx hb hK hP i_141 d_Mo_rename_141 ?_
          refine lv_iload hx hb d_Mo_rename_142 (lv_at hl 5 rfl) ?_
          refine lv_lload_n hx hb d_Mo_rename_144 rfl (lv_at hl 1 rfl) ?_
          refine lv_iload hx hb d_Mo_rename_145 (lv_at hl 2 rfl) ?_
          obtain ⟨σ_147, e_147, h⟩ := bd1_some h
          refine Y_callv (va_runV (As := [.int (σ.2.1 5 x9.toNatClampNeg), .int x7, .long x2, .int x4]) (rest := []) ⟨hx, hb, hml, hown, hts⟩ (c_Mo_replace l K A e_147) (cwV 4 hts (gd_V wd_1274 wd_1276 wp_91 wd_10 wd_1277) rfl rfl rfl dv_Mo_replace ⟨Nat.le_of_ble_eq_true rfl, Nat.le_of_ble_eq_true rfl⟩) (Y_pv_0 hK hP hD) rfl rfl hl.1 rfl (lv_room (Nat.le_of_ble_eq_true rfl)) d_Mo_rename_147 ⟨Nat.le_of_ble_eq_true rfl, Nat.le_of_ble_eq_true rfl⟩) hS (fun H locs hP hD hS => ?_)
          refine lv_iinc (v := x9 + (-1)) (lv' := [(9, .int (x9 + (-1))), (0, .ref (A 0)), (2, .long x2), (4, .int x4), (5, .int x5), (6, .int x6), (7, .int x7), (8, .int x8)]) hx hb d_Mo_rename_150 hl (k := 7) rfl (by first | rfl | decide) (by decide) rfl (fun ls hl => ?_)
          refine lv_goto (tgt := 112) hx hb d_Mo_rename_153 (by decide) ?_
          exact ih _ _ _ _ _ _ h _ _ hP hD hS ls (lv_sub hl [1, 2, 3, 4, 5, 6, 7, 0] rfl)
  refine lv_aload_n hx hb d_Mo_rename_0 rfl (lv_at hl 0 rfl) ?_
  refine lv_iconst (v := 0) hx hb d_Mo_rename_1 (by decide) ?_
  refine pf_Mo_81 hx hb hg hown hK hP hD hS d_Mo_rename_2 (fun H locs hP hD hS => ?_)
  refine lv_aload_n hx hb d_Mo_rename_5 rfl (lv_at hl 0 rfl) ?_
  refine lv_iload_n hx hb d_Mo_rename_6 rfl (lv_at hl 1 rfl) ?_
  obtain ⟨v_7, σ_7, e_7, h⟩ := bd2_some h
  refine Y_calli (va_runV (As := [.int x1]) (rest := []) ⟨hx, hb, hml, hown, hts⟩ (c_Mo_named l K A e_7) (cwV 1 hts (gd_V wd_1223 wd_1225 wp_85 wd_10 wd_1226) rfl rfl rfl dv_Mo_named ⟨Nat.le_of_ble_eq_true rfl, Nat.le_of_ble_eq_true rfl⟩) (Y_pv_0 hK hP hD) rfl rfl hl.1 rfl (lv_room (Nat.le_of_ble_eq_true rfl)) d_Mo_rename_7 ⟨Nat.le_of_ble_eq_true rfl, Nat.le_of_ble_eq_true rfl⟩) hS (fun H locs hP hD hS => ?_)
  refine lv_istore (lv' := [(5, .int v_7), (0, .ref (A 0)), (1, .int x1), (2, .long x2), (4, .int x4)]) hx hb d_Mo_rename_10 hl (by decide) rfl (fun ls hl => ?_)
  refine lv_iload hx hb d_Mo_rename_12 (lv_at hl 0 rfl) ?_
  refine lv_if_ge (tgt := 23) hx hb d_Mo_rename_14 (by decide) (fun c_14 => ?_) (fun c_14 => ?_)
  · replace h := itp c_14 h
    refine lv_aload_n hx hb d_Mo_rename_23 rfl (lv_at hl 1 rfl) ?_
    refine lv_lload_n hx hb d_Mo_rename_24 rfl (lv_at hl 3 rfl) ?_
    refine lv_iload hx hb d_Mo_rename_25 (lv_at hl 4 rfl) ?_
    obtain ⟨v_27, e_27, h⟩ := bd1_some h
    refine Y_calli (va_runV (As := [.long x2, .int x4]) (rest := []) ⟨hx, hb, hml, hown, hts⟩ (c_Mo_newName l K A e_27) (cwV 2 hts (gd_V wd_1266 wd_1268 wp_89 wd_10 wd_1269) rfl rfl rfl dv_Mo_newName ⟨Nat.le_of_ble_eq_true rfl, Nat.le_of_ble_eq_true rfl⟩) (Y_pv_0 hK hP hD) rfl rfl hl.1 rfl (lv_room (Nat.le_of_ble_eq_true rfl)) d_Mo_rename_27 ⟨Nat.le_of_ble_eq_true rfl, Nat.le_of_ble_eq_true rfl⟩) hS (fun H locs hP hD hS => ?_)
    refine lv_if_ne (tgt := 39) hx hb d_Mo_rename_30 (by decide) (fun c_30 => ?_) (fun c_30 => ?_)
    · replace h := itf c_30 h
      refine lv_aload_n hx hb d_Mo_rename_39 rfl (lv_at hl 1 rfl) ?_
      refine lv_aload_n hx hb d_Mo_rename_40 rfl (lv_at hl 1 rfl) ?_
      refine gf_Mo_50 hx hb hg hown hK hP d_Mo_rename_41 ?_
      refine lv_iload hx hb d_Mo_rename_44 (lv_at hl 0 rfl) ?_
      obtain ⟨i_46, h⟩ := itn h
      refine Yra_14 hx hb hK hP i_46 d_Mo_rename_46 ?_
      obtain ⟨v_47, e_47, h⟩ := bd1_some h
      refine Y_calli (va_runV (As := [.int (σ_7.2.1 14 v_7.toNatClampNeg)]) (rest := []) ⟨hx, hb, hml, hown, hts⟩ (c_Mo_uses l K A e_47) (cwV 1 hts (gd_V wd_1235 wd_1237 wp_86 wd_10 wd_1238) rfl rfl rfl dv_Mo_uses ⟨Nat.le_of_ble_eq_true rfl, Nat.le_of_ble_eq_true rfl⟩) (Y_pv_0 hK hP hD) rfl rfl hl.1 rfl (lv_room (Nat.le_of_ble_eq_true rfl)) d_Mo_rename_47 ⟨Nat.le_of_ble_eq_true rfl, Nat.le_of_ble_eq_true rfl⟩) hS (fun H locs hP hD hS => ?_)
      refine lv_istore (lv' := [(6, .int v_47), (5, .int v_7), (0, .ref (A 0)), (1, .int x1), (2, .long x2), (4, .int x4)]) hx hb d_Mo_rename_50 hl (by decide) rfl (fun ls hl => ?_)
      refine lv_aload_n hx hb d_Mo_rename_52 rfl (lv_at hl 2 rfl) ?_
      refine gf_Mo_26 hx hb hg hown hK hP d_Mo_rename_53 ?_
      refine lv_iload hx hb d_Mo_rename_56 (lv_at hl 1 rfl) ?_
      obtain ⟨i_58, h⟩ := itn h
      refine Yra_6 hx hb hK hP i_58 d_Mo_rename_58 ?_
      refine lv_aload_n hx hb d_Mo_rename_59 rfl (lv_at hl 2 rfl) ?_
      refine gf_Mo_23 hx hb hg hown hK hP d_Mo_rename_60 ?_
      refine lv_iload hx hb d_Mo_rename_63 (lv_at hl 1 rfl) ?_
      obtain ⟨i_65, h⟩ := itn h
      refine Yra_5 hx hb hK hP i_65 d_Mo_rename_65 ?_
      refine lv_isub hx hb d_Mo_rename_66 ?_
      refine lv_istore (lv' := [(7, .int ((σ_7.2.1 6 v_7.toNatClampNeg) - (σ_7.2.1 5 v_7.toNatClampNeg))), (6, .int v_47), (5, .int v_7), (0, .ref (A 0)), (1, .int x1), (2, .long x2), (4, .int x4)]) hx hb d_Mo_rename_67 hl (by decide) rfl (fun ls hl => ?_)
      refine lv_aload_n hx hb d_Mo_rename_69 rfl (lv_at hl 3 rfl) ?_
      obtain ⟨v_70, e_70, h⟩ := bd1_some h
      refine Y_calli (va_runV (As := []) (rest := []) ⟨hx, hb, hml, hown, hts⟩ (c_Mo_diagnosticCount l K A e_70) (cwV 0 hts (gd_V wd_1211 wd_1213 wp_84 wd_10 wd_1214) rfl rfl rfl dv_Mo_diagnosticCount ⟨Nat.le_of_ble_eq_true rfl, Nat.le_of_ble_eq_true rfl⟩) (Y_pv_0 hK hP hD) rfl rfl hl.1 rfl (lv_room (Nat.le_of_ble_eq_true rfl)) d_Mo_rename_70 ⟨Nat.le_of_ble_eq_true rfl, Nat.le_of_ble_eq_true rfl⟩) hS (fun H locs hP hD hS => ?_)
      refine lv_istore (lv' := [(8, .int v_70), (7, .int ((σ_7.2.1 6 v_7.toNatClampNeg) - (σ_7.2.1 5 v_7.toNatClampNeg))), (6, .int v_47), (5, .int v_7), (0, .ref (A 0)), (1, .int x1), (2, .long x2), (4, .int x4)]) hx hb d_Mo_rename_73 hl (by decide) rfl (fun ls hl => ?_)
      refine lv_aload_n hx hb d_Mo_rename_75 rfl (lv_at hl 4 rfl) ?_
      refine gf_Mo_85 hx hb hg hown hK hP d_Mo_rename_76 ?_
      refine lv_iload hx hb d_Mo_rename_79 (lv_at hl 2 rfl) ?_
      refine lv_iload hx hb d_Mo_rename_81 (lv_at hl 7 rfl) ?_
      refine lv_iload hx hb d_Mo_rename_83 (lv_at hl 1 rfl) ?_
      refine lv_isub hx hb d_Mo_rename_85 ?_
      refine lv_imul hx hb d_Mo_rename_86 ?_
      refine lv_iadd hx hb d_Mo_rename_87 ?_
      refine lv_sipush (v := 240) hx hb d_Mo_rename_88 (by decide) ?_
      refine lv_icmp_le (tgt := 100) hx hb d_Mo_rename_91 (by decide) (fun c_91 => ?_) (fun c_91 => ?_)
      · replace h := itp c_91 h
        refine lv_aload_n hx hb d_Mo_rename_100 rfl (lv_at hl 4 rfl) ?_
        obtain ⟨σ_101, e_101, h⟩ := bd1_some h
        refine Y_callv (va_runV (As := []) (rest := []) ⟨hx, hb, hml, hown, hts⟩ (c_Mo_save l K A e_101) (cwV 0 hts (gd_V wd_1270 wd_1272 wp_90 wd_10 wd_1273) rfl rfl rfl dv_Mo_save ⟨Nat.le_of_ble_eq_true rfl, Nat.le_of_ble_eq_true rfl⟩) (Y_pv_0 hK hP hD) rfl rfl hl.1 rfl (lv_room (Nat.le_of_ble_eq_true rfl)) d_Mo_rename_101 ⟨Nat.le_of_ble_eq_true rfl, Nat.le_of_ble_eq_true rfl⟩) hS (fun H locs hP hD hS => ?_)
        refine lv_aload_n hx hb d_Mo_rename_104 rfl (lv_at hl 4 rfl) ?_
        refine gf_Mo_118 hx hb hg hown hK hP d_Mo_rename_105 ?_
        refine lv_iconst (v := 1) hx hb d_Mo_rename_108 (by decide) ?_
        refine lv_isub hx hb d_Mo_rename_109 ?_
        refine lv_istore (lv' := [(9, .int ((σ_101.1 3) - 1)), (8, .int v_70), (7, .int ((σ_7.2.1 6 v_7.toNatClampNeg) - (σ_7.2.1 5 v_7.toNatClampNeg))), (6, .int v_47), (5, .int v_7), (0, .ref (A 0)), (1, .int x1), (2, .long x2), (4, .int x4)]) hx hb d_Mo_rename_110 hl (by decide) rfl (fun ls hl => ?_)
        exact L_112  FU _ _ _ _ _ _ h _ _ hP hD hS ls (lv_sub hl [5, 7, 8, 4, 3, 2, 1, 0] rfl)
      · replace h := itf c_91 h
        refine lv_aload_n hx hb d_Mo_rename_94 rfl (lv_at hl 4 rfl) ?_
        refine lv_iconst (v := 3) hx hb d_Mo_rename_95 (by decide) ?_
        obtain ⟨v_96, σ_96, e_96, h⟩ := bd2_some h
        refine Y_calli (va_runV (As := [.int 3]) (rest := []) ⟨hx, hb, hml, hown, hts⟩ (c_Mo_fail l K A e_96) (cwV 1 hts (gd_V wd_1007 wd_1009 wp_43 wd_10 wd_1010) rfl rfl rfl dv_Mo_fail ⟨Nat.le_of_ble_eq_true rfl, Nat.le_of_ble_eq_true rfl⟩) (Y_pv_0 hK hP hD) rfl rfl hl.1 rfl (lv_room (Nat.le_of_ble_eq_true rfl)) d_Mo_rename_96 ⟨Nat.le_of_ble_eq_true rfl, Nat.le_of_ble_eq_true rfl⟩) hS (fun H locs hP hD hS => ?_)
        exact hRet _ _ h _ _ hP hD hS _ _ d_Mo_rename_99
    · replace h := itp c_30 h
      refine lv_aload_n hx hb d_Mo_rename_33 rfl (lv_at hl 1 rfl) ?_
      refine lv_iconst (v := 2) hx hb d_Mo_rename_34 (by decide) ?_
      obtain ⟨v_35, σ_35, e_35, h⟩ := bd2_some h
      refine Y_calli (va_runV (As := [.int 2]) (rest := []) ⟨hx, hb, hml, hown, hts⟩ (c_Mo_fail l K A e_35) (cwV 1 hts (gd_V wd_1007 wd_1009 wp_43 wd_10 wd_1010) rfl rfl rfl dv_Mo_fail ⟨Nat.le_of_ble_eq_true rfl, Nat.le_of_ble_eq_true rfl⟩) (Y_pv_0 hK hP hD) rfl rfl hl.1 rfl (lv_room (Nat.le_of_ble_eq_true rfl)) d_Mo_rename_35 ⟨Nat.le_of_ble_eq_true rfl, Nat.le_of_ble_eq_true rfl⟩) hS (fun H locs hP hD hS => ?_)
      exact hRet _ _ h _ _ hP hD hS _ _ d_Mo_rename_38
  · replace h := itf c_14 h
    refine lv_aload_n hx hb d_Mo_rename_17 rfl (lv_at hl 1 rfl) ?_
    refine lv_iconst (v := 1) hx hb d_Mo_rename_18 (by decide) ?_
    obtain ⟨v_19, σ_19, e_19, h⟩ := bd2_some h
    refine Y_calli (va_runV (As := [.int 1]) (rest := []) ⟨hx, hb, hml, hown, hts⟩ (c_Mo_fail l K A e_19) (cwV 1 hts (gd_V wd_1007 wd_1009 wp_43 wd_10 wd_1010) rfl rfl rfl dv_Mo_fail ⟨Nat.le_of_ble_eq_true rfl, Nat.le_of_ble_eq_true rfl⟩) (Y_pv_0 hK hP hD) rfl rfl hl.1 rfl (lv_room (Nat.le_of_ble_eq_true rfl)) d_Mo_rename_19 ⟨Nat.le_of_ble_eq_true rfl, Nat.le_of_ble_eq_true rfl⟩) hS (fun H locs hP hD hS => ?_)
    exact hRet _ _ h _ _ hP hD hS _ _ d_Mo_rename_22
def p_Mo_count (σ : Sto) (x1 : Int32) : Option (Int32 × Sto) :=
  bd1 (p_Mo_analyse (sS σ 0 0)) fun σ_6 =>
    (if x1 = 0 then
      some (σ_6.1 6, σ_6)
    else (if x1 = 1 then
      some (σ_6.1 3, σ_6)
    else (if x1 = 2 then
      some (σ_6.1 1, σ_6)
    else bd2 (p_Mo_fail σ_6 1) fun v_53 σ_53 =>
      some (v_53, σ_53))))
abbrev w_Mo_count : List Cond := Cond.code y_Mo_count b_Mo_count 2 (some .int) :: Tg
abbrev r_Mo_count : Room := { frames := 12, cells := 0, slots := 0, locals := 269 }
theorem dv_Mo_count : y_Mo_count.cls = "LanguageServerModel" ∧ y_Mo_count.cls ≠ "java/lang/invoke/MethodHandle" ∧ y_Mo_count.cls ≠ "java/lang/invoke/VarHandle" ∧ (parseMethodDescriptor y_Mo_count.desc).map (fun d => d.parameters.length) = some 1 := by decide +kernel
set_option maxHeartbeats 4000000 in
set_option maxRecDepth 100000 in
theorem c_Mo_count (l : Launch) (K : Kst) (A : Nat → Nat) {σ : Sto} {x1 : Int32} {rr : Int32} {ss : Sto} (h : p_Mo_count σ x1 = some (rr, ss)) : Met l y_Mo_count w_Mo_count r_Mo_count (va_Pc [.ref (A 0), .int x1] (YB K A σ)) (YQi K A rr ss) 0 0 (YF A) := by
  refine Met.ofW (cc := b_Mo_count) (maxL := 2) (ret := (some .int)) (by decide) rfl ?_
  intro p e s m args below meth c s₁ B hml hv
  obtain ⟨rfl, hP, hK, hD⟩ := hv
  have hx := B.exec
  have hb := B.bytes
  have hr := B.returns
  have hts := atoms_spec (ws := w_Mo_count) B.pre
  have hg : ∀ w ∈ Tg, w.before _ s = true := fun w q => hts w (List.mem_cons_of_mem _ q)
  have hown : s.vm.findClass "LanguageServerModel" = some m.cls := findClass_of_methodNamed B.named
  have hlocks := B.notSynchronized
  have hS : va_S (YF A) s.heap s.heap [] := va_S.rf
  have hl := lv_entry ([.ref (A 0), .int x1]) (n := 2) (Nat.le_of_ble_eq_true rfl)
  rw [lg_entry_eq]
  generalize (lg_sl ([.ref (A 0), .int x1]) ++ List.replicate (2 - (lg_sl ([.ref (A 0), .int x1])).length) Slot.unset).toArray = ls at hl ⊢
  have hl : lv_has ls 2 [(0, .ref (A 0)), (1, .int x1)] := hl
  generalize hargs : ([.ref (A 0), .int x1] : List Value).toArray = args at hg hts ⊢
  obtain ⟨Q, hQ⟩ : ∃ Q, Q = MQ below (YQi K A rr ss) args s 0 0 (YF A) := ⟨_, rfl⟩
  rw [← hQ]
  have hRet : ∀ (v : Int32) (σ : Sto), some (v, σ) = some (rr, ss) → ∀ (H : Heap) (locs : List Loc), va_P K.1 vwCl (wY K A σ) H → va_D (YF A) (wY K A σ) → va_S (YF A) s.heap H locs → ∀ (pc : Nat) (ls : Array Slot), decode b_Mo_count pc = .ok (.ireturn, 1) → W p l e (headSpec w_Mo_count r_Mo_count).room s m args below meth c H locs 0 0 Q (F0 m pc ls [.int v]) := by
    intro v σ h H locs hP hD hS pc ls hd
    cases h
    subst hQ
    exact W.iret hx hb hr (fun t ht hW => ⟨⟨_, (), rfl, rfl, by rw [ht]; exact hP, RK.warm hW hK, hD⟩, hS.F ht⟩) hS.2.2 hd
  clear hQ
  unfold p_Mo_count at h
  refine lv_aload_n hx hb d_Mo_count_0 rfl (lv_at hl 0 rfl) ?_
  refine lv_iconst (v := 0) hx hb d_Mo_count_1 (by decide) ?_
  refine pf_Mo_81 hx hb hg hown hK hP hD hS d_Mo_count_2 (fun H locs hP hD hS => ?_)
  refine lv_aload_n hx hb d_Mo_count_5 rfl (lv_at hl 0 rfl) ?_
  obtain ⟨σ_6, e_6, h⟩ := bd1_some h
  refine Y_callv (va_runV (As := []) (rest := []) ⟨hx, hb, hml, hown, hts⟩ (c_Mo_analyse l K A e_6) (cwV 0 hts (gd_V wd_1030 wd_1032 wp_44 wd_10 wd_1033) rfl rfl rfl dv_Mo_analyse ⟨Nat.le_of_ble_eq_true rfl, Nat.le_of_ble_eq_true rfl⟩) (Y_pv_0 hK hP hD) rfl rfl hl.1 rfl (lv_room (Nat.le_of_ble_eq_true rfl)) d_Mo_count_6 ⟨Nat.le_of_ble_eq_true rfl, Nat.le_of_ble_eq_true rfl⟩) hS (fun H locs hP hD hS => ?_)
  refine lv_iload_n hx hb d_Mo_count_9 rfl (lv_at hl 1 rfl) ?_
  by_cases c_10_0 : x1 = 0
  · replace h := itp c_10_0 h
    refine lv_tableIn (off := 26) (tgt := 36) hx hb d_Mo_count_10 (by rw [c_10_0]; decide) (by rw [c_10_0]; decide) (by rw [c_10_0]; first | done | rfl | decide) (by decide) ?_
    refine lv_aload_n hx hb d_Mo_count_36 rfl (lv_at hl 0 rfl) ?_
    refine gf_Mo_180 hx hb hg hown hK hP d_Mo_count_37 ?_
    exact hRet _ _ h _ _ hP hD hS _ _ d_Mo_count_40
  replace h := itf c_10_0 h
  by_cases c_10_1 : x1 = 1
  · replace h := itp c_10_1 h
    refine lv_tableIn (off := 31) (tgt := 41) hx hb d_Mo_count_10 (by rw [c_10_1]; decide) (by rw [c_10_1]; decide) (by rw [c_10_1]; first | done | rfl | decide) (by decide) ?_
    refine lv_aload_n hx hb d_Mo_count_41 rfl (lv_at hl 0 rfl) ?_
    refine gf_Mo_118 hx hb hg hown hK hP d_Mo_count_42 ?_
    exact hRet _ _ h _ _ hP hD hS _ _ d_Mo_count_45
  replace h := itf c_10_1 h
  by_cases c_10_2 : x1 = 2
  · replace h := itp c_10_2 h
    refine lv_tableIn (off := 36) (tgt := 46) hx hb d_Mo_count_10 (by rw [c_10_2]; decide) (by rw [c_10_2]; decide) (by rw [c_10_2]; first | done | rfl | decide) (by decide) ?_
    refine lv_aload_n hx hb d_Mo_count_46 rfl (lv_at hl 0 rfl) ?_
    refine gf_Mo_85 hx hb hg hown hK hP d_Mo_count_47 ?_
    exact hRet _ _ h _ _ hP hD hS _ _ d_Mo_count_50
  replace h := itf c_10_2 h
  have n_0 := lv_neT c_10_0 (a := 0) rfl
  have n_1 := lv_neT c_10_1 (a := 1) rfl
  have n_2 := lv_neT c_10_2 (a := 2) rfl
  refine lv_tableOut (tgt := 51) hx hb d_Mo_count_10 (by omega) (by decide) ?_
  refine lv_aload_n hx hb d_Mo_count_51 rfl (lv_at hl 0 rfl) ?_
  refine lv_iconst (v := 1) hx hb d_Mo_count_52 (by decide) ?_
  obtain ⟨v_53, σ_53, e_53, h⟩ := bd2_some h
  refine Y_calli (va_runV (As := [.int 1]) (rest := []) ⟨hx, hb, hml, hown, hts⟩ (c_Mo_fail l K A e_53) (cwV 1 hts (gd_V wd_1007 wd_1009 wp_43 wd_10 wd_1010) rfl rfl rfl dv_Mo_fail ⟨Nat.le_of_ble_eq_true rfl, Nat.le_of_ble_eq_true rfl⟩) (Y_pv_0 hK hP hD) rfl rfl hl.1 rfl (lv_room (Nat.le_of_ble_eq_true rfl)) d_Mo_count_53 ⟨Nat.le_of_ble_eq_true rfl, Nat.le_of_ble_eq_true rfl⟩) hS (fun H locs hP hD hS => ?_)
  exact hRet _ _ h _ _ hP hD hS _ _ d_Mo_count_56
