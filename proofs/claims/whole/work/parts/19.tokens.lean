def p_Tokens_skipBlanks_L2 (σ : Sto) (x1 : Int32) : Nat → Int32 → Option Int32
  | 0, _ => none
  | n + 1, x2 =>
    (if (σ.1 1) ≤ x2 then
        some (σ.1 1)
      else
        if inR x2 240 then (if (σ.2.1 2 x2.toNatClampNeg) = 32 then
          p_Tokens_skipBlanks_L2 σ x1 n (x2 + 1)
        else
          some x2) else none)
def p_Tokens_skipBlanks (σ : Sto) (x1 : Int32) : Option Int32 :=
  p_Tokens_skipBlanks_L2 σ x1 FU x1
abbrev w_Tokens_skipBlanks : List Cond := Cond.code y_Tokens_skipBlanks b_Tokens_skipBlanks 3 (some .int) :: Tg
abbrev r_Tokens_skipBlanks : Room := { frames := 0, cells := 0, slots := 0, locals := 0 }
theorem ds_Tokens_skipBlanks : y_Tokens_skipBlanks.cls ≠ "java/lang/invoke/MethodHandle" ∧ y_Tokens_skipBlanks.cls ≠ "java/lang/invoke/VarHandle" ∧ (parseMethodDescriptor y_Tokens_skipBlanks.desc).map (fun d => d.parameters.length) = some 2 := by decide +kernel
set_option maxHeartbeats 4000000 in
set_option maxRecDepth 100000 in
theorem c_Tokens_skipBlanks (l : Launch) (K : Kst) (A : Nat → Nat) {σ : Sto} {x1 : Int32} {rr : Int32} (h : p_Tokens_skipBlanks σ x1 = some rr) : Met l y_Tokens_skipBlanks w_Tokens_skipBlanks r_Tokens_skipBlanks (va_Pc [.ref (A 1), .int x1] (RB K A σ)) (RQi K A rr σ) 0 0 (RF A) := by
  refine Met.ofW (cc := b_Tokens_skipBlanks) (maxL := 3) (ret := (some .int)) (by decide) rfl ?_
  intro p e s m args below meth c s₁ B hml hv
  obtain ⟨rfl, hP, hK, hD⟩ := hv
  have hx := B.exec
  have hb := B.bytes
  have hr := B.returns
  have hts := atoms_spec (ws := w_Tokens_skipBlanks) B.pre
  have hg : ∀ w ∈ Tg, w.before _ s = true := fun w q => hts w (List.mem_cons_of_mem _ q)
  have hown : s.vm.findClass "LanguageServer$Tokens" = some m.cls := findClass_of_methodNamed B.named
  have hlocks := B.notSynchronized
  have hS : va_S (RF A) s.heap s.heap [] := va_S.rf
  have hl := lv_entry ([.ref (A 1), .int x1]) (n := 3) (Nat.le_of_ble_eq_true rfl)
  rw [lg_entry_eq]
  generalize (lg_sl ([.ref (A 1), .int x1]) ++ List.replicate (3 - (lg_sl ([.ref (A 1), .int x1])).length) Slot.unset).toArray = ls at hl ⊢
  have hl : lv_has ls 3 [(0, .ref (A 1)), (1, .int x1)] := hl
  generalize hargs : ([.ref (A 1), .int x1] : List Value).toArray = args at hg hts ⊢
  obtain ⟨Q, hQ⟩ : ∃ Q, Q = MQ below (RQi K A rr σ) args s 0 0 (RF A) := ⟨_, rfl⟩
  rw [← hQ]
  have hRet : ∀ (v : Int32), some v = some rr → ∀ (H : Heap) (locs : List Loc), va_P K.1 vwCl (wR K A σ) H → va_D (RF A) (wR K A σ) → va_S (RF A) s.heap H locs → ∀ (pc : Nat) (ls : Array Slot), decode b_Tokens_skipBlanks pc = .ok (.ireturn, 1) → W p l e (headSpec w_Tokens_skipBlanks r_Tokens_skipBlanks).room s m args below meth c H locs 0 0 Q (F0 m pc ls [.int v]) := by
    intro v h H locs hP hD hS pc ls hd
    cases h
    subst hQ
    exact W.iret hx hb hr (fun t ht hW => ⟨⟨_, (), rfl, rfl, by rw [ht]; exact hP, RK.warm hW hK, hD⟩, hS.F ht⟩) hS.2.2 hd
  clear hQ
  unfold p_Tokens_skipBlanks at h
  have L_2 : ∀ (n : Nat) (x2 : Int32), p_Tokens_skipBlanks_L2 σ x1 n x2 = some rr → ∀ (H : Heap) (locs : List Loc), va_P K.1 vwCl (wR K A σ) H → va_D (RF A) (wR K A σ) → va_S (RF A) s.heap H locs → ∀ ls : Array Slot, lv_has ls 3 [(0, .ref (A 1)), (2, .int x2)] → W p l e (headSpec w_Tokens_skipBlanks r_Tokens_skipBlanks).room s m args below meth c H locs 0 0 Q (F0 m 2 ls []) := by
    intro n
    induction n with
    | zero => intro _ h; cases h
    | succ n ih =>
      intro x2 h H locs hP hD hS ls hl
      rw [p_Tokens_skipBlanks_L2] at h
      refine lv_iload_n hx hb d_Tokens_skipBlanks_2 rfl (lv_at hl 1 rfl) ?_
      refine lv_aload_n hx hb d_Tokens_skipBlanks_3 rfl (lv_at hl 0 rfl) ?_
      refine gf_Tokens_33 hx hb hg hown hK hP d_Tokens_skipBlanks_4 ?_
      refine lv_icmp_ge (tgt := 29) hx hb d_Tokens_skipBlanks_7 (by decide) (fun c_7 => ?_) (fun c_7 => ?_)
      · replace h := itp c_7 h
        refine lv_aload_n hx hb d_Tokens_skipBlanks_29 rfl (lv_at hl 0 rfl) ?_
        refine gf_Tokens_33 hx hb hg hown hK hP d_Tokens_skipBlanks_30 ?_
        exact hRet _ h _ _ hP hD hS _ _ d_Tokens_skipBlanks_33
      · replace h := itf c_7 h
        refine lv_aload_n hx hb d_Tokens_skipBlanks_10 rfl (lv_at hl 0 rfl) ?_
        refine gf_Tokens_45 hx hb hg hown hK hP d_Tokens_skipBlanks_11 ?_
        refine lv_iload_n hx hb d_Tokens_skipBlanks_14 rfl (lv_at hl 1 rfl) ?_
        obtain ⟨i_15, h⟩ := itn h
        refine ra_2 hx hb hK hP i_15 d_Tokens_skipBlanks_15 ?_
        refine lv_bipush (v := 32) hx hb d_Tokens_skipBlanks_16 (by decide) ?_
        refine lv_icmp_eq (tgt := 23) hx hb d_Tokens_skipBlanks_18 (by decide) (fun c_18 => ?_) (fun c_18 => ?_)
        · replace h := itp c_18 h
          refine lv_iinc (v := x2 + 1) (lv' := [(2, .int (x2 + 1)), (0, .ref (A 1))]) hx hb d_Tokens_skipBlanks_23 hl (k := 1) rfl (by first | rfl | decide) (by decide) rfl (fun ls hl => ?_)
          refine lv_goto (tgt := 2) hx hb d_Tokens_skipBlanks_26 (by decide) ?_
          exact ih _ h _ _ hP hD hS ls (lv_sub hl [1, 0] rfl)
        · replace h := itf c_18 h
          refine lv_iload_n hx hb d_Tokens_skipBlanks_21 rfl (lv_at hl 1 rfl) ?_
          exact hRet _ h _ _ hP hD hS _ _ d_Tokens_skipBlanks_22
  refine lv_iload_n hx hb d_Tokens_skipBlanks_0 rfl (lv_at hl 1 rfl) ?_
  refine lv_istore_n (lv' := [(2, .int x1), (0, .ref (A 1)), (1, .int x1)]) hx hb d_Tokens_skipBlanks_1 rfl hl (by decide) rfl (fun ls hl => ?_)
  exact L_2  FU _ h _ _ hP hD hS ls (lv_sub hl [1, 0] rfl)
def p_Tokens_endOfToken_L34 (σ : Sto) (x1 : Int32) : Nat → Int32 → Int32 → Option Int32
  | 0, _, _ => none
  | n + 1, x2, x3 =>
    (if (σ.1 1) ≤ x3 then
        some (σ.1 1)
      else
        if inR x3 240 then bd1 (p_Tokens_isDigit (σ.2.1 2 x3.toNatClampNeg)) fun v_52 =>
        (if v_52 = 0 then
          (if x2 = 0 then
            some x3
          else
            bd1 (p_Tokens_isLetter (σ.2.1 2 x3.toNatClampNeg)) fun v_64 =>
            (if v_64 = 0 then
              some x3
            else
              p_Tokens_endOfToken_L34 σ x1 n x2 (x3 + 1)))
        else
          p_Tokens_endOfToken_L34 σ x1 n x2 (x3 + 1)) else none)
def p_Tokens_endOfToken (σ : Sto) (x1 : Int32) : Option Int32 :=
  if inR x1 240 then bd1 (p_Tokens_isLetter (σ.2.1 2 x1.toNatClampNeg)) fun v_6 =>
    (if v_6 = 0 then
      if inR x1 240 then bd1 (p_Tokens_isDigit (σ.2.1 2 x1.toNatClampNeg)) fun v_20 =>
      (if v_20 = 0 then
        some (x1 + 1)
      else
        p_Tokens_endOfToken_L34 σ x1 FU v_6 (x1 + 1)) else none
    else
      p_Tokens_endOfToken_L34 σ x1 FU v_6 (x1 + 1)) else none
abbrev w_Tokens_endOfToken : List Cond := Cond.code y_Tokens_endOfToken b_Tokens_endOfToken 5 (some .int) :: Tg
abbrev r_Tokens_endOfToken : Room := { frames := 1, cells := 0, slots := 0, locals := 20 }
theorem ds_Tokens_endOfToken : y_Tokens_endOfToken.cls ≠ "java/lang/invoke/MethodHandle" ∧ y_Tokens_endOfToken.cls ≠ "java/lang/invoke/VarHandle" ∧ (parseMethodDescriptor y_Tokens_endOfToken.desc).map (fun d => d.parameters.length) = some 2 := by decide +kernel
set_option maxHeartbeats 4000000 in
set_option maxRecDepth 100000 in
theorem c_Tokens_endOfToken (l : Launch) (K : Kst) (A : Nat → Nat) {σ : Sto} {x1 : Int32} {rr : Int32} (h : p_Tokens_endOfToken σ x1 = some rr) : Met l y_Tokens_endOfToken w_Tokens_endOfToken r_Tokens_endOfToken (va_Pc [.ref (A 1), .int x1] (RB K A σ)) (RQi K A rr σ) 0 0 (RF A) := by
  refine Met.ofW (cc := b_Tokens_endOfToken) (maxL := 5) (ret := (some .int)) (by decide) rfl ?_
  intro p e s m args below meth c s₁ B hml hv
  obtain ⟨rfl, hP, hK, hD⟩ := hv
  have hx := B.exec
  have hb := B.bytes
  have hr := B.returns
  have hts := atoms_spec (ws := w_Tokens_endOfToken) B.pre
  have hg : ∀ w ∈ Tg, w.before _ s = true := fun w q => hts w (List.mem_cons_of_mem _ q)
  have hown : s.vm.findClass "LanguageServer$Tokens" = some m.cls := findClass_of_methodNamed B.named
  have hlocks := B.notSynchronized
  have hS : va_S (RF A) s.heap s.heap [] := va_S.rf
  have hl := lv_entry ([.ref (A 1), .int x1]) (n := 5) (Nat.le_of_ble_eq_true rfl)
  rw [lg_entry_eq]
  generalize (lg_sl ([.ref (A 1), .int x1]) ++ List.replicate (5 - (lg_sl ([.ref (A 1), .int x1])).length) Slot.unset).toArray = ls at hl ⊢
  have hl : lv_has ls 5 [(0, .ref (A 1)), (1, .int x1)] := hl
  generalize hargs : ([.ref (A 1), .int x1] : List Value).toArray = args at hg hts ⊢
  obtain ⟨Q, hQ⟩ : ∃ Q, Q = MQ below (RQi K A rr σ) args s 0 0 (RF A) := ⟨_, rfl⟩
  rw [← hQ]
  have hRet : ∀ (v : Int32), some v = some rr → ∀ (H : Heap) (locs : List Loc), va_P K.1 vwCl (wR K A σ) H → va_D (RF A) (wR K A σ) → va_S (RF A) s.heap H locs → ∀ (pc : Nat) (ls : Array Slot), decode b_Tokens_endOfToken pc = .ok (.ireturn, 1) → W p l e (headSpec w_Tokens_endOfToken r_Tokens_endOfToken).room s m args below meth c H locs 0 0 Q (F0 m pc ls [.int v]) := by
    intro v h H locs hP hD hS pc ls hd
    cases h
    subst hQ
    exact W.iret hx hb hr (fun t ht hW => ⟨⟨_, (), rfl, rfl, by rw [ht]; exact hP, RK.warm hW hK, hD⟩, hS.F ht⟩) hS.2.2 hd
  clear hQ
  unfold p_Tokens_endOfToken at h
  have L_34 : ∀ (n : Nat) (x2 : Int32) (x3 : Int32), p_Tokens_endOfToken_L34 σ x1 n x2 x3 = some rr → ∀ (H : Heap) (locs : List Loc), va_P K.1 vwCl (wR K A σ) H → va_D (RF A) (wR K A σ) → va_S (RF A) s.heap H locs → ∀ ls : Array Slot, lv_has ls 5 [(0, .ref (A 1)), (2, .int x2), (3, .int x3)] → W p l e (headSpec w_Tokens_endOfToken r_Tokens_endOfToken).room s m args below meth c H locs 0 0 Q (F0 m 34 ls []) := by
    intro n
    induction n with
    | zero => intro _ _ h; cases h
    | succ n ih =>
      intro x2 x3 h H locs hP hD hS ls hl
      rw [p_Tokens_endOfToken_L34] at h
      refine lv_iload_n hx hb d_Tokens_endOfToken_34 rfl (lv_at hl 2 rfl) ?_
      refine lv_aload_n hx hb d_Tokens_endOfToken_35 rfl (lv_at hl 0 rfl) ?_
      refine gf_Tokens_33 hx hb hg hown hK hP d_Tokens_endOfToken_36 ?_
      refine lv_icmp_ge (tgt := 78) hx hb d_Tokens_endOfToken_39 (by decide) (fun c_39 => ?_) (fun c_39 => ?_)
      · replace h := itp c_39 h
        refine lv_aload_n hx hb d_Tokens_endOfToken_78 rfl (lv_at hl 0 rfl) ?_
        refine gf_Tokens_33 hx hb hg hown hK hP d_Tokens_endOfToken_79 ?_
        exact hRet _ h _ _ hP hD hS _ _ d_Tokens_endOfToken_82
      · replace h := itf c_39 h
        refine lv_aload_n hx hb d_Tokens_endOfToken_42 rfl (lv_at hl 0 rfl) ?_
        refine gf_Tokens_45 hx hb hg hown hK hP d_Tokens_endOfToken_43 ?_
        refine lv_iload_n hx hb d_Tokens_endOfToken_46 rfl (lv_at hl 2 rfl) ?_
        obtain ⟨i_47, h⟩ := itn h
        refine ra_2 hx hb hK hP i_47 d_Tokens_endOfToken_47 ?_
        refine lv_istore (lv' := [(4, .int (σ.2.1 2 x3.toNatClampNeg)), (0, .ref (A 1)), (2, .int x2), (3, .int x3)]) hx hb d_Tokens_endOfToken_48 hl (by decide) rfl (fun ls hl => ?_)
        refine lv_iload hx hb d_Tokens_endOfToken_50 (lv_at hl 0 rfl) ?_
        obtain ⟨v_52, e_52, h⟩ := bd1_some h
        refine R_cpi (va_runS (As := [.int (σ.2.1 2 x3.toNatClampNeg)]) (rest := []) ⟨hx, hb, hml, hown, hts⟩ (c_Tokens_isDigit l e_52) (va_cwS 1 hts (gd_S wd_326 wd_327 wd_4 wd_328) rfl rfl rfl ds_Tokens_isDigit ⟨Nat.le_of_ble_eq_true rfl, Nat.le_of_ble_eq_true rfl⟩) (P_ps hK.2) rfl rfl hl.1 rfl (lv_room (Nat.le_of_ble_eq_true rfl)) d_Tokens_endOfToken_52 ⟨Nat.le_of_ble_eq_true rfl, Nat.le_of_ble_eq_true rfl⟩) hP hD hS (fun H locs hP hD hS => ?_)
        refine lv_if_ne (tgt := 72) hx hb d_Tokens_endOfToken_55 (by decide) (fun c_55 => ?_) (fun c_55 => ?_)
        · replace h := itf c_55 h
          refine lv_iinc (v := x3 + 1) (lv' := [(3, .int (x3 + 1)), (4, .int (σ.2.1 2 x3.toNatClampNeg)), (0, .ref (A 1)), (2, .int x2)]) hx hb d_Tokens_endOfToken_72 hl (k := 3) rfl (by first | rfl | decide) (by decide) rfl (fun ls hl => ?_)
          refine lv_goto (tgt := 34) hx hb d_Tokens_endOfToken_75 (by decide) ?_
          exact ih _ _ h _ _ hP hD hS ls (lv_sub hl [2, 3, 0] rfl)
        · replace h := itp c_55 h
          refine lv_iload_n hx hb d_Tokens_endOfToken_58 rfl (lv_at hl 2 rfl) ?_
          refine lv_if_eq (tgt := 70) hx hb d_Tokens_endOfToken_59 (by decide) (fun c_59 => ?_) (fun c_59 => ?_)
          · replace h := itp c_59 h
            refine lv_iload_n hx hb d_Tokens_endOfToken_70 rfl (lv_at hl 3 rfl) ?_
            exact hRet _ h _ _ hP hD hS _ _ d_Tokens_endOfToken_71
          · replace h := itf c_59 h
            refine lv_iload hx hb d_Tokens_endOfToken_62 (lv_at hl 0 rfl) ?_
            obtain ⟨v_64, e_64, h⟩ := bd1_some h
            refine R_cpi (va_runS (As := [.int (σ.2.1 2 x3.toNatClampNeg)]) (rest := []) ⟨hx, hb, hml, hown, hts⟩ (c_Tokens_isLetter l e_64) (va_cwS 1 hts (gd_S wd_323 wd_324 wd_4 wd_325) rfl rfl rfl ds_Tokens_isLetter ⟨Nat.le_of_ble_eq_true rfl, Nat.le_of_ble_eq_true rfl⟩) (P_ps hK.2) rfl rfl hl.1 rfl (lv_room (Nat.le_of_ble_eq_true rfl)) d_Tokens_endOfToken_64 ⟨Nat.le_of_ble_eq_true rfl, Nat.le_of_ble_eq_true rfl⟩) hP hD hS (fun H locs hP hD hS => ?_)
            refine lv_if_ne (tgt := 72) hx hb d_Tokens_endOfToken_67 (by decide) (fun c_67 => ?_) (fun c_67 => ?_)
            · replace h := itf c_67 h
              refine lv_iinc (v := x3 + 1) (lv' := [(3, .int (x3 + 1)), (4, .int (σ.2.1 2 x3.toNatClampNeg)), (0, .ref (A 1)), (2, .int x2)]) hx hb d_Tokens_endOfToken_72 hl (k := 3) rfl (by first | rfl | decide) (by decide) rfl (fun ls hl => ?_)
              refine lv_goto (tgt := 34) hx hb d_Tokens_endOfToken_75 (by decide) ?_
              exact ih _ _ h _ _ hP hD hS ls (lv_sub hl [2, 3, 0] rfl)
            · replace h := itp c_67 h
              refine lv_iload_n hx hb d_Tokens_endOfToken_70 rfl (lv_at hl 3 rfl) ?_
              exact hRet _ h _ _ hP hD hS _ _ d_Tokens_endOfToken_71
  refine lv_aload_n hx hb d_Tokens_endOfToken_0 rfl (lv_at hl 0 rfl) ?_
  refine gf_Tokens_45 hx hb hg hown hK hP d_Tokens_endOfToken_1 ?_
  refine lv_iload_n hx hb d_Tokens_endOfToken_4 rfl (lv_at hl 1 rfl) ?_
  obtain ⟨i_5, h⟩ := itn h
  refine ra_2 hx hb hK hP i_5 d_Tokens_endOfToken_5 ?_
  obtain ⟨v_6, e_6, h⟩ := bd1_some h
  refine R_cpi (va_runS (As := [.int (σ.2.1 2 x1.toNatClampNeg)]) (rest := []) ⟨hx, hb, hml, hown, hts⟩ (c_Tokens_isLetter l e_6) (va_cwS 1 hts (gd_S wd_323 wd_324 wd_4 wd_325) rfl rfl rfl ds_Tokens_isLetter ⟨Nat.le_of_ble_eq_true rfl, Nat.le_of_ble_eq_true rfl⟩) (P_ps hK.2) rfl rfl hl.1 rfl (lv_room (Nat.le_of_ble_eq_true rfl)) d_Tokens_endOfToken_6 ⟨Nat.le_of_ble_eq_true rfl, Nat.le_of_ble_eq_true rfl⟩) hP hD hS (fun H locs hP hD hS => ?_)
  refine lv_istore_n (lv' := [(2, .int v_6), (0, .ref (A 1)), (1, .int x1)]) hx hb d_Tokens_endOfToken_9 rfl hl (by decide) rfl (fun ls hl => ?_)
  refine lv_iload_n hx hb d_Tokens_endOfToken_10 rfl (lv_at hl 0 rfl) ?_
  refine lv_if_ne (tgt := 30) hx hb d_Tokens_endOfToken_11 (by decide) (fun c_11 => ?_) (fun c_11 => ?_)
  · replace h := itf c_11 h
    refine lv_iload_n hx hb d_Tokens_endOfToken_30 rfl (lv_at hl 2 rfl) ?_
    refine lv_iconst (v := 1) hx hb d_Tokens_endOfToken_31 (by decide) ?_
    refine lv_iadd hx hb d_Tokens_endOfToken_32 ?_
    refine lv_istore_n (lv' := [(3, .int (x1 + 1)), (2, .int v_6), (0, .ref (A 1)), (1, .int x1)]) hx hb d_Tokens_endOfToken_33 rfl hl (by decide) rfl (fun ls hl => ?_)
    exact L_34  FU _ _ h _ _ hP hD hS ls (lv_sub hl [2, 1, 0] rfl)
  · replace h := itp c_11 h
    refine lv_aload_n hx hb d_Tokens_endOfToken_14 rfl (lv_at hl 1 rfl) ?_
    refine gf_Tokens_45 hx hb hg hown hK hP d_Tokens_endOfToken_15 ?_
    refine lv_iload_n hx hb d_Tokens_endOfToken_18 rfl (lv_at hl 2 rfl) ?_
    obtain ⟨i_19, h⟩ := itn h
    refine ra_2 hx hb hK hP i_19 d_Tokens_endOfToken_19 ?_
    obtain ⟨v_20, e_20, h⟩ := bd1_some h
    refine R_cpi (va_runS (As := [.int (σ.2.1 2 x1.toNatClampNeg)]) (rest := []) ⟨hx, hb, hml, hown, hts⟩ (c_Tokens_isDigit l e_20) (va_cwS 1 hts (gd_S wd_326 wd_327 wd_4 wd_328) rfl rfl rfl ds_Tokens_isDigit ⟨Nat.le_of_ble_eq_true rfl, Nat.le_of_ble_eq_true rfl⟩) (P_ps hK.2) rfl rfl hl.1 rfl (lv_room (Nat.le_of_ble_eq_true rfl)) d_Tokens_endOfToken_20 ⟨Nat.le_of_ble_eq_true rfl, Nat.le_of_ble_eq_true rfl⟩) hP hD hS (fun H locs hP hD hS => ?_)
    refine lv_if_ne (tgt := 30) hx hb d_Tokens_endOfToken_23 (by decide) (fun c_23 => ?_) (fun c_23 => ?_)
    · replace h := itf c_23 h
      refine lv_iload_n hx hb d_Tokens_endOfToken_30 rfl (lv_at hl 2 rfl) ?_
      refine lv_iconst (v := 1) hx hb d_Tokens_endOfToken_31 (by decide) ?_
      refine lv_iadd hx hb d_Tokens_endOfToken_32 ?_
      refine lv_istore_n (lv' := [(3, .int (x1 + 1)), (2, .int v_6), (0, .ref (A 1)), (1, .int x1)]) hx hb d_Tokens_endOfToken_33 rfl hl (by decide) rfl (fun ls hl => ?_)
      exact L_34  FU _ _ h _ _ hP hD hS ls (lv_sub hl [2, 1, 0] rfl)
    · replace h := itp c_23 h
      refine lv_iload_n hx hb d_Tokens_endOfToken_26 rfl (lv_at hl 2 rfl) ?_
      refine lv_iconst (v := 1) hx hb d_Tokens_endOfToken_27 (by decide) ?_
      refine lv_iadd hx hb d_Tokens_endOfToken_28 ?_
      exact hRet _ h _ _ hP hD hS _ _ d_Tokens_endOfToken_29
def p_Tokens_spell_L5 (σ : Sto) (x1 : Int32) (x2 : Int32) : Nat → Int64 → Int32 → Option Int64
  | 0, _, _ => none
  | n + 1, x3, x5 =>
    (if (8 : Int32) ≤ x5 then
        some x3
      else
        (if x2 ≤ (x1 + x5) then
          p_Tokens_spell_L5 σ x1 x2 n ((x3 <<< ((8 : Int32).toInt64 &&& 63)) ||| ((0 : Int32).toInt64)) (x5 + 1)
        else
          if inR (x1 + x5) 240 then p_Tokens_spell_L5 σ x1 x2 n ((x3 <<< ((8 : Int32).toInt64 &&& 63)) ||| ((σ.2.1 2 ((x1 + x5).toNatClampNeg)).toInt64)) (x5 + 1) else none))
def p_Tokens_spell (σ : Sto) (x1 : Int32) (x2 : Int32) : Option Int64 :=
  p_Tokens_spell_L5 σ x1 x2 FU 0 0
abbrev w_Tokens_spell : List Cond := Cond.code y_Tokens_spell b_Tokens_spell 7 (some .long) :: Tg
abbrev r_Tokens_spell : Room := { frames := 0, cells := 0, slots := 0, locals := 0 }
theorem ds_Tokens_spell : y_Tokens_spell.cls ≠ "java/lang/invoke/MethodHandle" ∧ y_Tokens_spell.cls ≠ "java/lang/invoke/VarHandle" ∧ (parseMethodDescriptor y_Tokens_spell.desc).map (fun d => d.parameters.length) = some 3 := by decide +kernel
set_option maxHeartbeats 4000000 in
set_option maxRecDepth 100000 in
theorem c_Tokens_spell (l : Launch) (K : Kst) (A : Nat → Nat) {σ : Sto} {x1 : Int32} {x2 : Int32} {rr : Int64} (h : p_Tokens_spell σ x1 x2 = some rr) : Met l y_Tokens_spell w_Tokens_spell r_Tokens_spell (va_Pc [.ref (A 1), .int x1, .int x2] (RB K A σ)) (RQl K A rr σ) 0 0 (RF A) := by
  refine Met.ofW (cc := b_Tokens_spell) (maxL := 7) (ret := (some .long)) (by decide) rfl ?_
  intro p e s m args below meth c s₁ B hml hv
  obtain ⟨rfl, hP, hK, hD⟩ := hv
  have hx := B.exec
  have hb := B.bytes
  have hr := B.returns
  have hts := atoms_spec (ws := w_Tokens_spell) B.pre
  have hg : ∀ w ∈ Tg, w.before _ s = true := fun w q => hts w (List.mem_cons_of_mem _ q)
  have hown : s.vm.findClass "LanguageServer$Tokens" = some m.cls := findClass_of_methodNamed B.named
  have hlocks := B.notSynchronized
  have hS : va_S (RF A) s.heap s.heap [] := va_S.rf
  have hl := lv_entry ([.ref (A 1), .int x1, .int x2]) (n := 7) (Nat.le_of_ble_eq_true rfl)
  rw [lg_entry_eq]
  generalize (lg_sl ([.ref (A 1), .int x1, .int x2]) ++ List.replicate (7 - (lg_sl ([.ref (A 1), .int x1, .int x2])).length) Slot.unset).toArray = ls at hl ⊢
  have hl : lv_has ls 7 [(0, .ref (A 1)), (1, .int x1), (2, .int x2)] := hl
  generalize hargs : ([.ref (A 1), .int x1, .int x2] : List Value).toArray = args at hg hts ⊢
  obtain ⟨Q, hQ⟩ : ∃ Q, Q = MQ below (RQl K A rr σ) args s 0 0 (RF A) := ⟨_, rfl⟩
  rw [← hQ]
  have hRet : ∀ (v : Int64), some v = some rr → ∀ (H : Heap) (locs : List Loc), va_P K.1 vwCl (wR K A σ) H → va_D (RF A) (wR K A σ) → va_S (RF A) s.heap H locs → ∀ (pc : Nat) (ls : Array Slot), decode b_Tokens_spell pc = .ok (.lreturn, 1) → W p l e (headSpec w_Tokens_spell r_Tokens_spell).room s m args below meth c H locs 0 0 Q (F0 m pc ls [.long v]) := by
    intro v h H locs hP hD hS pc ls hd
    cases h
    subst hQ
    exact W.lret hx hb hr (fun t ht hW => ⟨⟨_, (), rfl, rfl, by rw [ht]; exact hP, RK.warm hW hK, hD⟩, hS.F ht⟩) hS.2.2 hd
  clear hQ
  unfold p_Tokens_spell at h
  have L_5 : ∀ (n : Nat) (x3 : Int64) (x5 : Int32), p_Tokens_spell_L5 σ x1 x2 n x3 x5 = some rr → ∀ (H : Heap) (locs : List Loc), va_P K.1 vwCl (wR K A σ) H → va_D (RF A) (wR K A σ) → va_S (RF A) s.heap H locs → ∀ ls : Array Slot, lv_has ls 7 [(0, .ref (A 1)), (1, .int x1), (2, .int x2), (3, .long x3), (5, .int x5)] → W p l e (headSpec w_Tokens_spell r_Tokens_spell).room s m args below meth c H locs 0 0 Q (F0 m 5 ls []) := by
    intro n
    induction n with
    | zero => intro _ _ h; cases h
    | succ n ih =>
      intro x3 x5 h H locs hP hD hS ls hl
      rw [p_Tokens_spell_L5] at h
      refine lv_iload hx hb d_Tokens_spell_5 (lv_at hl 4 rfl) ?_
      refine lv_bipush (v := 8) hx hb d_Tokens_spell_7 (by decide) ?_
      refine lv_icmp_ge (tgt := 50) hx hb d_Tokens_spell_9 (by decide) (fun c_9 => ?_) (fun c_9 => ?_)
      · replace h := itp c_9 h
        refine lv_lload_n hx hb d_Tokens_spell_50 rfl (lv_at hl 3 rfl) ?_
        exact hRet _ h _ _ hP hD hS _ _ d_Tokens_spell_51
      · replace h := itf c_9 h
        refine lv_iload_n hx hb d_Tokens_spell_12 rfl (lv_at hl 1 rfl) ?_
        refine lv_iload hx hb d_Tokens_spell_13 (lv_at hl 4 rfl) ?_
        refine lv_iadd hx hb d_Tokens_spell_15 ?_
        refine lv_iload_n hx hb d_Tokens_spell_16 rfl (lv_at hl 2 rfl) ?_
        refine lv_icmp_ge (tgt := 32) hx hb d_Tokens_spell_17 (by decide) (fun c_17 => ?_) (fun c_17 => ?_)
        · replace h := itp c_17 h
          refine lv_iconst (v := 0) hx hb d_Tokens_spell_32 (by decide) ?_
          refine lv_istore (lv' := [(6, .int 0), (0, .ref (A 1)), (1, .int x1), (2, .int x2), (3, .long x3), (5, .int x5)]) hx hb d_Tokens_spell_33 hl (by decide) rfl (fun ls hl => ?_)
          refine lv_lload_n hx hb d_Tokens_spell_35 rfl (lv_at hl 4 rfl) ?_
          refine lv_bipush (v := 8) hx hb d_Tokens_spell_36 (by decide) ?_
          refine lv_lshl hx hb d_Tokens_spell_38 rfl ?_
          refine lv_iload hx hb d_Tokens_spell_39 (lv_at hl 0 rfl) ?_
          refine lv_i2l hx hb d_Tokens_spell_41 rfl ?_
          refine lv_lor hx hb d_Tokens_spell_42 ?_
          refine lv_lstore_n (lv' := [(3, .long ((x3 <<< ((8 : Int32).toInt64 &&& 63)) ||| ((0 : Int32).toInt64))), (6, .int 0), (0, .ref (A 1)), (1, .int x1), (2, .int x2), (5, .int x5)]) hx hb d_Tokens_spell_43 rfl hl (by decide) rfl (fun ls hl => ?_)
          refine lv_iinc (v := x5 + 1) (lv' := [(5, .int (x5 + 1)), (3, .long ((x3 <<< ((8 : Int32).toInt64 &&& 63)) ||| ((0 : Int32).toInt64))), (6, .int 0), (0, .ref (A 1)), (1, .int x1), (2, .int x2)]) hx hb d_Tokens_spell_44 hl (k := 5) rfl (by first | rfl | decide) (by decide) rfl (fun ls hl => ?_)
          refine lv_goto (tgt := 5) hx hb d_Tokens_spell_47 (by decide) ?_
          exact ih _ _ h _ _ hP hD hS ls (lv_sub hl [3, 4, 5, 1, 0] rfl)
        · replace h := itf c_17 h
          refine lv_aload_n hx hb d_Tokens_spell_20 rfl (lv_at hl 0 rfl) ?_
          refine gf_Tokens_45 hx hb hg hown hK hP d_Tokens_spell_21 ?_
          refine lv_iload_n hx hb d_Tokens_spell_24 rfl (lv_at hl 1 rfl) ?_
          refine lv_iload hx hb d_Tokens_spell_25 (lv_at hl 4 rfl) ?_
          refine lv_iadd hx hb d_Tokens_spell_27 ?_
          obtain ⟨i_28, h⟩ := itn h
          refine ra_2 hx hb hK hP i_28 d_Tokens_spell_28 ?_
          refine lv_goto (tgt := 33) hx hb d_Tokens_spell_29 (by decide) ?_
          refine lv_istore (lv' := [(6, .int (σ.2.1 2 ((x1 + x5).toNatClampNeg))), (0, .ref (A 1)), (1, .int x1), (2, .int x2), (3, .long x3), (5, .int x5)]) hx hb d_Tokens_spell_33 hl (by decide) rfl (fun ls hl => ?_)
          refine lv_lload_n hx hb d_Tokens_spell_35 rfl (lv_at hl 4 rfl) ?_
          refine lv_bipush (v := 8) hx hb d_Tokens_spell_36 (by decide) ?_
          refine lv_lshl hx hb d_Tokens_spell_38 rfl ?_
          refine lv_iload hx hb d_Tokens_spell_39 (lv_at hl 0 rfl) ?_
          refine lv_i2l hx hb d_Tokens_spell_41 rfl ?_
          refine lv_lor hx hb d_Tokens_spell_42 ?_
          refine lv_lstore_n (lv' := [(3, .long ((x3 <<< ((8 : Int32).toInt64 &&& 63)) ||| ((σ.2.1 2 ((x1 + x5).toNatClampNeg)).toInt64))), (6, .int (σ.2.1 2 ((x1 + x5).toNatClampNeg))), (0, .ref (A 1)), (1, .int x1), (2, .int x2), (5, .int x5)]) hx hb d_Tokens_spell_43 rfl hl (by decide) rfl (fun ls hl => ?_)
          refine lv_iinc (v := x5 + 1) (lv' := [(5, .int (x5 + 1)), (3, .long ((x3 <<< ((8 : Int32).toInt64 &&& 63)) ||| ((σ.2.1 2 ((x1 + x5).toNatClampNeg)).toInt64))), (6, .int (σ.2.1 2 ((x1 + x5).toNatClampNeg))), (0, .ref (A 1)), (1, .int x1), (2, .int x2)]) hx hb d_Tokens_spell_44 hl (k := 5) rfl (by first | rfl | decide) (by decide) rfl (fun ls hl => ?_)
          refine lv_goto (tgt := 5) hx hb d_Tokens_spell_47 (by decide) ?_
          exact ih _ _ h _ _ hP hD hS ls (lv_sub hl [3, 4, 5, 1, 0] rfl)
  refine lv_lconst (v := 0) hx hb d_Tokens_spell_0 (by decide) ?_
  refine lv_lstore_n (lv' := [(3, .long 0), (0, .ref (A 1)), (1, .int x1), (2, .int x2)]) hx hb d_Tokens_spell_1 rfl hl (by decide) rfl (fun ls hl => ?_)
  refine lv_iconst (v := 0) hx hb d_Tokens_spell_2 (by decide) ?_
  refine lv_istore (lv' := [(5, .int 0), (3, .long 0), (0, .ref (A 1)), (1, .int x1), (2, .int x2)]) hx hb d_Tokens_spell_3 hl (by decide) rfl (fun ls hl => ?_)
  exact L_5  FU _ _ h _ _ hP hD hS ls (lv_sub hl [2, 3, 4, 1, 0] rfl)
def p_Tokens_sortOf (σ : Sto) (x1 : Int32) (x2 : Int32) : Option Int32 :=
  if inR x2 121 then if inR x2 121 then bd1 (p_Tokens_isLetter x1) fun v_15 =>
    (if v_15 = 0 then
      bd1 (p_Tokens_isDigit x1) fun v_42 =>
      (if v_42 = 0 then
        bd1 (p_Tokens_isSign x1) fun v_61 =>
        (if v_61 = 0 then
          some 0
        else
          some x1)
      else
        (if ((σ.2.1 5 x2.toNatClampNeg) - (σ.2.1 4 x2.toNatClampNeg)) ≤ 6 then
          some 2
        else
          some 0))
    else
      (if ((σ.2.1 5 x2.toNatClampNeg) - (σ.2.1 4 x2.toNatClampNeg)) ≤ 8 then
        if inR x2 121 then bd1 (p_Tokens_sortOfWord (σ.2.2 x2.toNatClampNeg)) fun v_37 =>
        some v_37 else none
      else
        some 0)) else none else none
abbrev w_Tokens_sortOf : List Cond := Cond.code y_Tokens_sortOf b_Tokens_sortOf 4 (some .int) :: Tg
abbrev r_Tokens_sortOf : Room := { frames := 1, cells := 0, slots := 0, locals := 21 }
theorem dv_Tokens_sortOf : y_Tokens_sortOf.cls = "LanguageServer$Tokens" ∧ y_Tokens_sortOf.cls ≠ "java/lang/invoke/MethodHandle" ∧ y_Tokens_sortOf.cls ≠ "java/lang/invoke/VarHandle" ∧ (parseMethodDescriptor y_Tokens_sortOf.desc).map (fun d => d.parameters.length) = some 2 := by decide +kernel
set_option maxHeartbeats 4000000 in
set_option maxRecDepth 100000 in
theorem c_Tokens_sortOf (l : Launch) (K : Kst) (A : Nat → Nat) {σ : Sto} {x1 : Int32} {x2 : Int32} {rr : Int32} (h : p_Tokens_sortOf σ x1 x2 = some rr) : Met l y_Tokens_sortOf w_Tokens_sortOf r_Tokens_sortOf (va_Pc [.ref (A 3), .int x1, .int x2] (RB K A σ)) (RQi K A rr σ) 0 0 (RF A) := by
  refine Met.ofW (cc := b_Tokens_sortOf) (maxL := 4) (ret := (some .int)) (by decide) rfl ?_
  intro p e s m args below meth c s₁ B hml hv
  obtain ⟨rfl, hP, hK, hD⟩ := hv
  have hx := B.exec
  have hb := B.bytes
  have hr := B.returns
  have hts := atoms_spec (ws := w_Tokens_sortOf) B.pre
  have hg : ∀ w ∈ Tg, w.before _ s = true := fun w q => hts w (List.mem_cons_of_mem _ q)
  have hown : s.vm.findClass "LanguageServer$Tokens" = some m.cls := findClass_of_methodNamed B.named
  have hlocks := B.notSynchronized
  have hS : va_S (RF A) s.heap s.heap [] := va_S.rf
  have hl := lv_entry ([.ref (A 3), .int x1, .int x2]) (n := 4) (Nat.le_of_ble_eq_true rfl)
  rw [lg_entry_eq]
  generalize (lg_sl ([.ref (A 3), .int x1, .int x2]) ++ List.replicate (4 - (lg_sl ([.ref (A 3), .int x1, .int x2])).length) Slot.unset).toArray = ls at hl ⊢
  have hl : lv_has ls 4 [(0, .ref (A 3)), (1, .int x1), (2, .int x2)] := hl
  generalize hargs : ([.ref (A 3), .int x1, .int x2] : List Value).toArray = args at hg hts ⊢
  obtain ⟨Q, hQ⟩ : ∃ Q, Q = MQ below (RQi K A rr σ) args s 0 0 (RF A) := ⟨_, rfl⟩
  rw [← hQ]
  have hRet : ∀ (v : Int32), some v = some rr → ∀ (H : Heap) (locs : List Loc), va_P K.1 vwCl (wR K A σ) H → va_D (RF A) (wR K A σ) → va_S (RF A) s.heap H locs → ∀ (pc : Nat) (ls : Array Slot), decode b_Tokens_sortOf pc = .ok (.ireturn, 1) → W p l e (headSpec w_Tokens_sortOf r_Tokens_sortOf).room s m args below meth c H locs 0 0 Q (F0 m pc ls [.int v]) := by
    intro v h H locs hP hD hS pc ls hd
    cases h
    subst hQ
    exact W.iret hx hb hr (fun t ht hW => ⟨⟨_, (), rfl, rfl, by rw [ht]; exact hP, RK.warm hW hK, hD⟩, hS.F ht⟩) hS.2.2 hd
  clear hQ
  unfold p_Tokens_sortOf at h
  refine lv_aload_n hx hb d_Tokens_sortOf_0 rfl (lv_at hl 0 rfl) ?_
  refine gf_Tokens_15 hx hb hg hown hK hP d_Tokens_sortOf_1 ?_
  refine lv_iload_n hx hb d_Tokens_sortOf_4 rfl (lv_at hl 2 rfl) ?_
  obtain ⟨i_5, h⟩ := itn h
  refine ra_5 hx hb hK hP i_5 d_Tokens_sortOf_5 ?_
  refine lv_aload_n hx hb d_Tokens_sortOf_6 rfl (lv_at hl 0 rfl) ?_
  refine gf_Tokens_11 hx hb hg hown hK hP d_Tokens_sortOf_7 ?_
  refine lv_iload_n hx hb d_Tokens_sortOf_10 rfl (lv_at hl 2 rfl) ?_
  obtain ⟨i_11, h⟩ := itn h
  refine ra_4 hx hb hK hP i_11 d_Tokens_sortOf_11 ?_
  refine lv_isub hx hb d_Tokens_sortOf_12 ?_
  refine lv_istore_n (lv' := [(3, .int ((σ.2.1 5 x2.toNatClampNeg) - (σ.2.1 4 x2.toNatClampNeg))), (0, .ref (A 3)), (1, .int x1), (2, .int x2)]) hx hb d_Tokens_sortOf_13 rfl hl (by decide) rfl (fun ls hl => ?_)
  refine lv_iload_n hx hb d_Tokens_sortOf_14 rfl (lv_at hl 2 rfl) ?_
  obtain ⟨v_15, e_15, h⟩ := bd1_some h
  refine R_cpi (va_runS (As := [.int x1]) (rest := []) ⟨hx, hb, hml, hown, hts⟩ (c_Tokens_isLetter l e_15) (va_cwS 1 hts (gd_S wd_323 wd_324 wd_4 wd_325) rfl rfl rfl ds_Tokens_isLetter ⟨Nat.le_of_ble_eq_true rfl, Nat.le_of_ble_eq_true rfl⟩) (P_ps hK.2) rfl rfl hl.1 rfl (lv_room (Nat.le_of_ble_eq_true rfl)) d_Tokens_sortOf_15 ⟨Nat.le_of_ble_eq_true rfl, Nat.le_of_ble_eq_true rfl⟩) hP hD hS (fun H locs hP hD hS => ?_)
  refine lv_if_eq (tgt := 41) hx hb d_Tokens_sortOf_18 (by decide) (fun c_18 => ?_) (fun c_18 => ?_)
  · replace h := itp c_18 h
    refine lv_iload_n hx hb d_Tokens_sortOf_41 rfl (lv_at hl 2 rfl) ?_
    obtain ⟨v_42, e_42, h⟩ := bd1_some h
    refine R_cpi (va_runS (As := [.int x1]) (rest := []) ⟨hx, hb, hml, hown, hts⟩ (c_Tokens_isDigit l e_42) (va_cwS 1 hts (gd_S wd_326 wd_327 wd_4 wd_328) rfl rfl rfl ds_Tokens_isDigit ⟨Nat.le_of_ble_eq_true rfl, Nat.le_of_ble_eq_true rfl⟩) (P_ps hK.2) rfl rfl hl.1 rfl (lv_room (Nat.le_of_ble_eq_true rfl)) d_Tokens_sortOf_42 ⟨Nat.le_of_ble_eq_true rfl, Nat.le_of_ble_eq_true rfl⟩) hP hD hS (fun H locs hP hD hS => ?_)
    refine lv_if_eq (tgt := 60) hx hb d_Tokens_sortOf_45 (by decide) (fun c_45 => ?_) (fun c_45 => ?_)
    · replace h := itp c_45 h
      refine lv_iload_n hx hb d_Tokens_sortOf_60 rfl (lv_at hl 2 rfl) ?_
      obtain ⟨v_61, e_61, h⟩ := bd1_some h
      refine R_cpi (va_runS (As := [.int x1]) (rest := []) ⟨hx, hb, hml, hown, hts⟩ (c_Tokens_isSign l e_61) (va_cwS 1 hts (gd_S wd_345 wd_346 wd_4 wd_347) rfl rfl rfl ds_Tokens_isSign ⟨Nat.le_of_ble_eq_true rfl, Nat.le_of_ble_eq_true rfl⟩) (P_ps hK.2) rfl rfl hl.1 rfl (lv_room (Nat.le_of_ble_eq_true rfl)) d_Tokens_sortOf_61 ⟨Nat.le_of_ble_eq_true rfl, Nat.le_of_ble_eq_true rfl⟩) hP hD hS (fun H locs hP hD hS => ?_)
      refine lv_if_eq (tgt := 71) hx hb d_Tokens_sortOf_64 (by decide) (fun c_64 => ?_) (fun c_64 => ?_)
      · replace h := itp c_64 h
        refine lv_iconst (v := 0) hx hb d_Tokens_sortOf_71 (by decide) ?_
        exact hRet _ h _ _ hP hD hS _ _ d_Tokens_sortOf_72
      · replace h := itf c_64 h
        refine lv_iload_n hx hb d_Tokens_sortOf_67 rfl (lv_at hl 2 rfl) ?_
        refine lv_goto (tgt := 72) hx hb d_Tokens_sortOf_68 (by decide) ?_
        exact hRet _ h _ _ hP hD hS _ _ d_Tokens_sortOf_72
    · replace h := itf c_45 h
      refine lv_iload_n hx hb d_Tokens_sortOf_48 rfl (lv_at hl 0 rfl) ?_
      refine lv_bipush (v := 6) hx hb d_Tokens_sortOf_49 (by decide) ?_
      refine lv_icmp_le (tgt := 58) hx hb d_Tokens_sortOf_51 (by decide) (fun c_51 => ?_) (fun c_51 => ?_)
      · replace h := itp c_51 h
        refine lv_iconst (v := 2) hx hb d_Tokens_sortOf_58 (by decide) ?_
        exact hRet _ h _ _ hP hD hS _ _ d_Tokens_sortOf_59
      · replace h := itf c_51 h
        refine lv_iconst (v := 0) hx hb d_Tokens_sortOf_54 (by decide) ?_
        refine lv_goto (tgt := 59) hx hb d_Tokens_sortOf_55 (by decide) ?_
        exact hRet _ h _ _ hP hD hS _ _ d_Tokens_sortOf_59
  · replace h := itf c_18 h
    refine lv_iload_n hx hb d_Tokens_sortOf_21 rfl (lv_at hl 0 rfl) ?_
    refine lv_bipush (v := 8) hx hb d_Tokens_sortOf_22 (by decide) ?_
    refine lv_icmp_le (tgt := 31) hx hb d_Tokens_sortOf_24 (by decide) (fun c_24 => ?_) (fun c_24 => ?_)
    · replace h := itp c_24 h
      refine lv_aload_n hx hb d_Tokens_sortOf_31 rfl (lv_at hl 1 rfl) ?_
      refine gf_Tokens_21 hx hb hg hown hK hP d_Tokens_sortOf_32 ?_
      refine lv_iload_n hx hb d_Tokens_sortOf_35 rfl (lv_at hl 3 rfl) ?_
      obtain ⟨i_36, h⟩ := itn h
      refine ra_7 hx hb hK hP i_36 d_Tokens_sortOf_36 ?_
      obtain ⟨v_37, e_37, h⟩ := bd1_some h
      refine R_cpi (va_runS (As := [.long (σ.2.2 x2.toNatClampNeg)]) (rest := []) ⟨hx, hb, hml, hown, hts⟩ (c_Tokens_sortOfWord l e_37) (va_cwS 1 hts (gd_S wd_336 wd_337 wd_4 wd_338) rfl rfl rfl ds_Tokens_sortOfWord ⟨Nat.le_of_ble_eq_true rfl, Nat.le_of_ble_eq_true rfl⟩) (P_ps hK.2) rfl rfl hl.1 rfl (lv_room (Nat.le_of_ble_eq_true rfl)) d_Tokens_sortOf_37 ⟨Nat.le_of_ble_eq_true rfl, Nat.le_of_ble_eq_true rfl⟩) hP hD hS (fun H locs hP hD hS => ?_)
      exact hRet _ h _ _ hP hD hS _ _ d_Tokens_sortOf_40
    · replace h := itf c_24 h
      refine lv_iconst (v := 0) hx hb d_Tokens_sortOf_27 (by decide) ?_
      refine lv_goto (tgt := 40) hx hb d_Tokens_sortOf_28 (by decide) ?_
      exact hRet _ h _ _ hP hD hS _ _ d_Tokens_sortOf_40
def p_Tokens_cut_b91 (k9 : Sto → Int32 → Int32 → Option Sto) (σ : Sto) (x3 : Int32) (s1 : Int32) (s2 : Int32) : Option Sto :=
  if inR s1 121 then if inR x3 121 then (if ((sS (sA σ 6 s1.toNatClampNeg s2) 2 (x3 + 1)).2.1 6 x3.toNatClampNeg) = 0 then
      some (sS (sA σ 6 s1.toNatClampNeg s2) 2 (x3 + 1))
    else
      if inR x3 121 then k9 (sS (sA σ 6 s1.toNatClampNeg s2) 2 (x3 + 1)) ((sS (sA σ 6 s1.toNatClampNeg s2) 2 (x3 + 1)).2.1 5 x3.toNatClampNeg) (x3 + 1) else none) else none else none
def p_Tokens_cut_L9 : Nat → Sto → Int32 → Int32 → Option Sto
  | 0, _, _, _ => none
  | n + 1, σ, x2, x3 =>
    (if (121 : Int32) ≤ x3 then
        some σ
      else
        bd1 (p_Tokens_skipBlanks σ x2) fun v_17 =>
        (if v_17 < (σ.1 1) then
          if inR x3 121 then bd1 (p_Tokens_endOfToken (sA σ 4 x3.toNatClampNeg v_17) v_17) fun v_44 =>
          if inR x3 121 then if inR x3 121 then bd1 (p_Tokens_spell (sA (sA σ 4 x3.toNatClampNeg v_17) 5 x3.toNatClampNeg v_44) v_17 ((sA (sA σ 4 x3.toNatClampNeg v_17) 5 x3.toNatClampNeg v_44).2.1 5 x3.toNatClampNeg)) fun v_61 =>
          if inR x3 121 then (if (120 : Int32) ≤ x3 then
            p_Tokens_cut_b91 (p_Tokens_cut_L9 n) (sL (sA (sA σ 4 x3.toNatClampNeg v_17) 5 x3.toNatClampNeg v_44) x3.toNatClampNeg v_61) x3 x3 0
          else
            if inR v_17 240 then bd1 (p_Tokens_sortOf (sL (sA (sA σ 4 x3.toNatClampNeg v_17) 5 x3.toNatClampNeg v_44) x3.toNatClampNeg v_61) ((sL (sA (sA σ 4 x3.toNatClampNeg v_17) 5 x3.toNatClampNeg v_44) x3.toNatClampNeg v_61).2.1 2 v_17.toNatClampNeg) x3) fun v_84 =>
            p_Tokens_cut_b91 (p_Tokens_cut_L9 n) (sL (sA (sA σ 4 x3.toNatClampNeg v_17) 5 x3.toNatClampNeg v_44) x3.toNatClampNeg v_61) x3 x3 v_84 else none) else none else none else none else none
        else
          some σ))
def p_Tokens_cut (σ : Sto) : Option Sto :=
  p_Tokens_cut_L9 FU (sS σ 2 0) 0 0
abbrev w_Tokens_cut : List Cond := Cond.code y_Tokens_cut b_Tokens_cut 4 none :: Tg
abbrev r_Tokens_cut : Room := { frames := 2, cells := 0, slots := 0, locals := 44 }
theorem dv_Tokens_cut : y_Tokens_cut.cls = "LanguageServer$Tokens" ∧ y_Tokens_cut.cls ≠ "java/lang/invoke/MethodHandle" ∧ y_Tokens_cut.cls ≠ "java/lang/invoke/VarHandle" ∧ (parseMethodDescriptor y_Tokens_cut.desc).map (fun d => d.parameters.length) = some 1 := by decide +kernel
set_option maxHeartbeats 4000000 in
set_option maxRecDepth 100000 in
theorem c_Tokens_cut (l : Launch) (K : Kst) (A : Nat → Nat) {σ : Sto} {ss : Sto} (h : p_Tokens_cut σ = some ss) : Met l y_Tokens_cut w_Tokens_cut r_Tokens_cut (va_Pc [.ref (A 3), .ref (A 1)] (RB K A σ)) (RQv K A ss) 0 0 (RF A) := by
  refine Met.ofW (cc := b_Tokens_cut) (maxL := 4) (ret := none) (by decide) rfl ?_
  intro p e s m args below meth c s₁ B hml hv
  obtain ⟨rfl, hP, hK, hD⟩ := hv
  have hx := B.exec
  have hb := B.bytes
  have hr := B.returns
  have hts := atoms_spec (ws := w_Tokens_cut) B.pre
  have hg : ∀ w ∈ Tg, w.before _ s = true := fun w q => hts w (List.mem_cons_of_mem _ q)
  have hown : s.vm.findClass "LanguageServer$Tokens" = some m.cls := findClass_of_methodNamed B.named
  have hlocks := B.notSynchronized
  have hS : va_S (RF A) s.heap s.heap [] := va_S.rf
  have hl := lv_entry ([.ref (A 3), .ref (A 1)]) (n := 4) (Nat.le_of_ble_eq_true rfl)
  rw [lg_entry_eq]
  generalize (lg_sl ([.ref (A 3), .ref (A 1)]) ++ List.replicate (4 - (lg_sl ([.ref (A 3), .ref (A 1)])).length) Slot.unset).toArray = ls at hl ⊢
  have hl : lv_has ls 4 [(0, .ref (A 3)), (1, .ref (A 1))] := hl
  generalize hargs : ([.ref (A 3), .ref (A 1)] : List Value).toArray = args at hg hts ⊢
  obtain ⟨Q, hQ⟩ : ∃ Q, Q = MQ below (RQv K A ss) args s 0 0 (RF A) := ⟨_, rfl⟩
  rw [← hQ]
  have hRet : ∀ (σ : Sto), some σ = some ss → ∀ (H : Heap) (locs : List Loc), va_P K.1 vwCl (wR K A σ) H → va_D (RF A) (wR K A σ) → va_S (RF A) s.heap H locs → ∀ (pc : Nat) (ls : Array Slot), decode b_Tokens_cut pc = .ok (.return_, 1) → W p l e (headSpec w_Tokens_cut r_Tokens_cut).room s m args below meth c H locs 0 0 Q (F0 m pc ls []) := by
    intro σ h H locs hP hD hS pc ls hd
    cases h
    subst hQ
    exact W.vret hx hb hr (fun t ht hW => ⟨⟨(), rfl, trivial, by rw [ht]; exact hP, RK.warm hW hK, hD⟩, hS.F ht⟩) hS.2.2 hd
  clear hQ
  unfold p_Tokens_cut at h
  have J_91 : ∀ (k9 : Sto → Int32 → Int32 → Option Sto) (hk9 : ∀ (σ : Sto) (x2 : Int32) (x3 : Int32), k9 σ x2 x3 = some ss → ∀ (H : Heap) (locs : List Loc), va_P K.1 vwCl (wR K A σ) H → va_D (RF A) (wR K A σ) → va_S (RF A) s.heap H locs → ∀ ls : Array Slot, lv_has ls 4 [(0, .ref (A 3)), (1, .ref (A 1)), (2, .int x2), (3, .int x3)] → W p l e (headSpec w_Tokens_cut r_Tokens_cut).room s m args below meth c H locs 0 0 Q (F0 m 9 ls [])) (σ : Sto) (x3 : Int32) (s1 : Int32) (s2 : Int32), p_Tokens_cut_b91 k9 σ x3 s1 s2 = some ss → ∀ (H : Heap) (locs : List Loc), va_P K.1 vwCl (wR K A σ) H → va_D (RF A) (wR K A σ) → va_S (RF A) s.heap H locs → ∀ ls : Array Slot, lv_has ls 4 [(0, .ref (A 3)), (1, .ref (A 1)), (3, .int x3)] → W p l e (headSpec w_Tokens_cut r_Tokens_cut).room s m args below meth c H locs 0 0 Q (F0 m 91 ls [.int s2, .int s1, .ref (A 6)]) := by
    intro k9 hk9 σ x3 s1 s2 h H locs hP hD hS ls hl
    rw [p_Tokens_cut_b91] at h
    obtain ⟨i_91, h⟩ := itn h
    refine wa_6 hx hb hK hP hD hS i_91 d_Tokens_cut_91 (fun H locs hP hD hS => ?_)
    refine lv_aload_n hx hb d_Tokens_cut_92 rfl (lv_at hl 0 rfl) ?_
    refine lv_iload_n hx hb d_Tokens_cut_93 rfl (lv_at hl 2 rfl) ?_
    refine lv_iconst (v := 1) hx hb d_Tokens_cut_94 (by decide) ?_
    refine lv_iadd hx hb d_Tokens_cut_95 ?_
    refine pf_Tokens_25 hx hb hg hown hK hP hD hS d_Tokens_cut_96 (fun H locs hP hD hS => ?_)
    refine lv_aload_n hx hb d_Tokens_cut_99 rfl (lv_at hl 0 rfl) ?_
    refine gf_Tokens_18 hx hb hg hown hK hP d_Tokens_cut_100 ?_
    refine lv_iload_n hx hb d_Tokens_cut_103 rfl (lv_at hl 2 rfl) ?_
    obtain ⟨i_104, h⟩ := itn h
    refine ra_6 hx hb hK hP i_104 d_Tokens_cut_104 ?_
    refine lv_if_ne (tgt := 109) hx hb d_Tokens_cut_105 (by decide) (fun c_105 => ?_) (fun c_105 => ?_)
    · replace h := itf c_105 h
      refine lv_aload_n hx hb d_Tokens_cut_109 rfl (lv_at hl 0 rfl) ?_
      refine gf_Tokens_15 hx hb hg hown hK hP d_Tokens_cut_110 ?_
      refine lv_iload_n hx hb d_Tokens_cut_113 rfl (lv_at hl 2 rfl) ?_
      obtain ⟨i_114, h⟩ := itn h
      refine ra_5 hx hb hK hP i_114 d_Tokens_cut_114 ?_
      refine lv_istore_n (lv' := [(2, .int ((sS (sA σ 6 s1.toNatClampNeg s2) 2 (x3 + 1)).2.1 5 x3.toNatClampNeg)), (0, .ref (A 3)), (1, .ref (A 1)), (3, .int x3)]) hx hb d_Tokens_cut_115 rfl hl (by decide) rfl (fun ls hl => ?_)
      refine lv_iinc (v := x3 + 1) (lv' := [(3, .int (x3 + 1)), (2, .int ((sS (sA σ 6 s1.toNatClampNeg s2) 2 (x3 + 1)).2.1 5 x3.toNatClampNeg)), (0, .ref (A 3)), (1, .ref (A 1))]) hx hb d_Tokens_cut_116 hl (k := 3) rfl (by first | rfl | decide) (by decide) rfl (fun ls hl => ?_)
      refine lv_goto (tgt := 9) hx hb d_Tokens_cut_119 (by decide) ?_
      exact hk9 _ _ _ h _ _ hP hD hS ls (lv_sub hl [2, 3, 1, 0] rfl)
    · replace h := itp c_105 h
      exact hRet _ h _ _ hP hD hS _ _ d_Tokens_cut_108
  have L_9 : ∀ (n : Nat) (σ : Sto) (x2 : Int32) (x3 : Int32), p_Tokens_cut_L9 n σ x2 x3 = some ss → ∀ (H : Heap) (locs : List Loc), va_P K.1 vwCl (wR K A σ) H → va_D (RF A) (wR K A σ) → va_S (RF A) s.heap H locs → ∀ ls : Array Slot, lv_has ls 4 [(0, .ref (A 3)), (1, .ref (A 1)), (2, .int x2), (3, .int x3)] → W p l e (headSpec w_Tokens_cut r_Tokens_cut).room s m args below meth c H locs 0 0 Q (F0 m 9 ls []) := by
    intro n
    induction n with
    | zero => intro _ _ _ h; cases h
    | succ n ih =>
      intro σ x2 x3 h H locs hP hD hS ls hl
      rw [p_Tokens_cut_L9] at h
      refine lv_iload_n hx hb d_Tokens_cut_9 rfl (lv_at hl 3 rfl) ?_
      refine lv_bipush (v := 121) hx hb d_Tokens_cut_10 (by decide) ?_
      refine lv_icmp_ge (tgt := 122) hx hb d_Tokens_cut_12 (by decide) (fun c_12 => ?_) (fun c_12 => ?_)
      · replace h := itp c_12 h
        exact hRet _ h _ _ hP hD hS _ _ d_Tokens_cut_122
      · replace h := itf c_12 h
        refine lv_aload_n hx hb d_Tokens_cut_15 rfl (lv_at hl 1 rfl) ?_
        refine lv_iload_n hx hb d_Tokens_cut_16 rfl (lv_at hl 2 rfl) ?_
        obtain ⟨v_17, e_17, h⟩ := bd1_some h
        refine R_calli (va_runS (As := [.ref (A 1), .int x2]) (rest := []) ⟨hx, hb, hml, hown, hts⟩ (c_Tokens_skipBlanks l K A e_17) (va_cwS 2 hts (gd_S wd_317 wd_318 wd_4 wd_319) rfl rfl rfl ds_Tokens_skipBlanks ⟨Nat.le_of_ble_eq_true rfl, Nat.le_of_ble_eq_true rfl⟩) (R_ps hK hP hD) rfl rfl hl.1 rfl (lv_room (Nat.le_of_ble_eq_true rfl)) d_Tokens_cut_17 ⟨Nat.le_of_ble_eq_true rfl, Nat.le_of_ble_eq_true rfl⟩) hS (fun H locs hP hD hS => ?_)
        refine lv_istore_n (lv' := [(2, .int v_17), (0, .ref (A 3)), (1, .ref (A 1)), (3, .int x3)]) hx hb d_Tokens_cut_20 rfl hl (by decide) rfl (fun ls hl => ?_)
        refine lv_iload_n hx hb d_Tokens_cut_21 rfl (lv_at hl 0 rfl) ?_
        refine lv_aload_n hx hb d_Tokens_cut_22 rfl (lv_at hl 2 rfl) ?_
        refine gf_Tokens_33 hx hb hg hown hK hP d_Tokens_cut_23 ?_
        refine lv_icmp_lt (tgt := 30) hx hb d_Tokens_cut_26 (by decide) (fun c_26 => ?_) (fun c_26 => ?_)
        · replace h := itp c_26 h
          refine lv_aload_n hx hb d_Tokens_cut_30 rfl (lv_at hl 1 rfl) ?_
          refine gf_Tokens_11 hx hb hg hown hK hP d_Tokens_cut_31 ?_
          refine lv_iload_n hx hb d_Tokens_cut_34 rfl (lv_at hl 3 rfl) ?_
          refine lv_iload_n hx hb d_Tokens_cut_35 rfl (lv_at hl 0 rfl) ?_
          obtain ⟨i_36, h⟩ := itn h
          refine wa_4 hx hb hK hP hD hS i_36 d_Tokens_cut_36 (fun H locs hP hD hS => ?_)
          refine lv_aload_n hx hb d_Tokens_cut_37 rfl (lv_at hl 1 rfl) ?_
          refine gf_Tokens_15 hx hb hg hown hK hP d_Tokens_cut_38 ?_
          refine lv_iload_n hx hb d_Tokens_cut_41 rfl (lv_at hl 3 rfl) ?_
          refine lv_aload_n hx hb d_Tokens_cut_42 rfl (lv_at hl 2 rfl) ?_
          refine lv_iload_n hx hb d_Tokens_cut_43 rfl (lv_at hl 0 rfl) ?_
          obtain ⟨v_44, e_44, h⟩ := bd1_some h
          refine R_calli (va_runS (As := [.ref (A 1), .int v_17]) (rest := [.int x3, .ref (A 5)]) ⟨hx, hb, hml, hown, hts⟩ (c_Tokens_endOfToken l K A e_44) (va_cwS 2 hts (gd_S wd_320 wd_321 wd_4 wd_322) rfl rfl rfl ds_Tokens_endOfToken ⟨Nat.le_of_ble_eq_true rfl, Nat.le_of_ble_eq_true rfl⟩) (R_ps hK hP hD) rfl rfl hl.1 rfl (lv_room (Nat.le_of_ble_eq_true rfl)) d_Tokens_cut_44 ⟨Nat.le_of_ble_eq_true rfl, Nat.le_of_ble_eq_true rfl⟩) hS (fun H locs hP hD hS => ?_)
          obtain ⟨i_47, h⟩ := itn h
          refine wa_5 hx hb hK hP hD hS i_47 d_Tokens_cut_47 (fun H locs hP hD hS => ?_)
          refine lv_aload_n hx hb d_Tokens_cut_48 rfl (lv_at hl 1 rfl) ?_
          refine gf_Tokens_21 hx hb hg hown hK hP d_Tokens_cut_49 ?_
          refine lv_iload_n hx hb d_Tokens_cut_52 rfl (lv_at hl 3 rfl) ?_
          refine lv_aload_n hx hb d_Tokens_cut_53 rfl (lv_at hl 2 rfl) ?_
          refine lv_iload_n hx hb d_Tokens_cut_54 rfl (lv_at hl 0 rfl) ?_
          refine lv_aload_n hx hb d_Tokens_cut_55 rfl (lv_at hl 1 rfl) ?_
          refine gf_Tokens_15 hx hb hg hown hK hP d_Tokens_cut_56 ?_
          refine lv_iload_n hx hb d_Tokens_cut_59 rfl (lv_at hl 3 rfl) ?_
          obtain ⟨i_60, h⟩ := itn h
          refine ra_5 hx hb hK hP i_60 d_Tokens_cut_60 ?_
          obtain ⟨v_61, e_61, h⟩ := bd1_some h
          refine R_calll (va_runS (As := [.ref (A 1), .int v_17, .int ((sA (sA σ 4 x3.toNatClampNeg v_17) 5 x3.toNatClampNeg v_44).2.1 5 x3.toNatClampNeg)]) (rest := [.int x3, .ref (A 7)]) ⟨hx, hb, hml, hown, hts⟩ (c_Tokens_spell l K A e_61) (va_cwS 3 hts (gd_S wd_329 wd_330 wd_4 wd_331) rfl rfl rfl ds_Tokens_spell ⟨Nat.le_of_ble_eq_true rfl, Nat.le_of_ble_eq_true rfl⟩) (R_ps hK hP hD) rfl rfl hl.1 rfl (lv_room (Nat.le_of_ble_eq_true rfl)) d_Tokens_cut_61 ⟨Nat.le_of_ble_eq_true rfl, Nat.le_of_ble_eq_true rfl⟩) hS (fun H locs hP hD hS => ?_)
          obtain ⟨i_64, h⟩ := itn h
          refine wa_7 hx hb hK hP hD hS i_64 d_Tokens_cut_64 (fun H locs hP hD hS => ?_)
          refine lv_aload_n hx hb d_Tokens_cut_65 rfl (lv_at hl 1 rfl) ?_
          refine gf_Tokens_18 hx hb hg hown hK hP d_Tokens_cut_66 ?_
          refine lv_iload_n hx hb d_Tokens_cut_69 rfl (lv_at hl 3 rfl) ?_
          refine lv_iload_n hx hb d_Tokens_cut_70 rfl (lv_at hl 3 rfl) ?_
          refine lv_bipush (v := 120) hx hb d_Tokens_cut_71 (by decide) ?_
          refine lv_icmp_ge (tgt := 90) hx hb d_Tokens_cut_73 (by decide) (fun c_73 => ?_) (fun c_73 => ?_)
          · replace h := itp c_73 h
            refine lv_iconst (v := 0) hx hb d_Tokens_cut_90 (by decide) ?_
            exact J_91 _ ih _ _ _ _ h _ _ hP hD hS ls (lv_sub hl [1, 2, 3] rfl)
          · replace h := itf c_73 h
            refine lv_aload_n hx hb d_Tokens_cut_76 rfl (lv_at hl 1 rfl) ?_
            refine lv_aload_n hx hb d_Tokens_cut_77 rfl (lv_at hl 2 rfl) ?_
            refine gf_Tokens_45 hx hb hg hown hK hP d_Tokens_cut_78 ?_
            refine lv_iload_n hx hb d_Tokens_cut_81 rfl (lv_at hl 0 rfl) ?_
            obtain ⟨i_82, h⟩ := itn h
            refine ra_2 hx hb hK hP i_82 d_Tokens_cut_82 ?_
            refine lv_iload_n hx hb d_Tokens_cut_83 rfl (lv_at hl 3 rfl) ?_
            obtain ⟨v_84, e_84, h⟩ := bd1_some h
            refine R_calli (va_runV (As := [.int ((sL (sA (sA σ 4 x3.toNatClampNeg v_17) 5 x3.toNatClampNeg v_44) x3.toNatClampNeg v_61).2.1 2 v_17.toNatClampNeg), .int x3]) (rest := [.int x3, .ref (A 6)]) ⟨hx, hb, hml, hown, hts⟩ (c_Tokens_sortOf l K A e_84) (cwV 2 hts (gd_V wd_332 wd_334 wp_0 wd_4 wd_335) rfl rfl rfl dv_Tokens_sortOf ⟨Nat.le_of_ble_eq_true rfl, Nat.le_of_ble_eq_true rfl⟩) (R_pv_3 hK hP hD) rfl rfl hl.1 rfl (lv_room (Nat.le_of_ble_eq_true rfl)) d_Tokens_cut_84 ⟨Nat.le_of_ble_eq_true rfl, Nat.le_of_ble_eq_true rfl⟩) hS (fun H locs hP hD hS => ?_)
            refine lv_goto (tgt := 91) hx hb d_Tokens_cut_87 (by decide) ?_
            exact J_91 _ ih _ _ _ _ h _ _ hP hD hS ls (lv_sub hl [1, 2, 3] rfl)
        · replace h := itf c_26 h
          exact hRet _ h _ _ hP hD hS _ _ d_Tokens_cut_29
  refine lv_aload_n hx hb d_Tokens_cut_0 rfl (lv_at hl 0 rfl) ?_
  refine lv_iconst (v := 0) hx hb d_Tokens_cut_1 (by decide) ?_
  refine pf_Tokens_25 hx hb hg hown hK hP hD hS d_Tokens_cut_2 (fun H locs hP hD hS => ?_)
  refine lv_iconst (v := 0) hx hb d_Tokens_cut_5 (by decide) ?_
  refine lv_istore_n (lv' := [(2, .int 0), (0, .ref (A 3)), (1, .ref (A 1))]) hx hb d_Tokens_cut_6 rfl hl (by decide) rfl (fun ls hl => ?_)
  refine lv_iconst (v := 0) hx hb d_Tokens_cut_7 (by decide) ?_
  refine lv_istore_n (lv' := [(3, .int 0), (2, .int 0), (0, .ref (A 3)), (1, .ref (A 1))]) hx hb d_Tokens_cut_8 rfl hl (by decide) rfl (fun ls hl => ?_)
  exact L_9  FU _ _ _ h _ _ hP hD hS ls (lv_sub hl [2, 3, 1, 0] rfl)
