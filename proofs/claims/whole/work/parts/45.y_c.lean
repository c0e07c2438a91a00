def p_Mo_cut_b233 (x1 : Int32) (σ : Sto) (x8 : Int32) : Option (Int32 × Sto) :=
  (if x8 = 120 then
      if inR x8 124 then if inR x8 124 then some ((sS (sA σ 3 x8.toNatClampNeg 9) 3 (((sA σ 3 x8.toNatClampNeg 9).1 3) + 1)).2.1 6 x8.toNatClampNeg, sS (sA σ 3 x8.toNatClampNeg 9) 3 (((sA σ 3 x8.toNatClampNeg 9).1 3) + 1)) else none else none
    else
      if inR x8 124 then some ((sS σ 3 ((σ.1 3) + 1)).2.1 6 x8.toNatClampNeg, sS σ 3 ((σ.1 3) + 1)) else none)
def p_Mo_cut_b232 (x1 : Int32) (σ : Sto) (x8 : Int32) (s1 : Int32) (s2 : Int32) : Option (Int32 × Sto) :=
  if inR s1 124 then p_Mo_cut_b233 x1 (sA σ 3 s1.toNatClampNeg s2) x8 else none
def p_Mo_cut_b198 (x1 : Int32) (σ : Sto) (x7 : Int32) (x8 : Int32) : Option (Int32 × Sto) :=
  (if x7 = 0 then
      if inR x1 240 then bd1 (p_Mo_sign (σ.2.1 1 x1.toNatClampNeg)) fun v_215 =>
      (if v_215 = 0 then
        p_Mo_cut_b232 x1 σ x8 x8 9
      else
        if inR x1 240 then p_Mo_cut_b232 x1 σ x8 x8 (σ.2.1 1 x1.toNatClampNeg) else none) else none
    else
      p_Mo_cut_b233 x1 σ x8)
def p_Mo_cut_b197 (x1 : Int32) (σ : Sto) (x7 : Int32) (x8 : Int32) (s1 : Int32) (s2 : Int32) : Option (Int32 × Sto) :=
  if inR s1 124 then p_Mo_cut_b198 x1 (sA σ 3 s1.toNatClampNeg s2) x7 x8 else none
def p_Mo_cut_b173 (x1 : Int32) (σ : Sto) (x6 : Int32) (x7 : Int32) (x8 : Int32) : Option (Int32 × Sto) :=
  (if x6 = 0 then
      p_Mo_cut_b198 x1 σ x7 x8
    else
      (if x7 ≤ 6 then
        p_Mo_cut_b197 x1 σ x7 x8 x8 2
      else
        p_Mo_cut_b197 x1 σ x7 x8 x8 9))
def p_Mo_cut_b172 (x1 : Int32) (σ : Sto) (x6 : Int32) (x7 : Int32) (x8 : Int32) (s1 : Int32) (s2 : Int32) : Option (Int32 × Sto) :=
  if inR s1 124 then p_Mo_cut_b173 x1 (sA σ 3 s1.toNatClampNeg s2) x6 x7 x8 else none
def p_Mo_cut_b144 (x1 : Int32) (σ : Sto) (x3 : Int64) (x5 : Int32) (x6 : Int32) (x7 : Int32) (x8 : Int32) (s1 : Int32) (s2 : Int32) : Option (Int32 × Sto) :=
  if inR s1 124 then (if x5 = 0 then
      p_Mo_cut_b173 x1 (sA σ 6 s1.toNatClampNeg s2) x6 x7 x8
    else
      (if x7 ≤ 8 then
        bd1 (p_Mo_wordKind x3) fun v_169 =>
        p_Mo_cut_b172 x1 (sA σ 6 s1.toNatClampNeg s2) x6 x7 x8 x8 v_169
      else
        p_Mo_cut_b172 x1 (sA σ 6 s1.toNatClampNeg s2) x6 x7 x8 x8 9)) else none
def p_Mo_cut_b99 (x1 : Int32) (σ : Sto) (x2 : Int32) (x3 : Int64) (x5 : Int32) (x6 : Int32) : Option (Int32 × Sto) :=
  if inR (σ.1 3) 124 then if inR (σ.1 3) 124 then (if (x2 - x1) = 0 then
      p_Mo_cut_b144 x1 (sL (sA σ 5 ((σ.1 3).toNatClampNeg) x1) ((σ.1 3).toNatClampNeg) x3) x3 x5 x6 (x2 - x1) (σ.1 3) (σ.1 3) (x1 + 1)
    else
      p_Mo_cut_b144 x1 (sL (sA σ 5 ((σ.1 3).toNatClampNeg) x1) ((σ.1 3).toNatClampNeg) x3) x3 x5 x6 (x2 - x1) (σ.1 3) (σ.1 3) x2) else none else none
def p_Mo_cut_b63 (x1 : Int32) (k26 : Sto → Int32 → Int64 → Int32 → Int32 → Option (Int32 × Sto)) (σ : Sto) (x2 : Int32) (x3 : Int64) (x5 : Int32) (x6 : Int32) : Option (Int32 × Sto) :=
  (if x6 = 0 then
      p_Mo_cut_b99 x1 σ x2 x3 x5 x6
    else
      if inR x2 240 then bd1 (p_Mo_digit (σ.2.1 1 x2.toNatClampNeg)) fun v_74 =>
      (if v_74 = 0 then
        p_Mo_cut_b99 x1 σ x2 x3 x5 x6
      else
        if inR x2 240 then k26 σ (x2 + 1) ((x3 <<< ((8 : Int32).toInt64 &&& 63)) ||| ((σ.2.1 1 x2.toNatClampNeg).toInt64)) x5 x6 else none) else none)
def p_Mo_cut_L26 (x1 : Int32) : Nat → Sto → Int32 → Int64 → Int32 → Int32 → Option (Int32 × Sto)
  | 0, _, _, _, _, _ => none
  | n + 1, σ, x2, x3, x5, x6 =>
    (if (σ.1 1) ≤ x2 then
        p_Mo_cut_b99 x1 σ x2 x3 x5 x6
      else
        (if x5 = 0 then
          p_Mo_cut_b63 x1 (p_Mo_cut_L26 x1 n) σ x2 x3 x5 x6
        else
          if inR x2 240 then bd1 (p_Mo_letter (σ.2.1 1 x2.toNatClampNeg)) fun v_45 =>
          (if v_45 = 0 then
            if inR x2 240 then bd1 (p_Mo_digit (σ.2.1 1 x2.toNatClampNeg)) fun v_57 =>
            (if v_57 = 0 then
              p_Mo_cut_b63 x1 (p_Mo_cut_L26 x1 n) σ x2 x3 x5 x6
            else
              if inR x2 240 then p_Mo_cut_L26 x1 n σ (x2 + 1) ((x3 <<< ((8 : Int32).toInt64 &&& 63)) ||| ((σ.2.1 1 x2.toNatClampNeg).toInt64)) x5 x6 else none) else none
          else
            if inR x2 240 then p_Mo_cut_L26 x1 n σ (x2 + 1) ((x3 <<< ((8 : Int32).toInt64 &&& 63)) ||| ((σ.2.1 1 x2.toNatClampNeg).toInt64)) x5 x6 else none) else none))
def p_Mo_cut (σ : Sto) (x1 : Int32) : Option (Int32 × Sto) :=
  if inR x1 240 then bd1 (p_Mo_letter (σ.2.1 1 x1.toNatClampNeg)) fun v_10 =>
    if inR x1 240 then bd1 (p_Mo_digit (σ.2.1 1 x1.toNatClampNeg)) fun v_21 =>
    p_Mo_cut_L26 x1 FU σ x1 0 v_10 v_21 else none else none
abbrev w_Mo_cut : List Cond := Cond.code y_Mo_cut b_Mo_cut 9 (some .int) :: Tg
abbrev r_Mo_cut : Room := { frames := 1, cells := 0, slots := 0, locals := 21 }
theorem dv_Mo_cut : y_Mo_cut.cls = "LanguageServerModel" ∧ y_Mo_cut.cls ≠ "java/lang/invoke/MethodHandle" ∧ y_Mo_cut.cls ≠ "java/lang/invoke/VarHandle" ∧ (parseMethodDescriptor y_Mo_cut.desc).map (fun d => d.parameters.length) = some 1 := by decide +kernel
set_option maxHeartbeats 4000000 in
set_option maxRecDepth 100000 in
theorem c_Mo_cut (l : Launch) (K : Kst) (A : Nat → Nat) {σ : Sto} {x1 : Int32} {rr : Int32} {ss : Sto} (h : p_Mo_cut σ x1 = some (rr, ss)) : Met l y_Mo_cut w_Mo_cut r_Mo_cut (va_Pc [.ref (A 0), .int x1] (YB K A σ)) (YQi K A rr ss) 0 0 (YF A) := by
  refine Met.ofW (cc := b_Mo_cut) (maxL := 9) (ret := (some .int)) (by decide) rfl ?_
  intro p e s m args below meth c s₁ B hml hv
  obtain ⟨rfl, hP, hK, hD⟩ := hv
  have hx := B.exec
  have hb := B.bytes
  have hr := B.returns
  have hts := atoms_spec (ws := w_Mo_cut) B.pre
  have hg : ∀ w ∈ Tg, w.before _ s = true := fun w q => hts w (List.mem_cons_of_mem _ q)
  have hown : s.vm.findClass "LanguageServerModel" = some m.cls := findClass_of_methodNamed B.named
  have hlocks := B.notSynchronized
  have hS : va_S (YF A) s.heap s.heap [] := va_S.rf
  have hl := lv_entry ([.ref (A 0), .int x1]) (n := 9) (Nat.le_of_ble_eq_true rfl)
  rw [lg_entry_eq]
  generalize (lg_sl ([.ref (A 0), .int x1]) ++ List.replicate (9 - (lg_sl ([.ref (A 0), .int x1])).length) Slot.unset).toArray = ls at hl ⊢
  have hl : lv_has ls 9 [(0, .ref (A 0)), (1, .int x1)] := hl
  generalize hargs : ([.ref (A 0), .int x1] : List Value).toArray = args at hg hts ⊢
  obtain ⟨Q, hQ⟩ : ∃ Q, Q = MQ below (YQi K A rr ss) args s 0 0 (YF A) := ⟨_, rfl⟩
  rw [← hQ]
  have hRet : ∀ (v : Int32) (σ : Sto), some (v, σ) = some (rr, ss) → ∀ (H : Heap) (locs : List Loc), va_P K.1 vwCl (wY K A σ) H → va_D (YF A) (wY K A σ) → va_S (YF A) s.heap H locs → ∀ (pc : Nat) (ls : Array Slot), decode b_Mo_cut pc = .ok (.ireturn, 1) → W p l e (headSpec w_Mo_cut r_Mo_cut).room s m args below meth c H locs 0 0 Q (F0 m pc ls [.int v]) := by
    intro v σ h H locs hP hD hS pc ls hd
    cases h
    subst hQ
    exact W.iret hx hb hr (fun t ht hW => ⟨⟨_, (), rfl, rfl, by rw [ht]; exact hP, RK.warm hW hK, hD⟩, hS.F ht⟩) hS.2.2 hd
  clear hQ
  unfold p_Mo_cut at h
  have J_233 : ∀ (σ : Sto) (x8 : Int32), p_Mo_cut_b233 x1 σ x8 = some (rr, ss) → ∀ (H : Heap) (locs : List Loc), va_P K.1 vwCl (wY K A σ) H → va_D (YF A) (wY K A σ) → va_S (YF A) s.heap H locs → ∀ ls : Array Slot, lv_has ls 9 [(0, .ref (A 0)), (8, .int x8)] → W p l e (headSpec w_Mo_cut r_Mo_cut).room s m args below meth c H locs 0 0 Q (F0 m 233 ls []) := by
    intro  σ x8 h H locs hP hD hS ls hl
    rw [p_Mo_cut_b233] at h
    refine lv_iload hx hb d_Mo_cut_233 (lv_at hl 1 rfl) ?_
    refine lv_bipush (v := 120) hx hb d_Mo_cut_235 (by decide) ?_
    refine lv_icmp_ne (tgt := 249) hx hb d_Mo_cut_237 (by decide) (fun c_237 => ?_) (fun c_237 => ?_)
    · replace h := itf c_237 h
      refine lv_aload_n hx hb d_Mo_cut_249 rfl (lv_at hl 0 rfl) ?_
      refine lv_dup hx hb d_Mo_cut_250 rfl ?_
      refine gf_Mo_118 hx hb hg hown hK hP d_Mo_cut_251 ?_
      refine lv_iconst (v := 1) hx hb d_Mo_cut_254 (by decide) ?_
      refine lv_iadd hx hb d_Mo_cut_255 ?_
      refine pf_Mo_118 hx hb hg hown hK hP hD hS d_Mo_cut_256 (fun H locs hP hD hS => ?_)
      refine lv_aload_n hx hb d_Mo_cut_259 rfl (lv_at hl 0 rfl) ?_
      refine gf_Mo_26 hx hb hg hown hK hP d_Mo_cut_260 ?_
      refine lv_iload hx hb d_Mo_cut_263 (lv_at hl 1 rfl) ?_
      obtain ⟨i_265, h⟩ := itn h
      refine Yra_6 hx hb hK hP i_265 d_Mo_cut_265 ?_
      exact hRet _ _ h _ _ hP hD hS _ _ d_Mo_cut_266
    · replace h := itp c_237 h
      refine lv_aload_n hx hb d_Mo_cut_240 rfl (lv_at hl 0 rfl) ?_
      refine gf_Mo_16 hx hb hg hown hK hP d_Mo_cut_241 ?_
      refine lv_iload hx hb d_Mo_cut_244 (lv_at hl 1 rfl) ?_
      refine lv_bipush (v := 9) hx hb d_Mo_cut_246 (by decide) ?_
      obtain ⟨i_248, h⟩ := itn h
      refine Ywa_3 hx hb hK hP hD hS i_248 d_Mo_cut_248 (fun H locs hP hD hS => ?_)
      refine lv_aload_n hx hb d_Mo_cut_249 rfl (lv_at hl 0 rfl) ?_
      refine lv_dup hx hb d_Mo_cut_250 rfl ?_
      refine gf_Mo_118 hx hb hg hown hK hP d_Mo_cut_251 ?_
      refine lv_iconst (v := 1) hx hb d_Mo_cut_254 (by decide) ?_
      refine lv_iadd hx hb d_Mo_cut_255 ?_
      refine pf_Mo_118 hx hb hg hown hK hP hD hS d_Mo_cut_256 (fun H locs hP hD hS => ?_)
      refine lv_aload_n hx hb d_Mo_cut_259 rfl (lv_at hl 0 rfl) ?_
      refine gf_Mo_26 hx hb hg hown hK hP d_Mo_cut_260 ?_
      refine lv_iload hx hb d_Mo_cut_263 (lv_at hl 1 rfl) ?_
      obtain ⟨i_265, h⟩ := itn h
      refine Yra_6 hx hb hK hP i_265 d_Mo_cut_265 ?_
      exact hRet _ _ h _ _ hP hD hS _ _ d_Mo_cut_266
  have J_232 : ∀ (σ : Sto) (x8 : Int32) (s1 : Int32) (s2 : Int32), p_Mo_cut_b232 x1 σ x8 s1 s2 = some (rr, ss) → ∀ (H : Heap) (locs : List Loc), va_P K.1 vwCl (wY K A σ) H → va_D (YF A) (wY K A σ) → va_S (YF A) s.heap H locs → ∀ ls : Array Slot, lv_has ls 9 [(0, .ref (A 0)), (8, .int x8)] → W p l e (headSpec w_Mo_cut r_Mo_cut).room s m args below meth c H locs 0 0 Q (F0 m 232 ls [.int s2, .int s1, .ref (A 3)]) := by
    intro  σ x8 s1 s2 h H locs hP hD hS ls hl
    rw [p_Mo_cut_b232] at h
    obtain ⟨i_232, h⟩ := itn h
    refine Ywa_3 hx hb hK hP hD hS i_232 d_Mo_cut_232 (fun H locs hP hD hS => ?_)
    exact J_233  _ _ h _ _ hP hD hS ls (lv_sub hl [0, 1] rfl)
  have J_198 : ∀ (σ : Sto) (x7 : Int32) (x8 : Int32), p_Mo_cut_b198 x1 σ x7 x8 = some (rr, ss) → ∀ (H : Heap) (locs : List Loc), va_P K.1 vwCl (wY K A σ) H → va_D (YF A) (wY K A σ) → va_S (YF A) s.heap H locs → ∀ ls : Array Slot, lv_has ls 9 [(0, .ref (A 0)), (1, .int x1), (7, .int x7), (8, .int x8)] → W p l e (headSpec w_Mo_cut r_Mo_cut).room s m args below meth c H locs 0 0 Q (F0 m 198 ls []) := by
    intro  σ x7 x8 h H locs hP hD hS ls hl
    rw [p_Mo_cut_b198] at h
    refine lv_iload hx hb d_Mo_cut_198 (lv_at hl 2 rfl) ?_
    refine lv_if_ne (tgt := 233) hx hb d_Mo_cut_200 (by decide) (fun c_200 => ?_) (fun c_200 => ?_)
    · replace h := itf c_200 h
      exact J_233  _ _ h _ _ hP hD hS ls (lv_sub hl [0, 3] rfl)
    · replace h := itp c_200 h
      refine lv_aload_n hx hb d_Mo_cut_203 rfl (lv_at hl 0 rfl) ?_
      refine gf_Mo_16 hx hb hg hown hK hP d_Mo_cut_204 ?_
      refine lv_iload hx hb d_Mo_cut_207 (lv_at hl 3 rfl) ?_
      refine lv_aload_n hx hb d_Mo_cut_209 rfl (lv_at hl 0 rfl) ?_
      refine gf_Mo_7 hx hb hg hown hK hP d_Mo_cut_210 ?_
      refine lv_iload_n hx hb d_Mo_cut_213 rfl (lv_at hl 1 rfl) ?_
      obtain ⟨i_214, h⟩ := itn h
      refine Yra_1 hx hb hK hP i_214 d_Mo_cut_214 ?_
      obtain ⟨v_215, e_215, h⟩ := bd1_some h
      refine R_cpi (va_runS (As := [.int (σ.2.1 1 x1.toNatClampNeg)]) (rest := [.int x8, .ref (A 3)]) ⟨hx, hb, hml, hown, hts⟩ (c_Mo_sign l e_215) (va_cwS 1 hts (gd_S wd_1057 wd_1058 wd_10 wd_1059) rfl rfl rfl ds_Mo_sign ⟨Nat.le_of_ble_eq_true rfl, Nat.le_of_ble_eq_true rfl⟩) (P_ps hK.2) rfl rfl hl.1 rfl (lv_room (Nat.le_of_ble_eq_true rfl)) d_Mo_cut_215 ⟨Nat.le_of_ble_eq_true rfl, Nat.le_of_ble_eq_true rfl⟩) hP hD hS (fun H locs hP hD hS => ?_)
      refine lv_if_eq (tgt := 230) hx hb d_Mo_cut_218 (by decide) (fun c_218 => ?_) (fun c_218 => ?_)
      · replace h := itp c_218 h
        refine lv_bipush (v := 9) hx hb d_Mo_cut_230 (by decide) ?_
        exact J_232  _ _ _ _ h _ _ hP hD hS ls (lv_sub hl [0, 3] rfl)
      · replace h := itf c_218 h
        refine lv_aload_n hx hb d_Mo_cut_221 rfl (lv_at hl 0 rfl) ?_
        refine gf_Mo_7 hx hb hg hown hK hP d_Mo_cut_222 ?_
        refine lv_iload_n hx hb d_Mo_cut_225 rfl (lv_at hl 1 rfl) ?_
        obtain ⟨i_226, h⟩ := itn h
        refine Yra_1 hx hb hK hP i_226 d_Mo_cut_226 ?_
        refine lv_goto (tgt := 232) hx hb d_Mo_cut_227 (by decide) ?_
        exact J_232  _ _ _ _ h _ _ hP hD hS ls (lv_sub hl [0, 3] rfl)
  have J_197 : ∀ (σ : Sto) (x7 : Int32) (x8 : Int32) (s1 : Int32) (s2 : Int32), p_Mo_cut_b197 x1 σ x7 x8 s1 s2 = some (rr, ss) → ∀ (H : Heap) (locs : List Loc), va_P K.1 vwCl (wY K A σ) H → va_D (YF A) (wY K A σ) → va_S (YF A) s.heap H locs → ∀ ls : Array Slot, lv_has ls 9 [(0, .ref (A 0)), (1, .int x1), (7, .int x7), (8, .int x8)] → W p l e (headSpec w_Mo_cut r_Mo_cut).room s m args below meth c H locs 0 0 Q (F0 m 197 ls [.int s2, .int s1, .ref (A 3)]) := by
    intro  σ x7 x8 s1 s2 h H locs hP hD hS ls hl
    rw [p_Mo_cut_b197] at h
    obtain ⟨i_197, h⟩ := itn h
    refine Ywa_3 hx hb hK hP hD hS i_197 d_Mo_cut_197 (fun H locs hP hD hS => ?_)
    exact J_198  _ _ _ h _ _ hP hD hS ls (lv_sub hl [0, 1, 2, 3] rfl)
  have J_173 : ∀ (σ : Sto) (x6 : Int32) (x7 : Int32) (x8 : Int32), p_Mo_cut_b173 x1 σ x6 x7 x8 = some (rr, ss) → ∀ (H : Heap) (locs : List Loc), va_P K.1 vwCl (wY K A σ) H → va_D (YF A) (wY K A σ) → va_S (YF A) s.heap H locs → ∀ ls : Array Slot, lv_has ls 9 [(0, .ref (A 0)), (1, .int x1), (6, .int x6), (7, .int x7), (8, .int x8)] → W p l e (headSpec w_Mo_cut r_Mo_cut).room s m args below meth c H locs 0 0 Q (F0 m 173 ls []) := by
    intro  σ x6 x7 x8 h H locs hP hD hS ls hl
    rw [p_Mo_cut_b173] at h
    refine lv_iload hx hb d_Mo_cut_173 (lv_at hl 2 rfl) ?_
    refine lv_if_eq (tgt := 198) hx hb d_Mo_cut_175 (by decide) (fun c_175 => ?_) (fun c_175 => ?_)
    · replace h := itp c_175 h
      exact J_198  _ _ _ h _ _ hP hD hS ls (lv_sub hl [0, 1, 3, 4] rfl)
    · replace h := itf c_175 h
      refine lv_aload_n hx hb d_Mo_cut_178 rfl (lv_at hl 0 rfl) ?_
      refine gf_Mo_16 hx hb hg hown hK hP d_Mo_cut_179 ?_
      refine lv_iload hx hb d_Mo_cut_182 (lv_at hl 4 rfl) ?_
      refine lv_iload hx hb d_Mo_cut_184 (lv_at hl 3 rfl) ?_
      refine lv_bipush (v := 6) hx hb d_Mo_cut_186 (by decide) ?_
      refine lv_icmp_le (tgt := 196) hx hb d_Mo_cut_188 (by decide) (fun c_188 => ?_) (fun c_188 => ?_)
      · replace h := itp c_188 h
        refine lv_iconst (v := 2) hx hb d_Mo_cut_196 (by decide) ?_
        exact J_197  _ _ _ _ _ h _ _ hP hD hS ls (lv_sub hl [0, 1, 3, 4] rfl)
      · replace h := itf c_188 h
        refine lv_bipush (v := 9) hx hb d_Mo_cut_191 (by decide) ?_
        refine lv_goto (tgt := 197) hx hb d_Mo_cut_193 (by decide) ?_
        exact J_197  _ _ _ _ _ h _ _ hP hD hS ls (lv_sub hl [0, 1, 3, 4] rfl)
  have J_172 : ∀ (σ : Sto) (x6 : Int32) (x7 : Int32) (x8 : Int32) (s1 : Int32) (s2 : Int32), p_Mo_cut_b172 x1 σ x6 x7 x8 s1 s2 = some (rr, ss) → ∀ (H : Heap) (locs : List Loc), va_P K.1 vwCl (wY K A σ) H → va_D (YF A) (wY K A σ) → va_S (YF A) s.heap H locs → ∀ ls : Array Slot, lv_has ls 9 [(0, .ref (A 0)), (1, .int x1), (6, .int x6), (7, .int x7), (8, .int x8)] → W p l e (headSpec w_Mo_cut r_Mo_cut).room s m args below meth c H locs 0 0 Q (F0 m 172 ls [.int s2, .int s1, .ref (A 3)]) := by
    intro  σ x6 x7 x8 s1 s2 h H locs hP hD hS ls hl
    rw [p_Mo_cut_b172] at h
    obtain ⟨i_172, h⟩ := itn h
    refine Ywa_3 hx hb hK hP hD hS i_172 d_Mo_cut_172 (fun H locs hP hD hS => ?_)
    exact J_173  _ _ _ _ h _ _ hP hD hS ls (lv_sub hl [0, 1, 2, 3, 4] rfl)
  have J_144 : ∀ (σ : Sto) (x3 : Int64) (x5 : Int32) (x6 : Int32) (x7 : Int32) (x8 : Int32) (s1 : Int32) (s2 : Int32), p_Mo_cut_b144 x1 σ x3 x5 x6 x7 x8 s1 s2 = some (rr, ss) → ∀ (H : Heap) (locs : List Loc), va_P K.1 vwCl (wY K A σ) H → va_D (YF A) (wY K A σ) → va_S (YF A) s.heap H locs → ∀ ls : Array Slot, lv_has ls 9 [(0, .ref (A 0)), (1, .int x1), (3, .long x3), (5, .int x5), (6, .int x6), (7, .int x7), (8, .int x8)] → W p l e (headSpec w_Mo_cut r_Mo_cut).room s m args below meth c H locs 0 0 Q (F0 m 144 ls [.int s2, .int s1, .ref (A 6)]) := by
    intro  σ x3 x5 x6 x7 x8 s1 s2 h H locs hP hD hS ls hl
    rw [p_Mo_cut_b144] at h
    obtain ⟨i_144, h⟩ := itn h
    refine Ywa_6 hx hb hK hP hD hS i_144 d_Mo_cut_144 (fun H locs hP hD hS => ?_)
    refine lv_iload hx hb d_Mo_cut_145 (lv_at hl 3 rfl) ?_
    refine lv_if_eq (tgt := 173) hx hb d_Mo_cut_147 (by decide) (fun c_147 => ?_) (fun c_147 => ?_)
    · replace h := itp c_147 h
      exact J_173  _ _ _ _ h _ _ hP hD hS ls (lv_sub hl [0, 1, 4, 5, 6] rfl)
    · replace h := itf c_147 h
      refine lv_aload_n hx hb d_Mo_cut_150 rfl (lv_at hl 0 rfl) ?_
      refine gf_Mo_16 hx hb hg hown hK hP d_Mo_cut_151 ?_
      refine lv_iload hx hb d_Mo_cut_154 (lv_at hl 6 rfl) ?_
      refine lv_iload hx hb d_Mo_cut_156 (lv_at hl 5 rfl) ?_
      refine lv_bipush (v := 8) hx hb d_Mo_cut_158 (by decide) ?_
      refine lv_icmp_le (tgt := 168) hx hb d_Mo_cut_160 (by decide) (fun c_160 => ?_) (fun c_160 => ?_)
      · replace h := itp c_160 h
        refine lv_lload_n hx hb d_Mo_cut_168 rfl (lv_at hl 2 rfl) ?_
        obtain ⟨v_169, e_169, h⟩ := bd1_some h
        refine R_cpi (va_runS (As := [.long x3]) (rest := [.int x8, .ref (A 3)]) ⟨hx, hb, hml, hown, hts⟩ (c_Mo_wordKind l e_169) (va_cwS 1 hts (gd_S wd_1048 wd_1049 wd_10 wd_1050) rfl rfl rfl ds_Mo_wordKind ⟨Nat.le_of_ble_eq_true rfl, Nat.le_of_ble_eq_true rfl⟩) (P_ps hK.2) rfl rfl hl.1 rfl (lv_room (Nat.le_of_ble_eq_true rfl)) d_Mo_cut_169 ⟨Nat.le_of_ble_eq_true rfl, Nat.le_of_ble_eq_true rfl⟩) hP hD hS (fun H locs hP hD hS => ?_)
        exact J_172  _ _ _ _ _ _ h _ _ hP hD hS ls (lv_sub hl [0, 1, 4, 5, 6] rfl)
      · replace h := itf c_160 h
        refine lv_bipush (v := 9) hx hb d_Mo_cut_163 (by decide) ?_
        refine lv_goto (tgt := 172) hx hb d_Mo_cut_165 (by decide) ?_
        exact J_172  _ _ _ _ _ _ h _ _ hP hD hS ls (lv_sub hl [0, 1, 4, 5, 6] rfl)
  have J_99 : ∀ (σ : Sto) (x2 : Int32) (x3 : Int64) (x5 : Int32) (x6 : Int32), p_Mo_cut_b99 x1 σ x2 x3 x5 x6 = some (rr, ss) → ∀ (H : Heap) (locs : List Loc), va_P K.1 vwCl (wY K A σ) H → va_D (YF A) (wY K A σ) → va_S (YF A) s.heap H locs → ∀ ls : Array Slot, lv_has ls 9 [(0, .ref (A 0)), (1, .int x1), (2, .int x2), (3, .long x3), (5, .int x5), (6, .int x6)] → W p l e (headSpec w_Mo_cut r_Mo_cut).room s m args below meth c H locs 0 0 Q (F0 m 99 ls []) := by
    intro  σ x2 x3 x5 x6 h H locs hP hD hS ls hl
    rw [p_Mo_cut_b99] at h
    refine lv_iload_n hx hb d_Mo_cut_99 rfl (lv_at hl 2 rfl) ?_
    refine lv_iload_n hx hb d_Mo_cut_100 rfl (lv_at hl 1 rfl) ?_
    refine lv_isub hx hb d_Mo_cut_101 ?_
    refine lv_istore (lv' := [(7, .int (x2 - x1)), (0, .ref (A 0)), (1, .int x1), (2, .int x2), (3, .long x3), (5, .int x5), (6, .int x6)]) hx hb d_Mo_cut_102 hl (by decide) rfl (fun ls hl => ?_)
    refine lv_aload_n hx hb d_Mo_cut_104 rfl (lv_at hl 1 rfl) ?_
    refine gf_Mo_118 hx hb hg hown hK hP d_Mo_cut_105 ?_
    refine lv_istore (lv' := [(8, .int (σ.1 3)), (7, .int (x2 - x1)), (0, .ref (A 0)), (1, .int x1), (2, .int x2), (3, .long x3), (5, .int x5), (6, .int x6)]) hx hb d_Mo_cut_108 hl (by decide) rfl (fun ls hl => ?_)
    refine lv_aload_n hx hb d_Mo_cut_110 rfl (lv_at hl 2 rfl) ?_
    refine gf_Mo_23 hx hb hg hown hK hP d_Mo_cut_111 ?_
    refine lv_iload hx hb d_Mo_cut_114 (lv_at hl 0 rfl) ?_
    refine lv_iload_n hx hb d_Mo_cut_116 rfl (lv_at hl 3 rfl) ?_
    obtain ⟨i_117, h⟩ := itn h
    refine Ywa_5 hx hb hK hP hD hS i_117 d_Mo_cut_117 (fun H locs hP hD hS => ?_)
    refine lv_aload_n hx hb d_Mo_cut_118 rfl (lv_at hl 2 rfl) ?_
    refine gf_Mo_19 hx hb hg hown hK hP d_Mo_cut_119 ?_
    refine lv_iload hx hb d_Mo_cut_122 (lv_at hl 0 rfl) ?_
    refine lv_lload_n hx hb d_Mo_cut_124 rfl (lv_at hl 5 rfl) ?_
    obtain ⟨i_125, h⟩ := itn h
    refine Ywa_4 hx hb hK hP hD hS i_125 d_Mo_cut_125 (fun H locs hP hD hS => ?_)
    refine lv_aload_n hx hb d_Mo_cut_126 rfl (lv_at hl 2 rfl) ?_
    refine gf_Mo_26 hx hb hg hown hK hP d_Mo_cut_127 ?_
    refine lv_iload hx hb d_Mo_cut_130 (lv_at hl 0 rfl) ?_
    refine lv_iload hx hb d_Mo_cut_132 (lv_at hl 1 rfl) ?_
    refine lv_if_ne (tgt := 143) hx hb d_Mo_cut_134 (by decide) (fun c_134 => ?_) (fun c_134 => ?_)
    · replace h := itf c_134 h
      refine lv_iload_n hx hb d_Mo_cut_143 rfl (lv_at hl 4 rfl) ?_
      exact J_144  _ _ _ _ _ _ _ _ h _ _ hP hD hS ls (lv_sub hl [2, 3, 5, 6, 7, 1, 0] rfl)
    · replace h := itp c_134 h
      refine lv_iload_n hx hb d_Mo_cut_137 rfl (lv_at hl 3 rfl) ?_
      refine lv_iconst (v := 1) hx hb d_Mo_cut_138 (by decide) ?_
      refine lv_iadd hx hb d_Mo_cut_139 ?_
      refine lv_goto (tgt := 144) hx hb d_Mo_cut_140 (by decide) ?_
      exact J_144  _ _ _ _ _ _ _ _ h _ _ hP hD hS ls (lv_sub hl [2, 3, 5, 6, 7, 1, 0] rfl)
  have J_63 : ∀ (k26 : Sto → Int32 → Int64 → Int32 → Int32 → Option (Int32 × Sto)) (hk26 : ∀ (σ : Sto) (x2 : Int32) (x3 : Int64) (x5 : Int32) (x6 : Int32), k26 σ x2 x3 x5 x6 = some (rr, ss) → ∀ (H : Heap) (locs : List Loc), va_P K.1 vwCl (wY K A σ) H → va_D (YF A) (wY K A σ) → va_S (YF A) s.heap H locs → ∀ ls : Array Slot, lv_has ls 9 [(0, .ref (A 0)), (1, .int x1), (2, .int x2), (3, .long x3), (5, .int x5), (6, .int x6)] → W p l e (headSpec w_Mo_cut r_Mo_cut).room s m args below meth c H locs 0 0 Q (F0 m 26 ls [])) (σ : Sto) (x2 : Int32) (x3 : Int64) (x5 : Int32) (x6 : Int32), p_Mo_cut_b63 x1 k26 σ x2 x3 x5 x6 = some (rr, ss) → ∀ (H : Heap) (locs : List Loc), va_P K.1 vwCl (wY K A σ) H → va_D (YF A) (wY K A σ) → va_S (YF A) s.heap H locs → ∀ ls : Array Slot, lv_has ls 9 [(0, .ref (A 0)), (1, .int x1), (2, .int x2), (3, .long x3), (5, .int x5), (6, .int x6)] → W p l e (headSpec w_Mo_cut r_Mo_cut).room s m args below meth c H locs 0 0 Q (F0 m 63 ls []) := by
    intro k26 hk26 σ x2 x3 x5 x6 h H locs hP hD hS ls hl
    rw [p_Mo_cut_b63] at h
    refine lv_iload hx hb d_Mo_cut_63 (lv_at hl 5 rfl) ?_
    refine lv_if_eq (tgt := 99) hx hb d_Mo_cut_65 (by decide) (fun c_65 => ?_) (fun c_65 => ?_)
    · replace h := itp c_65 h
      exact J_99  _ _ _ _ _ h _ _ hP hD hS ls (lv_sub hl [0, 1, 2, 3, 4, 5] rfl)
    · replace h := itf c_65 h
      refine lv_aload_n hx hb d_Mo_cut_68 rfl (lv_at hl 0 rfl) ?_
      refine gf_Mo_7 hx hb hg hown hK hP d_Mo_cut_69 ?_
      refine lv_iload_n hx hb d_Mo_cut_72 rfl (lv_at hl 2 rfl) ?_
      obtain ⟨i_73, h⟩ := itn h
      refine Yra_1 hx hb hK hP i_73 d_Mo_cut_73 ?_
      obtain ⟨v_74, e_74, h⟩ := bd1_some h
      refine R_cpi (va_runS (As := [.int (σ.2.1 1 x2.toNatClampNeg)]) (rest := []) ⟨hx, hb, hml, hown, hts⟩ (c_Mo_digit l e_74) (va_cwS 1 hts (gd_S wd_1045 wd_1046 wd_10 wd_1047) rfl rfl rfl ds_Mo_digit ⟨Nat.le_of_ble_eq_true rfl, Nat.le_of_ble_eq_true rfl⟩) (P_ps hK.2) rfl rfl hl.1 rfl (lv_room (Nat.le_of_ble_eq_true rfl)) d_Mo_cut_74 ⟨Nat.le_of_ble_eq_true rfl, Nat.le_of_ble_eq_true rfl⟩) hP hD hS (fun H locs hP hD hS => ?_)
      refine lv_if_eq (tgt := 99) hx hb d_Mo_cut_77 (by decide) (fun c_77 => ?_) (fun c_77 => ?_)
      · replace h := itp c_77 h
        exact J_99  _ _ _ _ _ h _ _ hP hD hS ls (lv_sub hl [0, 1, 2, 3, 4, 5] rfl)
      · replace h := itf c_77 h
        refine lv_lload_n hx hb d_Mo_cut_80 rfl (lv_at hl 3 rfl) ?_
        refine lv_bipush (v := 8) hx hb d_Mo_cut_81 (by decide) ?_
        refine lv_lshl hx hb d_Mo_cut_83 rfl ?_
        refine lv_aload_n hx hb d_Mo_cut_84 rfl (lv_at hl 0 rfl) ?_
        refine gf_Mo_7 hx hb hg hown hK hP d_Mo_cut_85 ?_
        refine lv_iload_n hx hb d_Mo_cut_88 rfl (lv_at hl 2 rfl) ?_
        obtain ⟨i_89, h⟩ := itn h
        refine Yra_1 hx hb hK hP i_89 d_Mo_cut_89 ?_
        refine lv_i2l hx hb d_Mo_cut_90 rfl ?_
        refine lv_lor hx hb d_Mo_cut_91 ?_
        refine lv_lstore_n (lv' := [(3, .long ((x3 <<< ((8 : Int32).toInt64 &&& 63)) ||| ((σ.2.1 1 x2.toNatClampNeg).toInt64))), (0, .ref (A 0)), (1, .int x1), (2, .int x2), (5, .int x5), (6, .int x6)]) hx hb d_Mo_cut_92 rfl hl (by decide) rfl (fun ls hl => ?_)
        refine lv_iinc (v := x2 + 1) (lv' := [(2, .int (x2 + 1)), (3, .long ((x3 <<< ((8 : Int32).toInt64 &&& 63)) ||| ((σ.2.1 1 x2.toNatClampNeg).toInt64))), (0, .ref (A 0)), (1, .int x1), (5, .int x5), (6, .int x6)]) hx hb d_Mo_cut_93 hl (k := 3) rfl (by first | rfl | decide) (by decide) rfl (fun ls hl => ?_)
        refine lv_goto (tgt := 26) hx hb d_Mo_cut_96 (by decide) ?_
        exact hk26 _ _ _ _ _ h _ _ hP hD hS ls (lv_sub hl [2, 3, 0, 1, 4, 5] rfl)
  have L_26 : ∀ (n : Nat) (σ : Sto) (x2 : Int32) (x3 : Int64) (x5 : Int32) (x6 : Int32), p_Mo_cut_L26 x1 n σ x2 x3 x5 x6 = some (rr, ss) → ∀ (H : Heap) (locs : List Loc), va_P K.1 vwCl (wY K A σ) H → va_D (YF A) (wY K A σ) → va_S (YF A) s.heap H locs → ∀ ls : Array Slot, lv_has ls 9 [(0, .ref (A 0)), (1, .int x1), (2, .int x2), (3, .long x3), (5, .int x5), (6, .int x6)] → W p l e (headSpec w_Mo_cut r_Mo_cut).room s m args below meth c H locs 0 0 Q (F0 m 26 ls []) := by
    intro n
    induction n with
    | zero => intro _ _ _ _ _ h; cases h
    | succ n ih =>
      intro σ x2 x3 x5 x6 h H locs hP hD hS ls hl
      rw [p_Mo_cut_L26] at h
      refine lv_iload_n hx hb d_Mo_cut_26 rfl (lv_at hl 2 rfl) ?_
      refine lv_aload_n hx hb d_Mo_cut_27 rfl (lv_at hl 0 rfl) ?_
      refine gf_Mo_85 hx hb hg hown hK hP d_Mo_cut_28 ?_
      refine lv_icmp_ge (tgt := 99) hx hb d_Mo_cut_31 (by decide) (fun c_31 => ?_) (fun c_31 => ?_)
      · replace h := itp c_31 h
        exact J_99  _ _ _ _ _ h _ _ hP hD hS ls (lv_sub hl [0, 1, 2, 3, 4, 5] rfl)
      · replace h := itf c_31 h
        refine lv_iload hx hb d_Mo_cut_34 (lv_at hl 4 rfl) ?_
        refine lv_if_eq (tgt := 63) hx hb d_Mo_cut_36 (by decide) (fun c_36 => ?_) (fun c_36 => ?_)
        · replace h := itp c_36 h
          exact J_63 _ ih _ _ _ _ _ h _ _ hP hD hS ls (lv_sub hl [0, 1, 2, 3, 4, 5] rfl)
        · replace h := itf c_36 h
          refine lv_aload_n hx hb d_Mo_cut_39 rfl (lv_at hl 0 rfl) ?_
          refine gf_Mo_7 hx hb hg hown hK hP d_Mo_cut_40 ?_
          refine lv_iload_n hx hb d_Mo_cut_43 rfl (lv_at hl 2 rfl) ?_
          obtain ⟨i_44, h⟩ := itn h
          refine Yra_1 hx hb hK hP i_44 d_Mo_cut_44 ?_
          obtain ⟨v_45, e_45, h⟩ := bd1_some h
          refine R_cpi (va_runS (As := [.int (σ.2.1 1 x2.toNatClampNeg)]) (rest := []) ⟨hx, hb, hml, hown, hts⟩ (c_Mo_letter l e_45) (va_cwS 1 hts (gd_S wd_1042 wd_1043 wd_10 wd_1044) rfl rfl rfl ds_Mo_letter ⟨Nat.le_of_ble_eq_true rfl, Nat.le_of_ble_eq_true rfl⟩) (P_ps hK.2) rfl rfl hl.1 rfl (lv_room (Nat.le_of_ble_eq_true rfl)) d_Mo_cut_45 ⟨Nat.le_of_ble_eq_true rfl, Nat.le_of_ble_eq_true rfl⟩) hP hD hS (fun H locs hP hD hS => ?_)
          refine lv_if_ne (tgt := 80) hx hb d_Mo_cut_48 (by decide) (fun c_48 => ?_) (fun c_48 => ?_)
          · replace h := itf c_48 h
            refine lv_lload_n hx hb d_Mo_cut_80 rfl (lv_at hl 3 rfl) ?_
            refine lv_bipush (v := 8) hx hb d_Mo_cut_81 (by decide) ?_
            refine lv_lshl hx hb d_Mo_cut_83 rfl ?_
            refine lv_aload_n hx hb d_Mo_cut_84 rfl (lv_at hl 0 rfl) ?_
            refine gf_Mo_7 hx hb hg hown hK hP d_Mo_cut_85 ?_
            refine lv_iload_n hx hb d_Mo_cut_88 rfl (lv_at hl 2 rfl) ?_
            obtain ⟨i_89, h⟩ := itn h
            refine Yra_1 hx hb hK hP i_89 d_Mo_cut_89 ?_
            refine lv_i2l hx hb d_Mo_cut_90 rfl ?_
            refine lv_lor hx hb d_Mo_cut_91 ?_
            refine lv_lstore_n (lv' := [(3, .long ((x3 <<< ((8 : Int32).toInt64 &&& 63)) ||| ((σ.2.1 1 x2.toNatClampNeg).toInt64))), (0, .ref (A 0)), (1, .int x1), (2, .int x2), (5, .int x5), (6, .int x6)]) hx hb d_Mo_cut_92 rfl hl (by decide) rfl (fun ls hl => ?_)
            refine lv_iinc (v := x2 + 1) (lv' := [(2, .int (x2 + 1)), (3, .long ((x3 <<< ((8 : Int32).toInt64 &&& 63)) ||| ((σ.2.1 1 x2.toNatClampNeg).toInt64))), (0, .ref (A 0)), (1, .int x1), (5, .int x5), (6, .int x6)]) hx hb d_Mo_cut_93 hl (k := 3) rfl (by first | rfl | decide) (by decide) rfl (fun ls hl => ?_)
            refine lv_goto (tgt := 26) hx hb d_Mo_cut_96 (by decide) ?_
            exact ih _ _ _ _ _ h _ _ hP hD hS ls (lv_sub hl [2, 3, 0, 1, 4, 5] rfl)
          · replace h := itp c_48 h
            refine lv_aload_n hx hb d_Mo_cut_51 rfl (lv_at hl 0 rfl) ?_
            refine gf_Mo_7 hx hb hg hown hK hP d_Mo_cut_52 ?_
            refine lv_iload_n hx hb d_Mo_cut_55 rfl (lv_at hl 2 rfl) ?_
            obtain ⟨i_56, h⟩ := itn h
            refine Yra_1 hx hb hK hP i_56 d_Mo_cut_56 ?_
            obtain ⟨v_57, e_57, h⟩ := bd1_some h
            refine R_cpi (va_runS (As := [.int (σ.2.1 1 x2.toNatClampNeg)]) (rest := []) ⟨hx, hb, hml, hown, hts⟩ (c_Mo_digit l e_57) (va_cwS 1 hts (gd_S wd_1045 wd_1046 wd_10 wd_1047) rfl rfl rfl ds_Mo_digit ⟨Nat.le_of_ble_eq_true rfl, Nat.le_of_ble_eq_true rfl⟩) (P_ps hK.2) rfl rfl hl.1 rfl (lv_room (Nat.le_of_ble_eq_true rfl)) d_Mo_cut_57 ⟨Nat.le_of_ble_eq_true rfl, Nat.le_of_ble_eq_true rfl⟩) hP hD hS (fun H locs hP hD hS => ?_)
            refine lv_if_ne (tgt := 80) hx hb d_Mo_cut_60 (by decide) (fun c_60 => ?_) (fun c_60 => ?_)
            · replace h := itf c_60 h
              refine lv_lload_n hx hb d_Mo_cut_80 rfl (lv_at hl 3 rfl) ?_
              refine lv_bipush (v := 8) hx hb d_Mo_cut_81 (by decide) ?_
              refine lv_lshl hx hb d_Mo_cut_83 rfl ?_
              refine lv_aload_n hx hb d_Mo_cut_84 rfl (lv_at hl 0 rfl) ?_
              refine gf_Mo_7 hx hb hg hown hK hP d_Mo_cut_85 ?_
              refine lv_iload_n hx hb d_Mo_cut_88 rfl (lv_at hl 2 rfl) ?_
              obtain ⟨i_89, h⟩ := itn h
              refine Yra_1 hx hb hK hP i_89 d_Mo_cut_89 ?_
              refine lv_i2l hx hb d_Mo_cut_90 rfl ?_
              refine lv_lor hx hb d_Mo_cut_91 ?_
              refine lv_lstore_n (lv' := [(3, .long ((x3 <<< ((8 : Int32).toInt64 &&& 63)) ||| ((σ.2.1 1 x2.toNatClampNeg).toInt64))), (0, .ref (A 0)), (1, .int x1), (2, .int x2), (5, .int x5), (6, .int x6)]) hx hb d_Mo_cut_92 rfl hl (by decide) rfl (fun ls hl => ?_)
              refine lv_iinc (v := x2 + 1) (lv' := [(2, .int (x2 + 1)), (3, .long ((x3 <<< ((8 : Int32).toInt64 &&& 63)) ||| ((σ.2.1 1 x2.toNatClampNeg).toInt64))), (0, .ref (A 0)), (1, .int x1), (5, .int x5), (6, .int x6)]) hx hb d_Mo_cut_93 hl (k := 3) rfl (by first | rfl | decide) (by decide) rfl (fun ls hl => ?_)
              refine lv_goto (tgt := 26) hx hb d_Mo_cut_96 (by decide) ?_
              exact ih _ _ _ _ _ h _ _ hP hD hS ls (lv_sub hl [2, 3, 0, 1, 4, 5] rfl)
            · replace h := itp c_60 h
              exact J_63 _ ih _ _ _ _ _ h _ _ hP hD hS ls (lv_sub hl [0, 1, 2, 3, 4, 5] rfl)
  refine lv_iload_n hx hb d_Mo_cut_0 rfl (lv_at hl 1 rfl) ?_
  refine lv_istore_n (lv' := [(2, .int x1), (0, .ref (A 0)), (1, .int x1)]) hx hb d_Mo_cut_1 rfl hl (by decide) rfl (fun ls hl => ?_)
  refine lv_lconst (v := 0) hx hb d_Mo_cut_2 (by decide) ?_
  refine lv_lstore_n (lv' := [(3, .long 0), (2, .int x1), (0, .ref (A 0)), (1, .int x1)]) hx hb d_Mo_cut_3 rfl hl (by decide) rfl (fun ls hl => ?_)
  refine lv_aload_n hx hb d_Mo_cut_4 rfl (lv_at hl 2 rfl) ?_
  refine gf_Mo_7 hx hb hg hown hK hP d_Mo_cut_5 ?_
  refine lv_iload_n hx hb d_Mo_cut_8 rfl (lv_at hl 3 rfl) ?_
  obtain ⟨i_9, h⟩ := itn h
  refine Yra_1 hx hb hK hP i_9 d_Mo_cut_9 ?_
  obtain ⟨v_10, e_10, h⟩ := bd1_some h
  refine R_cpi (va_runS (As := [.int (σ.2.1 1 x1.toNatClampNeg)]) (rest := []) ⟨hx, hb, hml, hown, hts⟩ (c_Mo_letter l e_10) (va_cwS 1 hts (gd_S wd_1042 wd_1043 wd_10 wd_1044) rfl rfl rfl ds_Mo_letter ⟨Nat.le_of_ble_eq_true rfl, Nat.le_of_ble_eq_true rfl⟩) (P_ps hK.2) rfl rfl hl.1 rfl (lv_room (Nat.le_of_ble_eq_true rfl)) d_Mo_cut_10 ⟨Nat.le_of_ble_eq_true rfl, Nat.le_of_ble_eq_true rfl⟩) hP hD hS (fun H locs hP hD hS => ?_)
  refine lv_istore (lv' := [(5, .int v_10), (3, .long 0), (2, .int x1), (0, .ref (A 0)), (1, .int x1)]) hx hb d_Mo_cut_13 hl (by decide) rfl (fun ls hl => ?_)
  refine lv_aload_n hx hb d_Mo_cut_15 rfl (lv_at hl 3 rfl) ?_
  refine gf_Mo_7 hx hb hg hown hK hP d_Mo_cut_16 ?_
  refine lv_iload_n hx hb d_Mo_cut_19 rfl (lv_at hl 4 rfl) ?_
  obtain ⟨i_20, h⟩ := itn h
  refine Yra_1 hx hb hK hP i_20 d_Mo_cut_20 ?_
  obtain ⟨v_21, e_21, h⟩ := bd1_some h
  refine R_cpi (va_runS (As := [.int (σ.2.1 1 x1.toNatClampNeg)]) (rest := []) ⟨hx, hb, hml, hown, hts⟩ (c_Mo_digit l e_21) (va_cwS 1 hts (gd_S wd_1045 wd_1046 wd_10 wd_1047) rfl rfl rfl ds_Mo_digit ⟨Nat.le_of_ble_eq_true rfl, Nat.le_of_ble_eq_true rfl⟩) (P_ps hK.2) rfl rfl hl.1 rfl (lv_room (Nat.le_of_ble_eq_true rfl)) d_Mo_cut_21 ⟨Nat.le_of_ble_eq_true rfl, Nat.le_of_ble_eq_true rfl⟩) hP hD hS (fun H locs hP hD hS => ?_)
  refine lv_istore (lv' := [(6, .int v_21), (5, .int v_10), (3, .long 0), (2, .int x1), (0, .ref (A 0)), (1, .int x1)]) hx hb d_Mo_cut_24 hl (by decide) rfl (fun ls hl => ?_)
  exact L_26  FU _ _ _ _ _ h _ _ hP hD hS ls (lv_sub hl [4, 5, 3, 2, 1, 0] rfl)
def p_Mo_cutAll_L76 : Nat → Sto → Int32 → Option Sto
  | 0, _, _ => none
  | n + 1, σ, x2 =>
    (if (124 : Int32) ≤ x2 then
        some σ
      else
        if inR x2 124 then p_Mo_cutAll_L76 n (sA σ 3 x2.toNatClampNeg 0) (x2 + 1) else none)
def p_Mo_cutAll_L7 : Nat → Sto → Int32 → Option Sto
  | 0, _, _ => none
  | n + 1, σ, x1 =>
    (if (σ.1 1) ≤ x1 then
        p_Mo_cutAll_L76 FU σ (σ.1 3)
      else
        (if (121 : Int32) ≤ (σ.1 3) then
          p_Mo_cutAll_L76 FU σ (σ.1 3)
        else
          if inR x1 240 then (if (σ.2.1 1 x1.toNatClampNeg) = 32 then
            p_Mo_cutAll_L7 n σ (x1 + 1)
          else
            bd2 (p_Mo_cut σ x1) fun v_43 σ_43 =>
            if inR ((σ_43.1 3) - 1) 124 then (if (σ_43.2.1 3 (((σ_43.1 3) - 1).toNatClampNeg)) = 9 then
              p_Mo_cutAll_L7 n σ_43 (σ_43.1 1)
            else
              p_Mo_cutAll_L7 n σ_43 v_43) else none) else none))
def p_Mo_cutAll (σ : Sto) : Option Sto :=
  p_Mo_cutAll_L7 FU (sS σ 3 0) 0
abbrev w_Mo_cutAll : List Cond := Cond.code y_Mo_cutAll b_Mo_cutAll 3 none :: Tg
abbrev r_Mo_cutAll : Room := { frames := 2, cells := 0, slots := 0, locals := 49 }
theorem dv_Mo_cutAll : y_Mo_cutAll.cls = "LanguageServerModel" ∧ y_Mo_cutAll.cls ≠ "java/lang/invoke/MethodHandle" ∧ y_Mo_cutAll.cls ≠ "java/lang/invoke/VarHandle" ∧ (parseMethodDescriptor y_Mo_cutAll.desc).map (fun d => d.parameters.length) = some 0 := by decide +kernel
set_option maxHeartbeats 4000000 in
set_option maxRecDepth 100000 in
theorem c_Mo_cutAll (l : Launch) (K : Kst) (A : Nat → Nat) {σ : Sto} {ss : Sto} (h : p_Mo_cutAll σ = some ss) : Met l y_Mo_cutAll w_Mo_cutAll r_Mo_cutAll (va_Pc [.ref (A 0)] (YB K A σ)) (YQv K A ss) 0 0 (YF A) := by
  refine Met.ofW (cc := b_Mo_cutAll) (maxL := 3) (ret := none) (by decide) rfl ?_
  intro p e s m args below meth c s₁ B hml hv
  obtain ⟨rfl, hP, hK, hD⟩ := hv
  have hx := B.exec
  have hb := B.bytes
  have hr := B.returns
  have hts := atoms_spec (ws := w_Mo_cutAll) B.pre
  have hg : ∀ w ∈ Tg, w.before _ s = true := fun w q => hts w (List.mem_cons_of_mem _ q)
  have hown : s.vm.findClass "LanguageServerModel" = some m.cls := findClass_of_methodNamed B.named
  have hlocks := B.notSynchronized
  have hS : va_S (YF A) s.heap s.heap [] := va_S.rf
  have hl := lv_entry ([.ref (A 0)]) (n := 3) (Nat.le_of_ble_eq_true rfl)
  rw [lg_entry_eq]
  generalize (lg_sl ([.ref (A 0)]) ++ List.replicate (3 - (lg_sl ([.ref (A 0)])).length) Slot.unset).toArray = ls at hl ⊢
  have hl : lv_has ls 3 [(0, .ref (A 0))] := hl
  generalize hargs : ([.ref (A 0)] : List Value).toArray = args at hg hts ⊢
  obtain ⟨Q, hQ⟩ : ∃ Q, Q = MQ below (YQv K A ss) args s 0 0 (YF A) := ⟨_, rfl⟩
  rw [← hQ]
  have hRet : ∀ (σ : Sto), some σ = some ss → ∀ (H : Heap) (locs : List Loc), va_P K.1 vwCl (wY K A σ) H → va_D (YF A) (wY K A σ) → va_S (YF A) s.heap H locs → ∀ (pc : Nat) (ls : Array Slot), decode b_Mo_cutAll pc = .ok (.return_, 1) → W p l e (headSpec w_Mo_cutAll r_Mo_cutAll).room s m args below meth c H locs 0 0 Q (F0 m pc ls []) := by
    intro σ h H locs hP hD hS pc ls hd
    cases h
    subst hQ
    exact W.vret hx hb hr (fun t ht hW => ⟨⟨(), rfl, trivial, by rw [ht]; exact hP, RK.warm hW hK, hD⟩, hS.F ht⟩) hS.2.2 hd
  clear hQ
  unfold p_Mo_cutAll at h
  have L_76 : ∀ (n : Nat) (σ : Sto) (x2 : Int32), p_Mo_cutAll_L76 n σ x2 = some ss → ∀ (H : Heap) (locs : List Loc), va_P K.1 vwCl (wY K A σ) H → va_D (YF A) (wY K A σ) → va_S (YF A) s.heap H locs → ∀ ls : Array Slot, lv_has ls 3 [(0, .ref (A 0)), (2, .int x2)] → W p l e (headSpec w_Mo_cutAll r_Mo_cutAll).room s m args below meth c H locs 0 0 Q (F0 m 76 ls []) := by
    intro n
    induction n with
    | zero => intro _ _ h; cases h
    | succ n ih =>
      intro σ x2 h H locs hP hD hS ls hl
      rw [p_Mo_cutAll_L76] at h
      refine lv_iload_n hx hb d_Mo_cutAll_76 rfl (lv_at hl 1 rfl) ?_
      refine lv_bipush (v := 124) hx hb d_Mo_cutAll_77 (by decide) ?_
      refine lv_icmp_ge (tgt := 95) hx hb d_Mo_cutAll_79 (by decide) (fun c_79 => ?_) (fun c_79 => ?_)
      · replace h := itp c_79 h
        exact hRet _ h _ _ hP hD hS _ _ d_Mo_cutAll_95
      · replace h := itf c_79 h
        refine lv_aload_n hx hb d_Mo_cutAll_82 rfl (lv_at hl 0 rfl) ?_
        refine gf_Mo_16 hx hb hg hown hK hP d_Mo_cutAll_83 ?_
        refine lv_iload_n hx hb d_Mo_cutAll_86 rfl (lv_at hl 1 rfl) ?_
        refine lv_iconst (v := 0) hx hb d_Mo_cutAll_87 (by decide) ?_
        obtain ⟨i_88, h⟩ := itn h
        refine Ywa_3 hx hb hK hP hD hS i_88 d_Mo_cutAll_88 (fun H locs hP hD hS => ?_)
        refine lv_iinc (v := x2 + 1) (lv' := [(2, .int (x2 + 1)), (0, .ref (A 0))]) hx hb d_Mo_cutAll_89 hl (k := 1) rfl (by first | rfl | decide) (by decide) rfl (fun ls hl => ?_)
        refine lv_goto (tgt := 76) hx hb d_Mo_cutAll_92 (by decide) ?_
        exact ih _ _ h _ _ hP hD hS ls (lv_sub hl [1, 0] rfl)
  have L_7 : ∀ (n : Nat) (σ : Sto) (x1 : Int32), p_Mo_cutAll_L7 n σ x1 = some ss → ∀ (H : Heap) (locs : List Loc), va_P K.1 vwCl (wY K A σ) H → va_D (YF A) (wY K A σ) → va_S (YF A) s.heap H locs → ∀ ls : Array Slot, lv_has ls 3 [(0, .ref (A 0)), (1, .int x1)] → W p l e (headSpec w_Mo_cutAll r_Mo_cutAll).room s m args below meth c H locs 0 0 Q (F0 m 7 ls []) := by
    intro n
    induction n with
    | zero => intro _ _ h; cases h
    | succ n ih =>
      intro σ x1 h H locs hP hD hS ls hl
      rw [p_Mo_cutAll_L7] at h
      refine lv_iload_n hx hb d_Mo_cutAll_7 rfl (lv_at hl 1 rfl) ?_
      refine lv_aload_n hx hb d_Mo_cutAll_8 rfl (lv_at hl 0 rfl) ?_
      refine gf_Mo_85 hx hb hg hown hK hP d_Mo_cutAll_9 ?_
      refine lv_icmp_ge (tgt := 71) hx hb d_Mo_cutAll_12 (by decide) (fun c_12 => ?_) (fun c_12 => ?_)
      · replace h := itp c_12 h
        refine lv_aload_n hx hb d_Mo_cutAll_71 rfl (lv_at hl 0 rfl) ?_
        refine gf_Mo_118 hx hb hg hown hK hP d_Mo_cutAll_72 ?_
        refine lv_istore_n (lv' := [(2, .int (σ.1 3)), (0, .ref (A 0)), (1, .int x1)]) hx hb d_Mo_cutAll_75 rfl hl (by decide) rfl (fun ls hl => ?_)
        exact L_76  FU _ _ h _ _ hP hD hS ls (lv_sub hl [1, 0] rfl)
      · replace h := itf c_12 h
        refine lv_aload_n hx hb d_Mo_cutAll_15 rfl (lv_at hl 0 rfl) ?_
        refine gf_Mo_118 hx hb hg hown hK hP d_Mo_cutAll_16 ?_
        refine lv_bipush (v := 121) hx hb d_Mo_cutAll_19 (by decide) ?_
        refine lv_icmp_ge (tgt := 71) hx hb d_Mo_cutAll_21 (by decide) (fun c_21 => ?_) (fun c_21 => ?_)
        · replace h := itp c_21 h
          refine lv_aload_n hx hb d_Mo_cutAll_71 rfl (lv_at hl 0 rfl) ?_
          refine gf_Mo_118 hx hb hg hown hK hP d_Mo_cutAll_72 ?_
          refine lv_istore_n (lv' := [(2, .int (σ.1 3)), (0, .ref (A 0)), (1, .int x1)]) hx hb d_Mo_cutAll_75 rfl hl (by decide) rfl (fun ls hl => ?_)
          exact L_76  FU _ _ h _ _ hP hD hS ls (lv_sub hl [1, 0] rfl)
        · replace h := itf c_21 h
          refine lv_aload_n hx hb d_Mo_cutAll_24 rfl (lv_at hl 0 rfl) ?_
          refine gf_Mo_7 hx hb hg hown hK hP d_Mo_cutAll_25 ?_
          refine lv_iload_n hx hb d_Mo_cutAll_28 rfl (lv_at hl 1 rfl) ?_
          obtain ⟨i_29, h⟩ := itn h
          refine Yra_1 hx hb hK hP i_29 d_Mo_cutAll_29 ?_
          refine lv_bipush (v := 32) hx hb d_Mo_cutAll_30 (by decide) ?_
          refine lv_icmp_ne (tgt := 41) hx hb d_Mo_cutAll_32 (by decide) (fun c_32 => ?_) (fun c_32 => ?_)
          · replace h := itf c_32 h
            refine lv_aload_n hx hb d_Mo_cutAll_41 rfl (lv_at hl 0 rfl) ?_
            refine lv_iload_n hx hb d_Mo_cutAll_42 rfl (lv_at hl 1 rfl) ?_
            obtain ⟨v_43, σ_43, e_43, h⟩ := bd2_some h
            refine Y_calli (va_runV (As := [.int x1]) (rest := []) ⟨hx, hb, hml, hown, hts⟩ (c_Mo_cut l K A e_43) (cwV 1 hts (gd_V wd_1038 wd_1040 wp_46 wd_10 wd_1041) rfl rfl rfl dv_Mo_cut ⟨Nat.le_of_ble_eq_true rfl, Nat.le_of_ble_eq_true rfl⟩) (Y_pv_0 hK hP hD) rfl rfl hl.1 rfl (lv_room (Nat.le_of_ble_eq_true rfl)) d_Mo_cutAll_43 ⟨Nat.le_of_ble_eq_true rfl, Nat.le_of_ble_eq_true rfl⟩) hS (fun H locs hP hD hS => ?_)
            refine lv_istore_n (lv' := [(1, .int v_43), (0, .ref (A 0))]) hx hb d_Mo_cutAll_46 rfl hl (by decide) rfl (fun ls hl => ?_)
            refine lv_aload_n hx hb d_Mo_cutAll_47 rfl (lv_at hl 1 rfl) ?_
            refine gf_Mo_16 hx hb hg hown hK hP d_Mo_cutAll_48 ?_
            refine lv_aload_n hx hb d_Mo_cutAll_51 rfl (lv_at hl 1 rfl) ?_
            refine gf_Mo_118 hx hb hg hown hK hP d_Mo_cutAll_52 ?_
            refine lv_iconst (v := 1) hx hb d_Mo_cutAll_55 (by decide) ?_
            refine lv_isub hx hb d_Mo_cutAll_56 ?_
            obtain ⟨i_57, h⟩ := itn h
            refine Yra_3 hx hb hK hP i_57 d_Mo_cutAll_57 ?_
            refine lv_bipush (v := 9) hx hb d_Mo_cutAll_58 (by decide) ?_
            refine lv_icmp_ne (tgt := 7) hx hb d_Mo_cutAll_60 (by decide) (fun c_60 => ?_) (fun c_60 => ?_)
            · replace h := itf c_60 h
              exact ih _ _ h _ _ hP hD hS ls (lv_sub hl [1, 0] rfl)
            · replace h := itp c_60 h
              refine lv_aload_n hx hb d_Mo_cutAll_63 rfl (lv_at hl 1 rfl) ?_
              refine gf_Mo_85 hx hb hg hown hK hP d_Mo_cutAll_64 ?_
              refine lv_istore_n (lv' := [(1, .int (σ_43.1 1)), (0, .ref (A 0))]) hx hb d_Mo_cutAll_67 rfl hl (by decide) rfl (fun ls hl => ?_)
              refine lv_goto (tgt := 7) hx hb d_Mo_cutAll_68 (by decide) ?_
              exact ih _ _ h _ _ hP hD hS ls (lv_sub hl [1, 0] rfl)
          · replace h := itp c_32 h
            refine lv_iinc (v := x1 + 1) (lv' := [(1, .int (x1 + 1)), (0, .ref (A 0))]) hx hb d_Mo_cutAll_35 hl (k := 1) rfl (by first | rfl | decide) (by decide) rfl (fun ls hl => ?_)
            refine lv_goto (tgt := 7) hx hb d_Mo_cutAll_38 (by decide) ?_
            exact ih _ _ h _ _ hP hD hS ls (lv_sub hl [1, 0] rfl)
  refine lv_aload_n hx hb d_Mo_cutAll_0 rfl (lv_at hl 0 rfl) ?_
  refine lv_iconst (v := 0) hx hb d_Mo_cutAll_1 (by decide) ?_
  refine pf_Mo_118 hx hb hg hown hK hP hD hS d_Mo_cutAll_2 (fun H locs hP hD hS => ?_)
  refine lv_iconst (v := 0) hx hb d_Mo_cutAll_5 (by decide) ?_
  refine lv_istore_n (lv' := [(1, .int 0), (0, .ref (A 0))]) hx hb d_Mo_cutAll_6 rfl hl (by decide) rfl (fun ls hl => ?_)
  exact L_7  FU _ _ h _ _ hP hD hS ls (lv_sub hl [1, 0] rfl)
def p_Mo_is (σ : Sto) (x1 : Int32) : Option Int32 :=
  (if (σ.1 5) = 0 then
      if inR (σ.1 4) 124 then (if (σ.2.1 3 ((σ.1 4).toNatClampNeg)) = x1 then
        some 1
      else
        some 0) else none
    else
      some 0)
abbrev w_Mo_is : List Cond := Cond.code y_Mo_is b_Mo_is 2 (some .boolean) :: Tg
abbrev r_Mo_is : Room := { frames := 0, cells := 0, slots := 0, locals := 0 }
theorem dv_Mo_is : y_Mo_is.cls = "LanguageServerModel" ∧ y_Mo_is.cls ≠ "java/lang/invoke/MethodHandle" ∧ y_Mo_is.cls ≠ "java/lang/invoke/VarHandle" ∧ (parseMethodDescriptor y_Mo_is.desc).map (fun d => d.parameters.length) = some 1 := by decide +kernel
set_option maxHeartbeats 4000000 in
set_option maxRecDepth 100000 in
theorem c_Mo_is (l : Launch) (K : Kst) (A : Nat → Nat) {σ : Sto} {x1 : Int32} {rr : Int32} (h : p_Mo_is σ x1 = some rr) : Met l y_Mo_is w_Mo_is r_Mo_is (va_Pc [.ref (A 0), .int x1] (YB K A σ)) (YQi K A rr σ) 0 0 (YF A) := by
  refine Met.ofW (cc := b_Mo_is) (maxL := 2) (ret := (some .boolean)) (by decide) rfl ?_
  intro p e s m args below meth c s₁ B hml hv
  obtain ⟨rfl, hP, hK, hD⟩ := hv
  have hx := B.exec
  have hb := B.bytes
  have hr := B.returns
  have hts := atoms_spec (ws := w_Mo_is) B.pre
  have hg : ∀ w ∈ Tg, w.before _ s = true := fun w q => hts w (List.mem_cons_of_mem _ q)
  have hown : s.vm.findClass "LanguageServerModel" = some m.cls := findClass_of_methodNamed B.named
  have hlocks := B.notSynchronized
  have hS : va_S (YF A) s.heap s.heap [] := va_S.rf
  have hl := lv_entry ([.ref (A 0), .int x1]) (n := 2) (Nat.le_of_ble_eq_true rfl)
  rw [lg_entry_eq]
  generalize (lg_sl ([.ref (A 0), .int x1]) ++ List.replicate (2 - (lg_sl ([.ref (A 0), .int x1])).length) Slot.unset).toArray = ls at hl ⊢
  have hl : lv_has ls 2 [(0, .ref (A 0)), (1, .int x1)] := hl
  generalize hargs : ([.ref (A 0), .int x1] : List Value).toArray = args at hg hts ⊢
  obtain ⟨Q, hQ⟩ : ∃ Q, Q = MQ below (YQi K A rr σ) args s 0 0 (YF A) := ⟨_, rfl⟩
  rw [← hQ]
  have hRet : ∀ (v : Int32), (narrow .boolean (.int v) = .int v) → some v = some rr → ∀ (H : Heap) (locs : List Loc), va_P K.1 vwCl (wY K A σ) H → va_D (YF A) (wY K A σ) → va_S (YF A) s.heap H locs → ∀ (pc : Nat) (ls : Array Slot), decode b_Mo_is pc = .ok (.ireturn, 1) → W p l e (headSpec w_Mo_is r_Mo_is).room s m args below meth c H locs 0 0 Q (F0 m pc ls [.int v]) := by
    intro v hn h H locs hP hD hS pc ls hd
    cases h
    subst hQ
    exact W.zret hx hb hr hn (fun t ht hW => ⟨⟨_, (), rfl, rfl, by rw [ht]; exact hP, RK.warm hW hK, hD⟩, hS.F ht⟩) hS.2.2 hd
  clear hQ
  unfold p_Mo_is at h
  refine lv_aload_n hx hb d_Mo_is_0 rfl (lv_at hl 0 rfl) ?_
  refine gf_Mo_131 hx hb hg hown hK hP d_Mo_is_1 ?_
  refine lv_if_ne (tgt := 24) hx hb d_Mo_is_4 (by decide) (fun c_4 => ?_) (fun c_4 => ?_)
  · replace h := itf c_4 h
    refine lv_iconst (v := 0) hx hb d_Mo_is_24 (by decide) ?_
    exact hRet _ rfl h _ _ hP hD hS _ _ d_Mo_is_25
  · replace h := itp c_4 h
    refine lv_aload_n hx hb d_Mo_is_7 rfl (lv_at hl 0 rfl) ?_
    refine gf_Mo_16 hx hb hg hown hK hP d_Mo_is_8 ?_
    refine lv_aload_n hx hb d_Mo_is_11 rfl (lv_at hl 0 rfl) ?_
    refine gf_Mo_135 hx hb hg hown hK hP d_Mo_is_12 ?_
    obtain ⟨i_15, h⟩ := itn h
    refine Yra_3 hx hb hK hP i_15 d_Mo_is_15 ?_
    refine lv_iload_n hx hb d_Mo_is_16 rfl (lv_at hl 1 rfl) ?_
    refine lv_icmp_ne (tgt := 24) hx hb d_Mo_is_17 (by decide) (fun c_17 => ?_) (fun c_17 => ?_)
    · replace h := itf c_17 h
      refine lv_iconst (v := 0) hx hb d_Mo_is_24 (by decide) ?_
      exact hRet _ rfl h _ _ hP hD hS _ _ d_Mo_is_25
    · replace h := itp c_17 h
      refine lv_iconst (v := 1) hx hb d_Mo_is_20 (by decide) ?_
      refine lv_goto (tgt := 25) hx hb d_Mo_is_21 (by decide) ?_
      exact hRet _ rfl h _ _ hP hD hS _ _ d_Mo_is_25
def p_Mo_take (σ : Sto) (x1 : Int32) : Option (Int32 × Sto) :=
  bd1 (p_Mo_is σ x1) fun v_2 =>
    (if v_2 = 0 then
      some (0, σ)
    else
      some (1, sS σ 4 ((σ.1 4) + 1)))
abbrev w_Mo_take : List Cond := Cond.code y_Mo_take b_Mo_take 2 (some .boolean) :: Tg
abbrev r_Mo_take : Room := { frames := 1, cells := 0, slots := 0, locals := 21 }
theorem dv_Mo_take : y_Mo_take.cls = "LanguageServerModel" ∧ y_Mo_take.cls ≠ "java/lang/invoke/MethodHandle" ∧ y_Mo_take.cls ≠ "java/lang/invoke/VarHandle" ∧ (parseMethodDescriptor y_Mo_take.desc).map (fun d => d.parameters.length) = some 1 := by decide +kernel
set_option maxHeartbeats 4000000 in
set_option maxRecDepth 100000 in
theorem c_Mo_take (l : Launch) (K : Kst) (A : Nat → Nat) {σ : Sto} {x1 : Int32} {rr : Int32} {ss : Sto} (h : p_Mo_take σ x1 = some (rr, ss)) : Met l y_Mo_take w_Mo_take r_Mo_take (va_Pc [.ref (A 0), .int x1] (YB K A σ)) (YQi K A rr ss) 0 0 (YF A) := by
  refine Met.ofW (cc := b_Mo_take) (maxL := 2) (ret := (some .boolean)) (by decide) rfl ?_
  intro p e s m args below meth c s₁ B hml hv
  obtain ⟨rfl, hP, hK, hD⟩ := hv
  have hx := B.exec
  have hb := B.bytes
  have hr := B.returns
  have hts := atoms_spec (ws := w_Mo_take) B.pre
  have hg : ∀ w ∈ Tg, w.before _ s = true := fun w q => hts w (List.mem_cons_of_mem _ q)
  have hown : s.vm.findClass "LanguageServerModel" = some m.cls := findClass_of_methodNamed B.named
  have hlocks := B.notSynchronized
  have hS : va_S (YF A) s.heap s.heap [] := va_S.rf
  have hl := lv_entry ([.ref (A 0), .int x1]) (n := 2) (Nat.le_of_ble_eq_true rfl)
  rw [lg_entry_eq]
  generalize (lg_sl ([.ref (A 0), .int x1]) ++ List.replicate (2 - (lg_sl ([.ref (A 0), .int x1])).length) Slot.unset).toArray = ls at hl ⊢
  have hl : lv_has ls 2 [(0, .ref (A 0)), (1, .int x1)] := hl
  generalize hargs : ([.ref (A 0), .int x1] : List Value).toArray = args at hg hts ⊢
  obtain ⟨Q, hQ⟩ : ∃ Q, Q = MQ below (YQi K A rr ss) args s 0 0 (YF A) := ⟨_, rfl⟩
  rw [← hQ]
  have hRet : ∀ (v : Int32) (σ : Sto), (narrow .boolean (.int v) = .int v) → some (v, σ) = some (rr, ss) → ∀ (H : Heap) (locs : List Loc), va_P K.1 vwCl (wY K A σ) H → va_D (YF A) (wY K A σ) → va_S (YF A) s.heap H locs → ∀ (pc : Nat) (ls : Array Slot), decode b_Mo_take pc = .ok (.ireturn, 1) → W p l e (headSpec w_Mo_take r_Mo_take).room s m args below meth c H locs 0 0 Q (F0 m pc ls [.int v]) := by
    intro v σ hn h H locs hP hD hS pc ls hd
    cases h
    subst hQ
    exact W.zret hx hb hr hn (fun t ht hW => ⟨⟨_, (), rfl, rfl, by rw [ht]; exact hP, RK.warm hW hK, hD⟩, hS.F ht⟩) hS.2.2 hd
  clear hQ
  unfold p_Mo_take at h
  refine lv_aload_n hx hb d_Mo_take_0 rfl (lv_at hl 0 rfl) ?_
  refine lv_iload_n hx hb d_Mo_take_1 rfl (lv_at hl 1 rfl) ?_
  obtain ⟨v_2, e_2, h⟩ := bd1_some h
  refine Y_calli (va_runV (As := [.int x1]) (rest := []) ⟨hx, hb, hml, hown, hts⟩ (c_Mo_is l K A e_2) (cwV 1 hts (gd_V wd_1072 wd_1074 wp_50 wd_10 wd_1075) rfl rfl rfl dv_Mo_is ⟨Nat.le_of_ble_eq_true rfl, Nat.le_of_ble_eq_true rfl⟩) (Y_pv_0 hK hP hD) rfl rfl hl.1 rfl (lv_room (Nat.le_of_ble_eq_true rfl)) d_Mo_take_2 ⟨Nat.le_of_ble_eq_true rfl, Nat.le_of_ble_eq_true rfl⟩) hS (fun H locs hP hD hS => ?_)
  refine lv_if_ne (tgt := 10) hx hb d_Mo_take_5 (by decide) (fun c_5 => ?_) (fun c_5 => ?_)
  · replace h := itf c_5 h
    refine lv_aload_n hx hb d_Mo_take_10 rfl (lv_at hl 0 rfl) ?_
    refine lv_dup hx hb d_Mo_take_11 rfl ?_
    refine gf_Mo_135 hx hb hg hown hK hP d_Mo_take_12 ?_
    refine lv_iconst (v := 1) hx hb d_Mo_take_15 (by decide) ?_
    refine lv_iadd hx hb d_Mo_take_16 ?_
    refine pf_Mo_135 hx hb hg hown hK hP hD hS d_Mo_take_17 (fun H locs hP hD hS => ?_)
    refine lv_iconst (v := 1) hx hb d_Mo_take_20 (by decide) ?_
    exact hRet _ _ rfl h _ _ hP hD hS _ _ d_Mo_take_21
  · replace h := itp c_5 h
    refine lv_iconst (v := 0) hx hb d_Mo_take_8 (by decide) ?_
    exact hRet _ _ rfl h _ _ hP hD hS _ _ d_Mo_take_9
def p_Mo_need (σ : Sto) (x1 : Int32) : Option Sto :=
  bd2 (p_Mo_take σ x1) fun v_2 σ_2 =>
    (if v_2 = 0 then
      some (sS σ_2 5 1)
    else
      some σ_2)
abbrev w_Mo_need : List Cond := Cond.code y_Mo_need b_Mo_need 2 none :: Tg
abbrev r_Mo_need : Room := { frames := 2, cells := 0, slots := 0, locals := 42 }
theorem dv_Mo_need : y_Mo_need.cls = "LanguageServerModel" ∧ y_Mo_need.cls ≠ "java/lang/invoke/MethodHandle" ∧ y_Mo_need.cls ≠ "java/lang/invoke/VarHandle" ∧ (parseMethodDescriptor y_Mo_need.desc).map (fun d => d.parameters.length) = some 1 := by decide +kernel
set_option maxHeartbeats 4000000 in
set_option maxRecDepth 100000 in
theorem c_Mo_need (l : Launch) (K : Kst) (A : Nat → Nat) {σ : Sto} {x1 : Int32} {ss : Sto} (h : p_Mo_need σ x1 = some ss) : Met l y_Mo_need w_Mo_need r_Mo_need (va_Pc [.ref (A 0), .int x1] (YB K A σ)) (YQv K A ss) 0 0 (YF A) := by
  refine Met.ofW (cc := b_Mo_need) (maxL := 2) (ret := none) (by decide) rfl ?_
  intro p e s m args below meth c s₁ B hml hv
  obtain ⟨rfl, hP, hK, hD⟩ := hv
  have hx := B.exec
  have hb := B.bytes
  have hr := B.returns
  have hts := atoms_spec (ws := w_Mo_need) B.pre
  have hg : ∀ w ∈ Tg, w.before _ s = true := fun w q => hts w (List.mem_cons_of_mem _ q)
  have hown : s.vm.findClass "LanguageServerModel" = some m.cls := findClass_of_methodNamed B.named
  have hlocks := B.notSynchronized
  have hS : va_S (YF A) s.heap s.heap [] := va_S.rf
  have hl := lv_entry ([.ref (A 0), .int x1]) (n := 2) (Nat.le_of_ble_eq_true rfl)
  rw [lg_entry_eq]
  generalize (lg_sl ([.ref (A 0), .int x1]) ++ List.replicate (2 - (lg_sl ([.ref (A 0), .int x1])).length) Slot.unset).toArray = ls at hl ⊢
  have hl : lv_has ls 2 [(0, .ref (A 0)), (1, .int x1)] := hl
  generalize hargs : ([.ref (A 0), .int x1] : List Value).toArray = args at hg hts ⊢
  obtain ⟨Q, hQ⟩ : ∃ Q, Q = MQ below (YQv K A ss) args s 0 0 (YF A) := ⟨_, rfl⟩
  rw [← hQ]
  have hRet : ∀ (σ : Sto), some σ = some ss → ∀ (H : Heap) (locs : List Loc), va_P K.1 vwCl (wY K A σ) H → va_D (YF A) (wY K A σ) → va_S (YF A) s.heap H locs → ∀ (pc : Nat) (ls : Array Slot), decode b_Mo_need pc = .ok (.return_, 1) → W p l e (headSpec w_Mo_need r_Mo_need).room s m args below meth c H locs 0 0 Q (F0 m pc ls []) := by
    intro σ h H locs hP hD hS pc ls hd
    cases h
    subst hQ
    exact W.vret hx hb hr (fun t ht hW => ⟨⟨(), rfl, trivial, by rw [ht]; exact hP, RK.warm hW hK, hD⟩, hS.F ht⟩) hS.2.2 hd
  clear hQ
  unfold p_Mo_need at h
  refine lv_aload_n hx hb d_Mo_need_0 rfl (lv_at hl 0 rfl) ?_
  refine lv_iload_n hx hb d_Mo_need_1 rfl (lv_at hl 1 rfl) ?_
  obtain ⟨v_2, σ_2, e_2, h⟩ := bd2_some h
  refine Y_calli (va_runV (As := [.int x1]) (rest := []) ⟨hx, hb, hml, hown, hts⟩ (c_Mo_take l K A e_2) (cwV 1 hts (gd_V wd_1068 wd_1070 wp_49 wd_10 wd_1071) rfl rfl rfl dv_Mo_take ⟨Nat.le_of_ble_eq_true rfl, Nat.le_of_ble_eq_true rfl⟩) (Y_pv_0 hK hP hD) rfl rfl hl.1 rfl (lv_room (Nat.le_of_ble_eq_true rfl)) d_Mo_need_2 ⟨Nat.le_of_ble_eq_true rfl, Nat.le_of_ble_eq_true rfl⟩) hS (fun H locs hP hD hS => ?_)
  refine lv_if_ne (tgt := 13) hx hb d_Mo_need_5 (by decide) (fun c_5 => ?_) (fun c_5 => ?_)
  · replace h := itf c_5 h
    exact hRet _ h _ _ hP hD hS _ _ d_Mo_need_13
  · replace h := itp c_5 h
    refine lv_aload_n hx hb d_Mo_need_8 rfl (lv_at hl 0 rfl) ?_
    refine lv_iconst (v := 1) hx hb d_Mo_need_9 (by decide) ?_
    refine pf_Mo_131 hx hb hg hown hK hP hD hS d_Mo_need_10 rfl rfl (fun H locs hP hD hS => ?_)
    exact hRet _ h _ _ hP hD hS _ _ d_Mo_need_13
def p_Mo_name (σ : Sto) (x1 : Int32) (x2 : Int32) (x3 : Int32) : Option Sto :=
  bd1 (p_Mo_is σ 1) fun v_2 =>
    (if v_2 = 0 then
      some (sS σ 5 1)
    else
      if inR (σ.1 4) 124 then if inR ((sA σ 7 ((σ.1 4).toNatClampNeg) x1).1 4) 124 then if inR ((sA (sA σ 7 ((σ.1 4).toNatClampNeg) x1) 8 (((sA σ 7 ((σ.1 4).toNatClampNeg) x1).1 4).toNatClampNeg) x2).1 4) 124 then some (sS (sA (sA (sA σ 7 ((σ.1 4).toNatClampNeg) x1) 8 (((sA σ 7 ((σ.1 4).toNatClampNeg) x1).1 4).toNatClampNeg) x2) 9 (((sA (sA σ 7 ((σ.1 4).toNatClampNeg) x1) 8 (((sA σ 7 ((σ.1 4).toNatClampNeg) x1).1 4).toNatClampNeg) x2).1 4).toNatClampNeg) x3) 4 (((sA (sA (sA σ 7 ((σ.1 4).toNatClampNeg) x1) 8 (((sA σ 7 ((σ.1 4).toNatClampNeg) x1).1 4).toNatClampNeg) x2) 9 (((sA (sA σ 7 ((σ.1 4).toNatClampNeg) x1) 8 (((sA σ 7 ((σ.1 4).toNatClampNeg) x1).1 4).toNatClampNeg) x2).1 4).toNatClampNeg) x3).1 4) + 1)) else none else none else none)
abbrev w_Mo_name : List Cond := Cond.code y_Mo_name b_Mo_name 4 none :: Tg
abbrev r_Mo_name : Room := { frames := 1, cells := 0, slots := 0, locals := 21 }
theorem dv_Mo_name : y_Mo_name.cls = "LanguageServerModel" ∧ y_Mo_name.cls ≠ "java/lang/invoke/MethodHandle" ∧ y_Mo_name.cls ≠ "java/lang/invoke/VarHandle" ∧ (parseMethodDescriptor y_Mo_name.desc).map (fun d => d.parameters.length) = some 3 := by decide +kernel
set_option maxHeartbeats 4000000 in
set_option maxRecDepth 100000 in
theorem c_Mo_name (l : Launch) (K : Kst) (A : Nat → Nat) {σ : Sto} {x1 : Int32} {x2 : Int32} {x3 : Int32} {ss : Sto} (h : p_Mo_name σ x1 x2 x3 = some ss) : Met l y_Mo_name w_Mo_name r_Mo_name (va_Pc [.ref (A 0), .int x1, .int x2, .int x3] (YB K A σ)) (YQv K A ss) 0 0 (YF A) := by
  refine Met.ofW (cc := b_Mo_name) (maxL := 4) (ret := none) (by decide) rfl ?_
  intro p e s m args below meth c s₁ B hml hv
  obtain ⟨rfl, hP, hK, hD⟩ := hv
  have hx := B.exec
  have hb := B.bytes
  have hr := B.returns
  have hts := atoms_spec (ws := w_Mo_name) B.pre
  have hg : ∀ w ∈ Tg, w.before _ s = true := fun w q => hts w (List.mem_cons_of_mem _ q)
  have hown : s.vm.findClass "LanguageServerModel" = some m.cls := findClass_of_methodNamed B.named
  have hlocks := B.notSynchronized
  have hS : va_S (YF A) s.heap s.heap [] := va_S.rf
  have hl := lv_entry ([.ref (A 0), .int x1, .int x2, .int x3]) (n := 4) (Nat.le_of_ble_eq_true rfl)
  rw [lg_entry_eq]
  generalize (lg_sl ([.ref (A 0), .int x1, .int x2, .int x3]) ++ List.replicate (4 - (lg_sl ([.ref (A 0), .int x1, .int x2, .int x3])).length) Slot.unset).toArray = ls at hl ⊢
  have hl : lv_has ls 4 [(0, .ref (A 0)), (1, .int x1), (2, .int x2), (3, .int x3)] := hl
  generalize hargs : ([.ref (A 0), .int x1, .int x2, .int x3] : List Value).toArray = args at hg hts ⊢
  obtain ⟨Q, hQ⟩ : ∃ Q, Q = MQ below (YQv K A ss) args s 0 0 (YF A) := ⟨_, rfl⟩
  rw [← hQ]
  have hRet : ∀ (σ : Sto), some σ = some ss → ∀ (H : Heap) (locs : List Loc), va_P K.1 vwCl (wY K A σ) H → va_D (YF A) (wY K A σ) → va_S (YF A) s.heap H locs → ∀ (pc : Nat) (ls : Array Slot), decode b_Mo_name pc = .ok (.return_, 1) → W p l e (headSpec w_Mo_name r_Mo_name).room s m args below meth c H locs 0 0 Q (F0 m pc ls []) := by
    intro σ h H locs hP hD hS pc ls hd
    cases h
    subst hQ
    exact W.vret hx hb hr (fun t ht hW => ⟨⟨(), rfl, trivial, by rw [ht]; exact hP, RK.warm hW hK, hD⟩, hS.F ht⟩) hS.2.2 hd
  clear hQ
  unfold p_Mo_name at h
  refine lv_aload_n hx hb d_Mo_name_0 rfl (lv_at hl 0 rfl) ?_
  refine lv_iconst (v := 1) hx hb d_Mo_name_1 (by decide) ?_
  obtain ⟨v_2, e_2, h⟩ := bd1_some h
  refine Y_calli (va_runV (As := [.int 1]) (rest := []) ⟨hx, hb, hml, hown, hts⟩ (c_Mo_is l K A e_2) (cwV 1 hts (gd_V wd_1072 wd_1074 wp_50 wd_10 wd_1075) rfl rfl rfl dv_Mo_is ⟨Nat.le_of_ble_eq_true rfl, Nat.le_of_ble_eq_true rfl⟩) (Y_pv_0 hK hP hD) rfl rfl hl.1 rfl (lv_room (Nat.le_of_ble_eq_true rfl)) d_Mo_name_2 ⟨Nat.le_of_ble_eq_true rfl, Nat.le_of_ble_eq_true rfl⟩) hS (fun H locs hP hD hS => ?_)
  refine lv_if_ne (tgt := 14) hx hb d_Mo_name_5 (by decide) (fun c_5 => ?_) (fun c_5 => ?_)
  · replace h := itf c_5 h
    refine lv_aload_n hx hb d_Mo_name_14 rfl (lv_at hl 0 rfl) ?_
    refine gf_Mo_29 hx hb hg hown hK hP d_Mo_name_15 ?_
    refine lv_aload_n hx hb d_Mo_name_18 rfl (lv_at hl 0 rfl) ?_
    refine gf_Mo_135 hx hb hg hown hK hP d_Mo_name_19 ?_
    refine lv_iload_n hx hb d_Mo_name_22 rfl (lv_at hl 1 rfl) ?_
    obtain ⟨i_23, h⟩ := itn h
    refine Ywa_7 hx hb hK hP hD hS i_23 d_Mo_name_23 (fun H locs hP hD hS => ?_)
    refine lv_aload_n hx hb d_Mo_name_24 rfl (lv_at hl 0 rfl) ?_
    refine gf_Mo_32 hx hb hg hown hK hP d_Mo_name_25 ?_
    refine lv_aload_n hx hb d_Mo_name_28 rfl (lv_at hl 0 rfl) ?_
    refine gf_Mo_135 hx hb hg hown hK hP d_Mo_name_29 ?_
    refine lv_iload_n hx hb d_Mo_name_32 rfl (lv_at hl 2 rfl) ?_
    obtain ⟨i_33, h⟩ := itn h
    refine Ywa_8 hx hb hK hP hD hS i_33 d_Mo_name_33 (fun H locs hP hD hS => ?_)
    refine lv_aload_n hx hb d_Mo_name_34 rfl (lv_at hl 0 rfl) ?_
    refine gf_Mo_35 hx hb hg hown hK hP d_Mo_name_35 ?_
    refine lv_aload_n hx hb d_Mo_name_38 rfl (lv_at hl 0 rfl) ?_
    refine gf_Mo_135 hx hb hg hown hK hP d_Mo_name_39 ?_
    refine lv_iload_n hx hb d_Mo_name_42 rfl (lv_at hl 3 rfl) ?_
    obtain ⟨i_43, h⟩ := itn h
    refine Ywa_9 hx hb hK hP hD hS i_43 d_Mo_name_43 (fun H locs hP hD hS => ?_)
    refine lv_aload_n hx hb d_Mo_name_44 rfl (lv_at hl 0 rfl) ?_
    refine lv_dup hx hb d_Mo_name_45 rfl ?_
    refine gf_Mo_135 hx hb hg hown hK hP d_Mo_name_46 ?_
    refine lv_iconst (v := 1) hx hb d_Mo_name_49 (by decide) ?_
    refine lv_iadd hx hb d_Mo_name_50 ?_
    refine pf_Mo_135 hx hb hg hown hK hP hD hS d_Mo_name_51 (fun H locs hP hD hS => ?_)
    exact hRet _ h _ _ hP hD hS _ _ d_Mo_name_54
  · replace h := itp c_5 h
    refine lv_aload_n hx hb d_Mo_name_8 rfl (lv_at hl 0 rfl) ?_
    refine lv_iconst (v := 1) hx hb d_Mo_name_9 (by decide) ?_
    refine pf_Mo_131 hx hb hg hown hK hP hD hS d_Mo_name_10 rfl rfl (fun H locs hP hD hS => ?_)
    exact hRet _ h _ _ hP hD hS _ _ d_Mo_name_13
def p_Mo_typeWord (σ : Sto) (x1 : Int32) (x2 : Int32) : Option Sto :=
  bd2 (p_Mo_take σ 3) fun v_2 σ_2 =>
    (if v_2 = 0 then
      bd1 (p_Mo_name σ_2 2 x1 x2) fun σ_12 =>
      some σ_12
    else
      some σ_2)
abbrev w_Mo_typeWord : List Cond := Cond.code y_Mo_typeWord b_Mo_typeWord 3 none :: Tg
abbrev r_Mo_typeWord : Room := { frames := 2, cells := 0, slots := 0, locals := 44 }
theorem dv_Mo_typeWord : y_Mo_typeWord.cls = "LanguageServerModel" ∧ y_Mo_typeWord.cls ≠ "java/lang/invoke/MethodHandle" ∧ y_Mo_typeWord.cls ≠ "java/lang/invoke/VarHandle" ∧ (parseMethodDescriptor y_Mo_typeWord.desc).map (fun d => d.parameters.length) = some 2 := by decide +kernel
set_option maxHeartbeats 4000000 in
set_option maxRecDepth 100000 in
theorem c_Mo_typeWord (l : Launch) (K : Kst) (A : Nat → Nat) {σ : Sto} {x1 : Int32} {x2 : Int32} {ss : Sto} (h : p_Mo_typeWord σ x1 x2 = some ss) : Met l y_Mo_typeWord w_Mo_typeWord r_Mo_typeWord (va_Pc [.ref (A 0), .int x1, .int x2] (YB K A σ)) (YQv K A ss) 0 0 (YF A) := by
  refine Met.ofW (cc := b_Mo_typeWord) (maxL := 3) (ret := none) (by decide) rfl ?_
  intro p e s m args below meth c s₁ B hml hv
  obtain ⟨rfl, hP, hK, hD⟩ := hv
  have hx := B.exec
  have hb := B.bytes
  have hr := B.returns
  have hts := atoms_spec (ws := w_Mo_typeWord) B.pre
  have hg : ∀ w ∈ Tg, w.before _ s = true := fun w q => hts w (List.mem_cons_of_mem _ q)
  have hown : s.vm.findClass "LanguageServerModel" = some m.cls := findClass_of_methodNamed B.named
  have hlocks := B.notSynchronized
  have hS : va_S (YF A) s.heap s.heap [] := va_S.rf
  have hl := lv_entry ([.ref (A 0), .int x1, .int x2]) (n := 3) (Nat.le_of_ble_eq_true rfl)
  rw [lg_entry_eq]
  generalize (lg_sl ([.ref (A 0), .int x1, .int x2]) ++ List.replicate (3 - (lg_sl ([.ref (A 0), .int x1, .int x2])).length) Slot.unset).toArray = ls at hl ⊢
  have hl : lv_has ls 3 [(0, .ref (A 0)), (1, .int x1), (2, .int x2)] := hl
  generalize hargs : ([.ref (A 0), .int x1, .int x2] : List Value).toArray = args at hg hts ⊢
  obtain ⟨Q, hQ⟩ : ∃ Q, Q = MQ below (YQv K A ss) args s 0 0 (YF A) := ⟨_, rfl⟩
  rw [← hQ]
  have hRet : ∀ (σ : Sto), some σ = some ss → ∀ (H : Heap) (locs : List Loc), va_P K.1 vwCl (wY K A σ) H → va_D (YF A) (wY K A σ) → va_S (YF A) s.heap H locs → ∀ (pc : Nat) (ls : Array Slot), decode b_Mo_typeWord pc = .ok (.return_, 1) → W p l e (headSpec w_Mo_typeWord r_Mo_typeWord).room s m args below meth c H locs 0 0 Q (F0 m pc ls []) := by
    intro σ h H locs hP hD hS pc ls hd
    cases h
    subst hQ
    exact W.vret hx hb hr (fun t ht hW => ⟨⟨(), rfl, trivial, by rw [ht]; exact hP, RK.warm hW hK, hD⟩, hS.F ht⟩) hS.2.2 hd
  clear hQ
  unfold p_Mo_typeWord at h
  refine lv_aload_n hx hb d_Mo_typeWord_0 rfl (lv_at hl 0 rfl) ?_
  refine lv_iconst (v := 3) hx hb d_Mo_typeWord_1 (by decide) ?_
  obtain ⟨v_2, σ_2, e_2, h⟩ := bd2_some h
  refine Y_calli (va_runV (As := [.int 3]) (rest := []) ⟨hx, hb, hml, hown, hts⟩ (c_Mo_take l K A e_2) (cwV 1 hts (gd_V wd_1068 wd_1070 wp_49 wd_10 wd_1071) rfl rfl rfl dv_Mo_take ⟨Nat.le_of_ble_eq_true rfl, Nat.le_of_ble_eq_true rfl⟩) (Y_pv_0 hK hP hD) rfl rfl hl.1 rfl (lv_room (Nat.le_of_ble_eq_true rfl)) d_Mo_typeWord_2 ⟨Nat.le_of_ble_eq_true rfl, Nat.le_of_ble_eq_true rfl⟩) hS (fun H locs hP hD hS => ?_)
  refine lv_if_ne (tgt := 15) hx hb d_Mo_typeWord_5 (by decide) (fun c_5 => ?_) (fun c_5 => ?_)
  · replace h := itf c_5 h
    exact hRet _ h _ _ hP hD hS _ _ d_Mo_typeWord_15
  · replace h := itp c_5 h
    refine lv_aload_n hx hb d_Mo_typeWord_8 rfl (lv_at hl 0 rfl) ?_
    refine lv_iconst (v := 2) hx hb d_Mo_typeWord_9 (by decide) ?_
    refine lv_iload_n hx hb d_Mo_typeWord_10 rfl (lv_at hl 1 rfl) ?_
    refine lv_iload_n hx hb d_Mo_typeWord_11 rfl (lv_at hl 2 rfl) ?_
    obtain ⟨σ_12, e_12, h⟩ := bd1_some h
    refine Y_callv (va_runV (As := [.int 2, .int x1, .int x2]) (rest := []) ⟨hx, hb, hml, hown, hts⟩ (c_Mo_name l K A e_12) (cwV 3 hts (gd_V wd_1076 wd_1078 wp_51 wd_10 wd_1079) rfl rfl rfl dv_Mo_name ⟨Nat.le_of_ble_eq_true rfl, Nat.le_of_ble_eq_true rfl⟩) (Y_pv_0 hK hP hD) rfl rfl hl.1 rfl (lv_room (Nat.le_of_ble_eq_true rfl)) d_Mo_typeWord_12 ⟨Nat.le_of_ble_eq_true rfl, Nat.le_of_ble_eq_true rfl⟩) hS (fun H locs hP hD hS => ?_)
    exact hRet _ h _ _ hP hD hS _ _ d_Mo_typeWord_15
def p_Mo_open (σ : Sto) (x1 : Int32) : Option Sto :=
  (if (σ.1 7) = 8 then
      some (sS σ 5 1)
    else
      (if x1 = 0 then
        if inR ((sS σ 4 ((σ.1 4) + 1)).1 7) 10 then some (sS (sA (sS σ 4 ((σ.1 4) + 1)) 16 (((sS σ 4 ((σ.1 4) + 1)).1 7).toNatClampNeg) 0) 7 (((sA (sS σ 4 ((σ.1 4) + 1)) 16 (((sS σ 4 ((σ.1 4) + 1)).1 7).toNatClampNeg) 0).1 7) + 1)) else none
      else
        if inR ((sS σ 4 ((σ.1 4) + 1)).1 7) 10 then some (sS (sA (sS σ 4 ((σ.1 4) + 1)) 16 (((sS σ 4 ((σ.1 4) + 1)).1 7).toNatClampNeg) 1) 7 (((sA (sS σ 4 ((σ.1 4) + 1)) 16 (((sS σ 4 ((σ.1 4) + 1)).1 7).toNatClampNeg) 1).1 7) + 1)) else none))
abbrev w_Mo_opn : List Cond := Cond.code y_Mo_opn b_Mo_opn 2 none :: Tg
abbrev r_Mo_opn : Room := { frames := 0, cells := 0, slots := 0, locals := 0 }
theorem dv_Mo_opn : y_Mo_opn.cls = "LanguageServerModel" ∧ y_Mo_opn.cls ≠ "java/lang/invoke/MethodHandle" ∧ y_Mo_opn.cls ≠ "java/lang/invoke/VarHandle" ∧ (parseMethodDescriptor y_Mo_opn.desc).map (fun d => d.parameters.length) = some 1 := by decide +kernel
set_option maxHeartbeats 4000000 in
set_option maxRecDepth 100000 in
theorem c_Mo_opn (l : Launch) (K : Kst) (A : Nat → Nat) {σ : Sto} {x1 : Int32} {ss : Sto} (h : p_Mo_open σ x1 = some ss) : Met l y_Mo_opn w_Mo_opn r_Mo_opn (va_Pc [.ref (A 0), .int x1] (YB K A σ)) (YQv K A ss) 0 0 (YF A) := by
  refine Met.ofW (cc := b_Mo_opn) (maxL := 2) (ret := none) (by decide) rfl ?_
  intro p e s m args below meth c s₁ B hml hv
  obtain ⟨rfl, hP, hK, hD⟩ := hv
  have hx := B.exec
  have hb := B.bytes
  have hr := B.returns
  have hts := atoms_spec (ws := w_Mo_opn) B.pre
  have hg : ∀ w ∈ Tg, w.before _ s = true := fun w q => hts w (List.mem_cons_of_mem _ q)
  have hown : s.vm.findClass "LanguageServerModel" = some m.cls := findClass_of_methodNamed B.named
  have hlocks := B.notSynchronized
  have hS : va_S (YF A) s.heap s.heap [] := va_S.rf
  have hl := lv_entry ([.ref (A 0), .int x1]) (n := 2) (Nat.le_of_ble_eq_true rfl)
  rw [lg_entry_eq]
  generalize (lg_sl ([.ref (A 0), .int x1]) ++ List.replicate (2 - (lg_sl ([.ref (A 0), .int x1])).length) Slot.unset).toArray = ls at hl ⊢
  have hl : lv_has ls 2 [(0, .ref (A 0)), (1, .int x1)] := hl
  generalize hargs : ([.ref (A 0), .int x1] : List Value).toArray = args at hg hts ⊢
  obtain ⟨Q, hQ⟩ : ∃ Q, Q = MQ below (YQv K A ss) args s 0 0 (YF A) := ⟨_, rfl⟩
  rw [← hQ]
  have hRet : ∀ (σ : Sto), some σ = some ss → ∀ (H : Heap) (locs : List Loc), va_P K.1 vwCl (wY K A σ) H → va_D (YF A) (wY K A σ) → va_S (YF A) s.heap H locs → ∀ (pc : Nat) (ls : Array Slot), decode b_Mo_opn pc = .ok (.return_, 1) → W p l e (headSpec w_Mo_opn r_Mo_opn).room s m args below meth c H locs 0 0 Q (F0 m pc ls []) := by
    intro σ h H locs hP hD hS pc ls hd
    cases h
    subst hQ
    exact W.vret hx hb hr (fun t ht hW => ⟨⟨(), rfl, trivial, by rw [ht]; exact hP, RK.warm hW hK, hD⟩, hS.F ht⟩) hS.2.2 hd
  clear hQ
  unfold p_Mo_open at h
  refine lv_aload_n hx hb d_Mo_opn_0 rfl (lv_at hl 0 rfl) ?_
  refine gf_Mo_148 hx hb hg hown hK hP d_Mo_opn_1 ?_
  refine lv_bipush (v := 8) hx hb d_Mo_opn_4 (by decide) ?_
  refine lv_icmp_ne (tgt := 15) hx hb d_Mo_opn_6 (by decide) (fun c_6 => ?_) (fun c_6 => ?_)
  · replace h := itf c_6 h
    refine lv_aload_n hx hb d_Mo_opn_15 rfl (lv_at hl 0 rfl) ?_
    refine lv_dup hx hb d_Mo_opn_16 rfl ?_
    refine gf_Mo_135 hx hb hg hown hK hP d_Mo_opn_17 ?_
    refine lv_iconst (v := 1) hx hb d_Mo_opn_20 (by decide) ?_
    refine lv_iadd hx hb d_Mo_opn_21 ?_
    refine pf_Mo_135 hx hb hg hown hK hP hD hS d_Mo_opn_22 (fun H locs hP hD hS => ?_)
    refine lv_aload_n hx hb d_Mo_opn_25 rfl (lv_at hl 0 rfl) ?_
    refine gf_Mo_56 hx hb hg hown hK hP d_Mo_opn_26 ?_
    refine lv_aload_n hx hb d_Mo_opn_29 rfl (lv_at hl 0 rfl) ?_
    refine gf_Mo_148 hx hb hg hown hK hP d_Mo_opn_30 ?_
    refine lv_iload_n hx hb d_Mo_opn_33 rfl (lv_at hl 1 rfl) ?_
    refine lv_if_eq (tgt := 41) hx hb d_Mo_opn_34 (by decide) (fun c_34 => ?_) (fun c_34 => ?_)
    · replace h := itp c_34 h
      refine lv_iconst (v := 0) hx hb d_Mo_opn_41 (by decide) ?_
      obtain ⟨i_42, h⟩ := itn h
      refine Ywa_16 hx hb hK hP hD hS i_42 d_Mo_opn_42 (fun H locs hP hD hS => ?_)
      refine lv_aload_n hx hb d_Mo_opn_43 rfl (lv_at hl 0 rfl) ?_
      refine lv_dup hx hb d_Mo_opn_44 rfl ?_
      refine gf_Mo_148 hx hb hg hown hK hP d_Mo_opn_45 ?_
      refine lv_iconst (v := 1) hx hb d_Mo_opn_48 (by decide) ?_
      refine lv_iadd hx hb d_Mo_opn_49 ?_
      refine pf_Mo_148 hx hb hg hown hK hP hD hS d_Mo_opn_50 (fun H locs hP hD hS => ?_)
      exact hRet _ h _ _ hP hD hS _ _ d_Mo_opn_53
    · replace h := itf c_34 h
      refine lv_iconst (v := 1) hx hb d_Mo_opn_37 (by decide) ?_
      refine lv_goto (tgt := 42) hx hb d_Mo_opn_38 (by decide) ?_
      obtain ⟨i_42, h⟩ := itn h
      refine Ywa_16 hx hb hK hP hD hS i_42 d_Mo_opn_42 (fun H locs hP hD hS => ?_)
      refine lv_aload_n hx hb d_Mo_opn_43 rfl (lv_at hl 0 rfl) ?_
      refine lv_dup hx hb d_Mo_opn_44 rfl ?_
      refine gf_Mo_148 hx hb hg hown hK hP d_Mo_opn_45 ?_
      refine lv_iconst (v := 1) hx hb d_Mo_opn_48 (by decide) ?_
      refine lv_iadd hx hb d_Mo_opn_49 ?_
      refine pf_Mo_148 hx hb hg hown hK hP hD hS d_Mo_opn_50 (fun H locs hP hD hS => ?_)
      exact hRet _ h _ _ hP hD hS _ _ d_Mo_opn_53
  · replace h := itp c_6 h
    refine lv_aload_n hx hb d_Mo_opn_9 rfl (lv_at hl 0 rfl) ?_
    refine lv_iconst (v := 1) hx hb d_Mo_opn_10 (by decide) ?_
    refine pf_Mo_131 hx hb hg hown hK hP hD hS d_Mo_opn_11 rfl rfl (fun H locs hP hD hS => ?_)
    exact hRet _ h _ _ hP hD hS _ _ d_Mo_opn_14
def p_Mo_behindName_b24 (x1 : Int32) (x2 : Int32) (x3 : Int32) (σ : Sto) (s1 : Int32) : Option (Int32 × Sto) :=
  bd1 (p_Mo_name σ s1 x2 x3) fun σ_26 =>
    (if (σ_26.1 5) = 0 then
      bd1 (p_Mo_is σ_26 40) fun v_39 =>
      (if v_39 = 0 then
        some (0, σ_26)
      else
        bd1 (p_Mo_open σ_26 1) fun σ_49 =>
        (if (σ_49.1 5) = 0 then
          bd1 (p_Mo_is σ_49 41) fun v_64 =>
          (if v_64 = 0 then
            some (1, σ_49)
          else
            some (0, sS (sS σ_49 4 ((σ_49.1 4) + 1)) 7 (((sS σ_49 4 ((σ_49.1 4) + 1)).1 7) - 1)))
        else
          some (0, σ_49)))
    else
      some (0, σ_26))
def p_Mo_behindName (σ : Sto) (x1 : Int32) (x2 : Int32) (x3 : Int32) : Option (Int32 × Sto) :=
  if inR ((σ.1 4) + 1) 124 then (if (σ.2.1 3 (((σ.1 4) + 1).toNatClampNeg)) = 40 then
      p_Mo_behindName_b24 x1 x2 x3 σ (x1 + 1)
    else
      p_Mo_behindName_b24 x1 x2 x3 σ x1) else none
abbrev w_Mo_behindName : List Cond := Cond.code y_Mo_behindName b_Mo_behindName 4 (some .boolean) :: Tg
abbrev r_Mo_behindName : Room := { frames := 2, cells := 0, slots := 0, locals := 44 }
theorem dv_Mo_behindName : y_Mo_behindName.cls = "LanguageServerModel" ∧ y_Mo_behindName.cls ≠ "java/lang/invoke/MethodHandle" ∧ y_Mo_behindName.cls ≠ "java/lang/invoke/VarHandle" ∧ (parseMethodDescriptor y_Mo_behindName.desc).map (fun d => d.parameters.length) = some 3 := by decide +kernel
set_option maxHeartbeats 4000000 in
set_option maxRecDepth 100000 in
theorem c_Mo_behindName (l : Launch) (K : Kst) (A : Nat → Nat) {σ : Sto} {x1 : Int32} {x2 : Int32} {x3 : Int32} {rr : Int32} {ss : Sto} (h : p_Mo_behindName σ x1 x2 x3 = some (rr, ss)) : Met l y_Mo_behindName w_Mo_behindName r_Mo_behindName (va_Pc [.ref (A 0), .int x1, .int x2, .int x3] (YB K A σ)) (YQi K A rr ss) 0 0 (YF A) := by
  refine Met.ofW (cc := b_Mo_behindName) (maxL := 4) (ret := (some .boolean)) (by decide) rfl ?_
  intro p e s m args below meth c s₁ B hml hv
  obtain ⟨rfl, hP, hK, hD⟩ := hv
  have hx := B.exec
  have hb := B.bytes
  have hr := B.returns
  have hts := atoms_spec (ws := w_Mo_behindName) B.pre
  have hg : ∀ w ∈ Tg, w.before _ s = true := fun w q => hts w (List.mem_cons_of_mem _ q)
  have hown : s.vm.findClass "LanguageServerModel" = some m.cls := findClass_of_methodNamed B.named
  have hlocks := B.notSynchronized
  have hS : va_S (YF A) s.heap s.heap [] := va_S.rf
  have hl := lv_entry ([.ref (A 0), .int x1, .int x2, .int x3]) (n := 4) (Nat.le_of_ble_eq_true rfl)
  rw [lg_entry_eq]
  generalize (lg_sl ([.ref (A 0), .int x1, .int x2, .int x3]) ++ List.replicate (4 - (lg_sl ([.ref (A 0), .int x1, .int x2, .int x3])).length) Slot.unset).toArray = ls at hl ⊢
  have hl : lv_has ls 4 [(0, .ref (A 0)), (1, .int x1), (2, .int x2), (3, .int x3)] := hl
  generalize hargs : ([.ref (A 0), .int x1, .int x2, .int x3] : List Value).toArray = args at hg hts ⊢
  obtain ⟨Q, hQ⟩ : ∃ Q, Q = MQ below (YQi K A rr ss) args s 0 0 (YF A) := ⟨_, rfl⟩
  rw [← hQ]
  have hRet : ∀ (v : Int32) (σ : Sto), (narrow .boolean (.int v) = .int v) → some (v, σ) = some (rr, ss) → ∀ (H : Heap) (locs : List Loc), va_P K.1 vwCl (wY K A σ) H → va_D (YF A) (wY K A σ) → va_S (YF A) s.heap H locs → ∀ (pc : Nat) (ls : Array Slot), decode b_Mo_behindName pc = .ok (.ireturn, 1) → W p l e (headSpec w_Mo_behindName r_Mo_behindName).room s m args below meth c H locs 0 0 Q (F0 m pc ls [.int v]) := by
    intro v σ hn h H locs hP hD hS pc ls hd
    cases h
    subst hQ
    exact W.zret hx hb hr hn (fun t ht hW => ⟨⟨_, (), rfl, rfl, by rw [ht]; exact hP, RK.warm hW hK, hD⟩, hS.F ht⟩) hS.2.2 hd
  clear hQ
  unfold p_Mo_behindName at h
  have J_24 : ∀ (σ : Sto) (s1 : Int32), p_Mo_behindName_b24 x1 x2 x3 σ s1 = some (rr, ss) → ∀ (H : Heap) (locs : List Loc), va_P K.1 vwCl (wY K A σ) H → va_D (YF A) (wY K A σ) → va_S (YF A) s.heap H locs → ∀ ls : Array Slot, lv_has ls 4 [(0, .ref (A 0)), (2, .int x2), (3, .int x3)] → W p l e (headSpec w_Mo_behindName r_Mo_behindName).room s m args below meth c H locs 0 0 Q (F0 m 24 ls [.int s1, .ref (A 0)]) := by
    intro  σ s1 h H locs hP hD hS ls hl
    rw [p_Mo_behindName_b24] at h
    refine lv_iload_n hx hb d_Mo_behindName_24 rfl (lv_at hl 1 rfl) ?_
    refine lv_iload_n hx hb d_Mo_behindName_25 rfl (lv_at hl 2 rfl) ?_
    obtain ⟨σ_26, e_26, h⟩ := bd1_some h
    refine Y_callv (va_runV (As := [.int s1, .int x2, .int x3]) (rest := []) ⟨hx, hb, hml, hown, hts⟩ (c_Mo_name l K A e_26) (cwV 3 hts (gd_V wd_1076 wd_1078 wp_51 wd_10 wd_1079) rfl rfl rfl dv_Mo_name ⟨Nat.le_of_ble_eq_true rfl, Nat.le_of_ble_eq_true rfl⟩) (Y_pv_0 hK hP hD) rfl rfl hl.1 rfl (lv_room (Nat.le_of_ble_eq_true rfl)) d_Mo_behindName_26 ⟨Nat.le_of_ble_eq_true rfl, Nat.le_of_ble_eq_true rfl⟩) hS (fun H locs hP hD hS => ?_)
    refine lv_aload_n hx hb d_Mo_behindName_29 rfl (lv_at hl 0 rfl) ?_
    refine gf_Mo_131 hx hb hg hown hK hP d_Mo_behindName_30 ?_
    refine lv_if_ne (tgt := 45) hx hb d_Mo_behindName_33 (by decide) (fun c_33 => ?_) (fun c_33 => ?_)
    · replace h := itf c_33 h
      refine lv_iconst (v := 0) hx hb d_Mo_behindName_45 (by decide) ?_
      exact hRet _ _ rfl h _ _ hP hD hS _ _ d_Mo_behindName_46
    · replace h := itp c_33 h
      refine lv_aload_n hx hb d_Mo_behindName_36 rfl (lv_at hl 0 rfl) ?_
      refine lv_bipush (v := 40) hx hb d_Mo_behindName_37 (by decide) ?_
      obtain ⟨v_39, e_39, h⟩ := bd1_some h
      refine Y_calli (va_runV (As := [.int 40]) (rest := []) ⟨hx, hb, hml, hown, hts⟩ (c_Mo_is l K A e_39) (cwV 1 hts (gd_V wd_1072 wd_1074 wp_50 wd_10 wd_1075) rfl rfl rfl dv_Mo_is ⟨Nat.le_of_ble_eq_true rfl, Nat.le_of_ble_eq_true rfl⟩) (Y_pv_0 hK hP hD) rfl rfl hl.1 rfl (lv_room (Nat.le_of_ble_eq_true rfl)) d_Mo_behindName_39 ⟨Nat.le_of_ble_eq_true rfl, Nat.le_of_ble_eq_true rfl⟩) hS (fun H locs hP hD hS => ?_)
      refine lv_if_ne (tgt := 47) hx hb d_Mo_behindName_42 (by decide) (fun c_42 => ?_) (fun c_42 => ?_)
      · replace h := itf c_42 h
        refine lv_aload_n hx hb d_Mo_behindName_47 rfl (lv_at hl 0 rfl) ?_
        refine lv_iconst (v := 1) hx hb d_Mo_behindName_48 (by decide) ?_
        obtain ⟨σ_49, e_49, h⟩ := bd1_some h
        refine Y_callv (va_runV (As := [.int 1]) (rest := []) ⟨hx, hb, hml, hown, hts⟩ (c_Mo_opn l K A e_49) (cwV 1 hts (gd_V wd_1108 wd_1110 wp_59 wd_10 wd_1111) rfl rfl rfl dv_Mo_opn ⟨Nat.le_of_ble_eq_true rfl, Nat.le_of_ble_eq_true rfl⟩) (Y_pv_0 hK hP hD) rfl rfl hl.1 rfl (lv_room (Nat.le_of_ble_eq_true rfl)) d_Mo_behindName_49 ⟨Nat.le_of_ble_eq_true rfl, Nat.le_of_ble_eq_true rfl⟩) hS (fun H locs hP hD hS => ?_)
        refine lv_aload_n hx hb d_Mo_behindName_52 rfl (lv_at hl 0 rfl) ?_
        refine gf_Mo_131 hx hb hg hown hK hP d_Mo_behindName_53 ?_
        refine lv_if_eq (tgt := 61) hx hb d_Mo_behindName_56 (by decide) (fun c_56 => ?_) (fun c_56 => ?_)
        · replace h := itp c_56 h
          refine lv_aload_n hx hb d_Mo_behindName_61 rfl (lv_at hl 0 rfl) ?_
          refine lv_bipush (v := 41) hx hb d_Mo_behindName_62 (by decide) ?_
          obtain ⟨v_64, e_64, h⟩ := bd1_some h
          refine Y_calli (va_runV (As := [.int 41]) (rest := []) ⟨hx, hb, hml, hown, hts⟩ (c_Mo_is l K A e_64) (cwV 1 hts (gd_V wd_1072 wd_1074 wp_50 wd_10 wd_1075) rfl rfl rfl dv_Mo_is ⟨Nat.le_of_ble_eq_true rfl, Nat.le_of_ble_eq_true rfl⟩) (Y_pv_0 hK hP hD) rfl rfl hl.1 rfl (lv_room (Nat.le_of_ble_eq_true rfl)) d_Mo_behindName_64 ⟨Nat.le_of_ble_eq_true rfl, Nat.le_of_ble_eq_true rfl⟩) hS (fun H locs hP hD hS => ?_)
          refine lv_if_ne (tgt := 72) hx hb d_Mo_behindName_67 (by decide) (fun c_67 => ?_) (fun c_67 => ?_)
          · replace h := itf c_67 h
            refine lv_aload_n hx hb d_Mo_behindName_72 rfl (lv_at hl 0 rfl) ?_
            refine lv_dup hx hb d_Mo_behindName_73 rfl ?_
            refine gf_Mo_135 hx hb hg hown hK hP d_Mo_behindName_74 ?_
            refine lv_iconst (v := 1) hx hb d_Mo_behindName_77 (by decide) ?_
            refine lv_iadd hx hb d_Mo_behindName_78 ?_
            refine pf_Mo_135 hx hb hg hown hK hP hD hS d_Mo_behindName_79 (fun H locs hP hD hS => ?_)
            refine lv_aload_n hx hb d_Mo_behindName_82 rfl (lv_at hl 0 rfl) ?_
            refine lv_dup hx hb d_Mo_behindName_83 rfl ?_
            refine gf_Mo_148 hx hb hg hown hK hP d_Mo_behindName_84 ?_
            refine lv_iconst (v := 1) hx hb d_Mo_behindName_87 (by decide) ?_
            refine lv_isub hx hb d_Mo_behindName_88 ?_
            refine pf_Mo_148 hx hb hg hown hK hP hD hS d_Mo_behindName_89 (fun H locs hP hD hS => ?_)
            refine lv_iconst (v := 0) hx hb d_Mo_behindName_92 (by decide) ?_
            exact hRet _ _ rfl h _ _ hP hD hS _ _ d_Mo_behindName_93
          · replace h := itp c_67 h
            refine lv_iconst (v := 1) hx hb d_Mo_behindName_70 (by decide) ?_
            exact hRet _ _ rfl h _ _ hP hD hS _ _ d_Mo_behindName_71
        · replace h := itf c_56 h
          refine lv_iconst (v := 0) hx hb d_Mo_behindName_59 (by decide) ?_
          exact hRet _ _ rfl h _ _ hP hD hS _ _ d_Mo_behindName_60
      · replace h := itp c_42 h
        refine lv_iconst (v := 0) hx hb d_Mo_behindName_45 (by decide) ?_
        exact hRet _ _ rfl h _ _ hP hD hS _ _ d_Mo_behindName_46
  refine lv_aload_n hx hb d_Mo_behindName_0 rfl (lv_at hl 0 rfl) ?_
  refine lv_aload_n hx hb d_Mo_behindName_1 rfl (lv_at hl 0 rfl) ?_
  refine gf_Mo_16 hx hb hg hown hK hP d_Mo_behindName_2 ?_
  refine lv_aload_n hx hb d_Mo_behindName_5 rfl (lv_at hl 0 rfl) ?_
  refine gf_Mo_135 hx hb hg hown hK hP d_Mo_behindName_6 ?_
  refine lv_iconst (v := 1) hx hb d_Mo_behindName_9 (by decide) ?_
  refine lv_iadd hx hb d_Mo_behindName_10 ?_
  obtain ⟨i_11, h⟩ := itn h
  refine Yra_3 hx hb hK hP i_11 d_Mo_behindName_11 ?_
  refine lv_bipush (v := 40) hx hb d_Mo_behindName_12 (by decide) ?_
  refine lv_icmp_ne (tgt := 23) hx hb d_Mo_behindName_14 (by decide) (fun c_14 => ?_) (fun c_14 => ?_)
  · replace h := itf c_14 h
    refine lv_iload_n hx hb d_Mo_behindName_23 rfl (lv_at hl 1 rfl) ?_
    exact J_24  _ _ h _ _ hP hD hS ls (lv_sub hl [0, 2, 3] rfl)
  · replace h := itp c_14 h
    refine lv_iload_n hx hb d_Mo_behindName_17 rfl (lv_at hl 1 rfl) ?_
    refine lv_iconst (v := 1) hx hb d_Mo_behindName_18 (by decide) ?_
    refine lv_iadd hx hb d_Mo_behindName_19 ?_
    refine lv_goto (tgt := 24) hx hb d_Mo_behindName_20 (by decide) ?_
    exact J_24  _ _ h _ _ hP hD hS ls (lv_sub hl [0, 2, 3] rfl)
def p_Mo_operand (σ : Sto) (x1 : Int32) (x2 : Int32) : Option (Int32 × Sto) :=
  bd1 (p_Mo_is σ 1) fun v_2 =>
    (if v_2 = 0 then
      bd1 (p_Mo_is σ 40) fun v_20 =>
      (if v_20 = 0 then
        bd2 (p_Mo_take σ 7) fun v_36 σ_36 =>
        (if v_36 = 0 then
          bd2 (p_Mo_take σ_36 2) fun v_54 σ_54 =>
          (if v_54 = 0 then
            bd2 (p_Mo_take σ_54 8) fun v_63 σ_63 =>
            (if v_63 = 0 then
              some (0, sS σ_63 5 1)
            else
              some (0, σ_63))
          else
            some (0, σ_54))
        else
          bd1 (p_Mo_name σ_36 4 x1 x2) fun σ_46 =>
          some (0, σ_46))
      else
        bd1 (p_Mo_open σ 0) fun σ_28 =>
        some (1, σ_28))
    else
      bd2 (p_Mo_behindName σ 9 x1 x2) fun v_13 σ_13 =>
      if v_13 = 0 ∨ v_13 = 1 then some (v_13, σ_13) else none)
abbrev w_Mo_operand : List Cond := Cond.code y_Mo_operand b_Mo_operand 3 (some .boolean) :: Tg
abbrev r_Mo_operand : Room := { frames := 3, cells := 0, slots := 0, locals := 67 }
theorem dv_Mo_operand : y_Mo_operand.cls = "LanguageServerModel" ∧ y_Mo_operand.cls ≠ "java/lang/invoke/MethodHandle" ∧ y_Mo_operand.cls ≠ "java/lang/invoke/VarHandle" ∧ (parseMethodDescriptor y_Mo_operand.desc).map (fun d => d.parameters.length) = some 2 := by decide +kernel
set_option maxHeartbeats 4000000 in
set_option maxRecDepth 100000 in
theorem c_Mo_operand (l : Launch) (K : Kst) (A : Nat → Nat) {σ : Sto} {x1 : Int32} {x2 : Int32} {rr : Int32} {ss : Sto} (h : p_Mo_operand σ x1 x2 = some (rr, ss)) : Met l y_Mo_operand w_Mo_operand r_Mo_operand (va_Pc [.ref (A 0), .int x1, .int x2] (YB K A σ)) (YQi K A rr ss) 0 0 (YF A) := by
  refine Met.ofW (cc := b_Mo_operand) (maxL := 3) (ret := (some .boolean)) (by decide) rfl ?_
  intro p e s m args below meth c s₁ B hml hv
  obtain ⟨rfl, hP, hK, hD⟩ := hv
  have hx := B.exec
  have hb := B.bytes
  have hr := B.returns
  have hts := atoms_spec (ws := w_Mo_operand) B.pre
  have hg : ∀ w ∈ Tg, w.before _ s = true := fun w q => hts w (List.mem_cons_of_mem _ q)
  have hown : s.vm.findClass "LanguageServerModel" = some m.cls := findClass_of_methodNamed B.named
  have hlocks := B.notSynchronized
  have hS : va_S (YF A) s.heap s.heap [] := va_S.rf
  have hl := lv_entry ([.ref (A 0), .int x1, .int x2]) (n := 3) (Nat.le_of_ble_eq_true rfl)
  rw [lg_entry_eq]
  generalize (lg_sl ([.ref (A 0), .int x1, .int x2]) ++ List.replicate (3 - (lg_sl ([.ref (A 0), .int x1, .int x2])).length) Slot.unset).toArray = ls at hl ⊢
  have hl : lv_has ls 3 [(0, .ref (A 0)), (1, .int x1), (2, .int x2)] := hl
  generalize hargs : ([.ref (A 0), .int x1, .int x2] : List Value).toArray = args at hg hts ⊢
  obtain ⟨Q, hQ⟩ : ∃ Q, Q = MQ below (YQi K A rr ss) args s 0 0 (YF A) := ⟨_, rfl⟩
  rw [← hQ]
  have hRet : ∀ (v : Int32) (σ : Sto), (narrow .boolean (.int v) = .int v) → some (v, σ) = some (rr, ss) → ∀ (H : Heap) (locs : List Loc), va_P K.1 vwCl (wY K A σ) H → va_D (YF A) (wY K A σ) → va_S (YF A) s.heap H locs → ∀ (pc : Nat) (ls : Array Slot), decode b_Mo_operand pc = .ok (.ireturn, 1) → W p l e (headSpec w_Mo_operand r_Mo_operand).room s m args below meth c H locs 0 0 Q (F0 m pc ls [.int v]) := by
    intro v σ hn h H locs hP hD hS pc ls hd
    cases h
    subst hQ
    exact W.zret hx hb hr hn (fun t ht hW => ⟨⟨_, (), rfl, rfl, by rw [ht]; exact hP, RK.warm hW hK, hD⟩, hS.F ht⟩) hS.2.2 hd
  clear hQ
  unfold p_Mo_operand at h
  refine lv_aload_n hx hb d_Mo_operand_0 rfl (lv_at hl 0 rfl) ?_
  refine lv_iconst (v := 1) hx hb d_Mo_operand_1 (by decide) ?_
  obtain ⟨v_2, e_2, h⟩ := bd1_some h
  refine Y_calli (va_runV (As := [.int 1]) (rest := []) ⟨hx, hb, hml, hown, hts⟩ (c_Mo_is l K A e_2) (cwV 1 hts (gd_V wd_1072 wd_1074 wp_50 wd_10 wd_1075) rfl rfl rfl dv_Mo_is ⟨Nat.le_of_ble_eq_true rfl, Nat.le_of_ble_eq_true rfl⟩) (Y_pv_0 hK hP hD) rfl rfl hl.1 rfl (lv_room (Nat.le_of_ble_eq_true rfl)) d_Mo_operand_2 ⟨Nat.le_of_ble_eq_true rfl, Nat.le_of_ble_eq_true rfl⟩) hS (fun H locs hP hD hS => ?_)
  refine lv_if_eq (tgt := 17) hx hb d_Mo_operand_5 (by decide) (fun c_5 => ?_) (fun c_5 => ?_)
  · replace h := itp c_5 h
    refine lv_aload_n hx hb d_Mo_operand_17 rfl (lv_at hl 0 rfl) ?_
    refine lv_bipush (v := 40) hx hb d_Mo_operand_18 (by decide) ?_
    obtain ⟨v_20, e_20, h⟩ := bd1_some h
    refine Y_calli (va_runV (As := [.int 40]) (rest := []) ⟨hx, hb, hml, hown, hts⟩ (c_Mo_is l K A e_20) (cwV 1 hts (gd_V wd_1072 wd_1074 wp_50 wd_10 wd_1075) rfl rfl rfl dv_Mo_is ⟨Nat.le_of_ble_eq_true rfl, Nat.le_of_ble_eq_true rfl⟩) (Y_pv_0 hK hP hD) rfl rfl hl.1 rfl (lv_room (Nat.le_of_ble_eq_true rfl)) d_Mo_operand_20 ⟨Nat.le_of_ble_eq_true rfl, Nat.le_of_ble_eq_true rfl⟩) hS (fun H locs hP hD hS => ?_)
    refine lv_if_eq (tgt := 33) hx hb d_Mo_operand_23 (by decide) (fun c_23 => ?_) (fun c_23 => ?_)
    · replace h := itp c_23 h
      refine lv_aload_n hx hb d_Mo_operand_33 rfl (lv_at hl 0 rfl) ?_
      refine lv_bipush (v := 7) hx hb d_Mo_operand_34 (by decide) ?_
      obtain ⟨v_36, σ_36, e_36, h⟩ := bd2_some h
      refine Y_calli (va_runV (As := [.int 7]) (rest := []) ⟨hx, hb, hml, hown, hts⟩ (c_Mo_take l K A e_36) (cwV 1 hts (gd_V wd_1068 wd_1070 wp_49 wd_10 wd_1071) rfl rfl rfl dv_Mo_take ⟨Nat.le_of_ble_eq_true rfl, Nat.le_of_ble_eq_true rfl⟩) (Y_pv_0 hK hP hD) rfl rfl hl.1 rfl (lv_room (Nat.le_of_ble_eq_true rfl)) d_Mo_operand_36 ⟨Nat.le_of_ble_eq_true rfl, Nat.le_of_ble_eq_true rfl⟩) hS (fun H locs hP hD hS => ?_)
      refine lv_if_eq (tgt := 52) hx hb d_Mo_operand_39 (by decide) (fun c_39 => ?_) (fun c_39 => ?_)
      · replace h := itp c_39 h
        refine lv_aload_n hx hb d_Mo_operand_52 rfl (lv_at hl 0 rfl) ?_
        refine lv_iconst (v := 2) hx hb d_Mo_operand_53 (by decide) ?_
        obtain ⟨v_54, σ_54, e_54, h⟩ := bd2_some h
        refine Y_calli (va_runV (As := [.int 2]) (rest := []) ⟨hx, hb, hml, hown, hts⟩ (c_Mo_take l K A e_54) (cwV 1 hts (gd_V wd_1068 wd_1070 wp_49 wd_10 wd_1071) rfl rfl rfl dv_Mo_take ⟨Nat.le_of_ble_eq_true rfl, Nat.le_of_ble_eq_true rfl⟩) (Y_pv_0 hK hP hD) rfl rfl hl.1 rfl (lv_room (Nat.le_of_ble_eq_true rfl)) d_Mo_operand_54 ⟨Nat.le_of_ble_eq_true rfl, Nat.le_of_ble_eq_true rfl⟩) hS (fun H locs hP hD hS => ?_)
        refine lv_if_ne (tgt := 74) hx hb d_Mo_operand_57 (by decide) (fun c_57 => ?_) (fun c_57 => ?_)
        · replace h := itf c_57 h
          refine lv_iconst (v := 0) hx hb d_Mo_operand_74 (by decide) ?_
          exact hRet _ _ rfl h _ _ hP hD hS _ _ d_Mo_operand_75
        · replace h := itp c_57 h
          refine lv_aload_n hx hb d_Mo_operand_60 rfl (lv_at hl 0 rfl) ?_
          refine lv_bipush (v := 8) hx hb d_Mo_operand_61 (by decide) ?_
          obtain ⟨v_63, σ_63, e_63, h⟩ := bd2_some h
          refine Y_calli (va_runV (As := [.int 8]) (rest := []) ⟨hx, hb, hml, hown, hts⟩ (c_Mo_take l K A e_63) (cwV 1 hts (gd_V wd_1068 wd_1070 wp_49 wd_10 wd_1071) rfl rfl rfl dv_Mo_take ⟨Nat.le_of_ble_eq_true rfl, Nat.le_of_ble_eq_true rfl⟩) (Y_pv_0 hK hP hD) rfl rfl hl.1 rfl (lv_room (Nat.le_of_ble_eq_true rfl)) d_Mo_operand_63 ⟨Nat.le_of_ble_eq_true rfl, Nat.le_of_ble_eq_true rfl⟩) hS (fun H locs hP hD hS => ?_)
          refine lv_if_ne (tgt := 74) hx hb d_Mo_operand_66 (by decide) (fun c_66 => ?_) (fun c_66 => ?_)
          · replace h := itf c_66 h
            refine lv_iconst (v := 0) hx hb d_Mo_operand_74 (by decide) ?_
            exact hRet _ _ rfl h _ _ hP hD hS _ _ d_Mo_operand_75
          · replace h := itp c_66 h
            refine lv_aload_n hx hb d_Mo_operand_69 rfl (lv_at hl 0 rfl) ?_
            refine lv_iconst (v := 1) hx hb d_Mo_operand_70 (by decide) ?_
            refine pf_Mo_131 hx hb hg hown hK hP hD hS d_Mo_operand_71 rfl rfl (fun H locs hP hD hS => ?_)
            refine lv_iconst (v := 0) hx hb d_Mo_operand_74 (by decide) ?_
            exact hRet _ _ rfl h _ _ hP hD hS _ _ d_Mo_operand_75
      · replace h := itf c_39 h
        refine lv_aload_n hx hb d_Mo_operand_42 rfl (lv_at hl 0 rfl) ?_
        refine lv_iconst (v := 4) hx hb d_Mo_operand_43 (by decide) ?_
        refine lv_iload_n hx hb d_Mo_operand_44 rfl (lv_at hl 1 rfl) ?_
        refine lv_iload_n hx hb d_Mo_operand_45 rfl (lv_at hl 2 rfl) ?_
        obtain ⟨σ_46, e_46, h⟩ := bd1_some h
        refine Y_callv (va_runV (As := [.int 4, .int x1, .int x2]) (rest := []) ⟨hx, hb, hml, hown, hts⟩ (c_Mo_name l K A e_46) (cwV 3 hts (gd_V wd_1076 wd_1078 wp_51 wd_10 wd_1079) rfl rfl rfl dv_Mo_name ⟨Nat.le_of_ble_eq_true rfl, Nat.le_of_ble_eq_true rfl⟩) (Y_pv_0 hK hP hD) rfl rfl hl.1 rfl (lv_room (Nat.le_of_ble_eq_true rfl)) d_Mo_operand_46 ⟨Nat.le_of_ble_eq_true rfl, Nat.le_of_ble_eq_true rfl⟩) hS (fun H locs hP hD hS => ?_)
        refine lv_goto (tgt := 74) hx hb d_Mo_operand_49 (by decide) ?_
        refine lv_iconst (v := 0) hx hb d_Mo_operand_74 (by decide) ?_
        exact hRet _ _ rfl h _ _ hP hD hS _ _ d_Mo_operand_75
    · replace h := itf c_23 h
      refine lv_aload_n hx hb d_Mo_operand_26 rfl (lv_at hl 0 rfl) ?_
      refine lv_iconst (v := 0) hx hb d_Mo_operand_27 (by decide) ?_
      obtain ⟨σ_28, e_28, h⟩ := bd1_some h
      refine Y_callv (va_runV (As := [.int 0]) (rest := []) ⟨hx, hb, hml, hown, hts⟩ (c_Mo_opn l K A e_28) (cwV 1 hts (gd_V wd_1108 wd_1110 wp_59 wd_10 wd_1111) rfl rfl rfl dv_Mo_opn ⟨Nat.le_of_ble_eq_true rfl, Nat.le_of_ble_eq_true rfl⟩) (Y_pv_0 hK hP hD) rfl rfl hl.1 rfl (lv_room (Nat.le_of_ble_eq_true rfl)) d_Mo_operand_28 ⟨Nat.le_of_ble_eq_true rfl, Nat.le_of_ble_eq_true rfl⟩) hS (fun H locs hP hD hS => ?_)
      refine lv_iconst (v := 1) hx hb d_Mo_operand_31 (by decide) ?_
      exact hRet _ _ rfl h _ _ hP hD hS _ _ d_Mo_operand_32
  · replace h := itf c_5 h
    refine lv_aload_n hx hb d_Mo_operand_8 rfl (lv_at hl 0 rfl) ?_
    refine lv_bipush (v := 9) hx hb d_Mo_operand_9 (by decide) ?_
    refine lv_iload_n hx hb d_Mo_operand_11 rfl (lv_at hl 1 rfl) ?_
    refine lv_iload_n hx hb d_Mo_operand_12 rfl (lv_at hl 2 rfl) ?_
    obtain ⟨v_13, σ_13, e_13, h⟩ := bd2_some h
    refine Y_calli (va_runV (As := [.int 9, .int x1, .int x2]) (rest := []) ⟨hx, hb, hml, hown, hts⟩ (c_Mo_behindName l K A e_13) (cwV 3 hts (gd_V wd_1104 wd_1106 wp_58 wd_10 wd_1107) rfl rfl rfl dv_Mo_behindName ⟨Nat.le_of_ble_eq_true rfl, Nat.le_of_ble_eq_true rfl⟩) (Y_pv_0 hK hP hD) rfl rfl hl.1 rfl (lv_room (Nat.le_of_ble_eq_true rfl)) d_Mo_operand_13 ⟨Nat.le_of_ble_eq_true rfl, Nat.le_of_ble_eq_true rfl⟩) hS (fun H locs hP hD hS => ?_)
    obtain ⟨b_ret, h⟩ := itn h
    exact hRet _ _ (nb_of b_ret) h _ _ hP hD hS _ _ d_Mo_operand_16
def p_Mo_expression_b107 (x1 : Int32) (x2 : Int32) (k10 : Sto → Int32 → Int32 → Option Sto) (σ : Sto) (x3 : Int32) (x4 : Int32) : Option Sto :=
  (if (σ.1 7) ≤ 0 then
      k10 σ x3 0
    else
      bd1 (p_Mo_need σ 41) fun σ_117 =>
      k10 (sS σ_117 7 ((σ_117.1 7) - 1)) x3 x4)
def p_Mo_expression_L10 (x1 : Int32) (x2 : Int32) : Nat → Sto → Int32 → Int32 → Option Sto
  | 0, _, _, _ => none
  | n + 1, σ, x3, x4 =>
    (if x4 = 0 then
        some σ
      else
        (if (σ.1 5) = 0 then
          (if x3 = 0 then
            bd2 (p_Mo_take σ 46) fun v_39 σ_39 =>
            (if v_39 = 0 then
              bd2 (p_Mo_take σ_39 43) fun v_60 σ_60 =>
              (if v_60 = 0 then
                (if (σ_60.1 7) ≤ 0 then
                  p_Mo_expression_b107 x1 x2 (p_Mo_expression_L10 x1 x2 n) σ_60 x3 x4
                else
                  if inR ((σ_60.1 7) - 1) 10 then (if (σ_60.2.1 16 (((σ_60.1 7) - 1).toNatClampNeg)) = 1 then
                    bd2 (p_Mo_take σ_60 44) fun v_96 σ_96 =>
                    (if v_96 = 0 then
                      p_Mo_expression_b107 x1 x2 (p_Mo_expression_L10 x1 x2 n) σ_96 x3 x4
                    else
                      p_Mo_expression_L10 x1 x2 n σ_96 1 x4)
                  else
                    p_Mo_expression_b107 x1 x2 (p_Mo_expression_L10 x1 x2 n) σ_60 x3 x4) else none)
              else
                p_Mo_expression_L10 x1 x2 n σ_60 1 x4)
            else
              bd2 (p_Mo_behindName σ_39 11 x1 x2) fun v_50 σ_50 =>
              p_Mo_expression_L10 x1 x2 n σ_50 v_50 x4)
          else
            bd2 (p_Mo_operand σ x1 x2) fun v_29 σ_29 =>
            p_Mo_expression_L10 x1 x2 n σ_29 v_29 x4)
        else
          some σ))
def p_Mo_expression (σ : Sto) (x1 : Int32) (x2 : Int32) : Option Sto :=
  p_Mo_expression_L10 x1 x2 FU (sS σ 7 0) 1 1
abbrev w_Mo_expression : List Cond := Cond.code y_Mo_expression b_Mo_expression 5 none :: Tg
abbrev r_Mo_expression : Room := { frames := 4, cells := 0, slots := 0, locals := 89 }
theorem dv_Mo_expression : y_Mo_expression.cls = "LanguageServerModel" ∧ y_Mo_expression.cls ≠ "java/lang/invoke/MethodHandle" ∧ y_Mo_expression.cls ≠ "java/lang/invoke/VarHandle" ∧ (parseMethodDescriptor y_Mo_expression.desc).map (fun d => d.parameters.length) = some 2 := by decide +kernel
set_option maxHeartbeats 4000000 in
set_option maxRecDepth 100000 in
theorem c_Mo_expression (l : Launch) (K : Kst) (A : Nat → Nat) {σ : Sto} {x1 : Int32} {x2 : Int32} {ss : Sto} (h : p_Mo_expression σ x1 x2 = some ss) : Met l y_Mo_expression w_Mo_expression r_Mo_expression (va_Pc [.ref (A 0), .int x1, .int x2] (YB K A σ)) (YQv K A ss) 0 0 (YF A) := by
  refine Met.ofW (cc := b_Mo_expression) (maxL := 5) (ret := none) (by decide) rfl ?_
  intro p e s m args below meth c s₁ B hml hv
  obtain ⟨rfl, hP, hK, hD⟩ := hv
  have hx := B.exec
  have hb := B.bytes
  have hr := B.returns
  have hts := atoms_spec (ws := w_Mo_expression) B.pre
  have hg : ∀ w ∈ Tg, w.before _ s = true := fun w q => hts w (List.mem_cons_of_mem _ q)
  have hown : s.vm.findClass "LanguageServerModel" = some m.cls := findClass_of_methodNamed B.named
  have hlocks := B.notSynchronized
  have hS : va_S (YF A) s.heap s.heap [] := va_S.rf
  have hl := lv_entry ([.ref (A 0), .int x1, .int x2]) (n := 5) (Nat.le_of_ble_eq_true rfl)
  rw [lg_entry_eq]
  generalize (lg_sl ([.ref (A 0), .int x1, .int x2]) ++ List.replicate (5 - (lg_sl ([.ref (A 0), .int x1, .int x2])).length) Slot.unset).toArray = ls at hl ⊢
  have hl : lv_has ls 5 [(0, .ref (A 0)), (1, .int x1), (2, .int x2)] := hl
  generalize hargs : ([.ref (A 0), .int x1, .int x2] : List Value).toArray = args at hg hts ⊢
  obtain ⟨Q, hQ⟩ : ∃ Q, Q = MQ below (YQv K A ss) args s 0 0 (YF A) := ⟨_, rfl⟩
  rw [← hQ]
  have hRet : ∀ (σ : Sto), some σ = some ss → ∀ (H : Heap) (locs : List Loc), va_P K.1 vwCl (wY K A σ) H → va_D (YF A) (wY K A σ) → va_S (YF A) s.heap H locs → ∀ (pc : Nat) (ls : Array Slot), decode b_Mo_expression pc = .ok (.return_, 1) → W p l e (headSpec w_Mo_expression r_Mo_expression).room s m args below meth c H locs 0 0 Q (F0 m pc ls []) := by
    intro σ h H locs hP hD hS pc ls hd
    cases h
    subst hQ
    exact W.vret hx hb hr (fun t ht hW => ⟨⟨(), rfl, trivial, by rw [ht]; exact hP, RK.warm hW hK, hD⟩, hS.F ht⟩) hS.2.2 hd
  clear hQ
  unfold p_Mo_expression at h
  have J_107 : ∀ (k10 : Sto → Int32 → Int32 → Option Sto) (hk10 : ∀ (σ : Sto) (x3 : Int32) (x4 : Int32), k10 σ x3 x4 = some ss → ∀ (H : Heap) (locs : List Loc), va_P K.1 vwCl (wY K A σ) H → va_D (YF A) (wY K A σ) → va_S (YF A) s.heap H locs → ∀ ls : Array Slot, lv_has ls 5 [(0, .ref (A 0)), (1, .int x1), (2, .int x2), (3, .int x3), (4, .int x4)] → W p l e (headSpec w_Mo_expression r_Mo_expression).room s m args below meth c H locs 0 0 Q (F0 m 10 ls [])) (σ : Sto) (x3 : Int32) (x4 : Int32), p_Mo_expression_b107 x1 x2 k10 σ x3 x4 = some ss → ∀ (H : Heap) (locs : List Loc), va_P K.1 vwCl (wY K A σ) H → va_D (YF A) (wY K A σ) → va_S (YF A) s.heap H locs → ∀ ls : Array Slot, lv_has ls 5 [(0, .ref (A 0)), (1, .int x1), (2, .int x2), (3, .int x3), (4, .int x4)] → W p l e (headSpec w_Mo_expression r_Mo_expression).room s m args below meth c H locs 0 0 Q (F0 m 107 ls []) := by
    intro k10 hk10 σ x3 x4 h H locs hP hD hS ls hl
    rw [p_Mo_expression_b107] at h
    refine lv_aload_n hx hb d_Mo_expression_107 rfl (lv_at hl 0 rfl) ?_
    refine gf_Mo_148 hx hb hg hown hK hP d_Mo_expression_108 ?_
    refine lv_if_le (tgt := 133) hx hb d_Mo_expression_111 (by decide) (fun c_111 => ?_) (fun c_111 => ?_)
    · replace h := itp c_111 h
      refine lv_iconst (v := 0) hx hb d_Mo_expression_133 (by decide) ?_
      refine lv_istore (lv' := [(4, .int 0), (0, .ref (A 0)), (1, .int x1), (2, .int x2), (3, .int x3)]) hx hb d_Mo_expression_134 hl (by decide) rfl (fun ls hl => ?_)
      refine lv_goto (tgt := 10) hx hb d_Mo_expression_136 (by decide) ?_
      exact hk10 _ _ _ h _ _ hP hD hS ls (lv_sub hl [1, 2, 3, 4, 0] rfl)
    · replace h := itf c_111 h
      refine lv_aload_n hx hb d_Mo_expression_114 rfl (lv_at hl 0 rfl) ?_
      refine lv_bipush (v := 41) hx hb d_Mo_expression_115 (by decide) ?_
      obtain ⟨σ_117, e_117, h⟩ := bd1_some h
      refine Y_callv (va_runV (As := [.int 41]) (rest := []) ⟨hx, hb, hml, hown, hts⟩ (c_Mo_need l K A e_117) (cwV 1 hts (gd_V wd_1064 wd_1066 wp_48 wd_10 wd_1067) rfl rfl rfl dv_Mo_need ⟨Nat.le_of_ble_eq_true rfl, Nat.le_of_ble_eq_true rfl⟩) (Y_pv_0 hK hP hD) rfl rfl hl.1 rfl (lv_room (Nat.le_of_ble_eq_true rfl)) d_Mo_expression_117 ⟨Nat.le_of_ble_eq_true rfl, Nat.le_of_ble_eq_true rfl⟩) hS (fun H locs hP hD hS => ?_)
      refine lv_aload_n hx hb d_Mo_expression_120 rfl (lv_at hl 0 rfl) ?_
      refine lv_dup hx hb d_Mo_expression_121 rfl ?_
      refine gf_Mo_148 hx hb hg hown hK hP d_Mo_expression_122 ?_
      refine lv_iconst (v := 1) hx hb d_Mo_expression_125 (by decide) ?_
      refine lv_isub hx hb d_Mo_expression_126 ?_
      refine pf_Mo_148 hx hb hg hown hK hP hD hS d_Mo_expression_127 (fun H locs hP hD hS => ?_)
      refine lv_goto (tgt := 10) hx hb d_Mo_expression_130 (by decide) ?_
      exact hk10 _ _ _ h _ _ hP hD hS ls (lv_sub hl [0, 1, 2, 3, 4] rfl)
  have L_10 : ∀ (n : Nat) (σ : Sto) (x3 : Int32) (x4 : Int32), p_Mo_expression_L10 x1 x2 n σ x3 x4 = some ss → ∀ (H : Heap) (locs : List Loc), va_P K.1 vwCl (wY K A σ) H → va_D (YF A) (wY K A σ) → va_S (YF A) s.heap H locs → ∀ ls : Array Slot, lv_has ls 5 [(0, .ref (A 0)), (1, .int x1), (2, .int x2), (3, .int x3), (4, .int x4)] → W p l e (headSpec w_Mo_expression r_Mo_expression).room s m args below meth c H locs 0 0 Q (F0 m 10 ls []) := by
    intro n
    induction n with
    | zero => intro _ _ _ h; cases h
    | succ n ih =>
      intro σ x3 x4 h H locs hP hD hS ls hl
      rw [p_Mo_expression_L10] at h
      refine lv_iload hx hb d_Mo_expression_10 (lv_at hl 4 rfl) ?_
      refine lv_if_eq (tgt := 139) hx hb d_Mo_expression_12 (by decide) (fun c_12 => ?_) (fun c_12 => ?_)
      · replace h := itp c_12 h
        exact hRet _ h _ _ hP hD hS _ _ d_Mo_expression_139
      · replace h := itf c_12 h
        refine lv_aload_n hx hb d_Mo_expression_15 rfl (lv_at hl 0 rfl) ?_
        refine gf_Mo_131 hx hb hg hown hK hP d_Mo_expression_16 ?_
        refine lv_if_ne (tgt := 139) hx hb d_Mo_expression_19 (by decide) (fun c_19 => ?_) (fun c_19 => ?_)
        · replace h := itf c_19 h
          exact hRet _ h _ _ hP hD hS _ _ d_Mo_expression_139
        · replace h := itp c_19 h
          refine lv_iload_n hx hb d_Mo_expression_22 rfl (lv_at hl 3 rfl) ?_
          refine lv_if_eq (tgt := 36) hx hb d_Mo_expression_23 (by decide) (fun c_23 => ?_) (fun c_23 => ?_)
          · replace h := itp c_23 h
            refine lv_aload_n hx hb d_Mo_expression_36 rfl (lv_at hl 0 rfl) ?_
            refine lv_bipush (v := 46) hx hb d_Mo_expression_37 (by decide) ?_
            obtain ⟨v_39, σ_39, e_39, h⟩ := bd2_some h
            refine Y_calli (va_runV (As := [.int 46]) (rest := []) ⟨hx, hb, hml, hown, hts⟩ (c_Mo_take l K A e_39) (cwV 1 hts (gd_V wd_1068 wd_1070 wp_49 wd_10 wd_1071) rfl rfl rfl dv_Mo_take ⟨Nat.le_of_ble_eq_true rfl, Nat.le_of_ble_eq_true rfl⟩) (Y_pv_0 hK hP hD) rfl rfl hl.1 rfl (lv_room (Nat.le_of_ble_eq_true rfl)) d_Mo_expression_39 ⟨Nat.le_of_ble_eq_true rfl, Nat.le_of_ble_eq_true rfl⟩) hS (fun H locs hP hD hS => ?_)
            refine lv_if_eq (tgt := 57) hx hb d_Mo_expression_42 (by decide) (fun c_42 => ?_) (fun c_42 => ?_)
            · replace h := itp c_42 h
              refine lv_aload_n hx hb d_Mo_expression_57 rfl (lv_at hl 0 rfl) ?_
              refine lv_bipush (v := 43) hx hb d_Mo_expression_58 (by decide) ?_
              obtain ⟨v_60, σ_60, e_60, h⟩ := bd2_some h
              refine Y_calli (va_runV (As := [.int 43]) (rest := []) ⟨hx, hb, hml, hown, hts⟩ (c_Mo_take l K A e_60) (cwV 1 hts (gd_V wd_1068 wd_1070 wp_49 wd_10 wd_1071) rfl rfl rfl dv_Mo_take ⟨Nat.le_of_ble_eq_true rfl, Nat.le_of_ble_eq_true rfl⟩) (Y_pv_0 hK hP hD) rfl rfl hl.1 rfl (lv_room (Nat.le_of_ble_eq_true rfl)) d_Mo_expression_60 ⟨Nat.le_of_ble_eq_true rfl, Nat.le_of_ble_eq_true rfl⟩) hS (fun H locs hP hD hS => ?_)
              refine lv_if_eq (tgt := 71) hx hb d_Mo_expression_63 (by decide) (fun c_63 => ?_) (fun c_63 => ?_)
              · replace h := itp c_63 h
                refine lv_aload_n hx hb d_Mo_expression_71 rfl (lv_at hl 0 rfl) ?_
                refine gf_Mo_148 hx hb hg hown hK hP d_Mo_expression_72 ?_
                refine lv_if_le (tgt := 107) hx hb d_Mo_expression_75 (by decide) (fun c_75 => ?_) (fun c_75 => ?_)
                · replace h := itp c_75 h
                  exact J_107 _ ih _ _ _ h _ _ hP hD hS ls (lv_sub hl [0, 1, 2, 3, 4] rfl)
                · replace h := itf c_75 h
                  refine lv_aload_n hx hb d_Mo_expression_78 rfl (lv_at hl 0 rfl) ?_
                  refine gf_Mo_56 hx hb hg hown hK hP d_Mo_expression_79 ?_
                  refine lv_aload_n hx hb d_Mo_expression_82 rfl (lv_at hl 0 rfl) ?_
                  refine gf_Mo_148 hx hb hg hown hK hP d_Mo_expression_83 ?_
                  refine lv_iconst (v := 1) hx hb d_Mo_expression_86 (by decide) ?_
                  refine lv_isub hx hb d_Mo_expression_87 ?_
                  obtain ⟨i_88, h⟩ := itn h
                  refine Yra_16 hx hb hK hP i_88 d_Mo_expression_88 ?_
                  refine lv_iconst (v := 1) hx hb d_Mo_expression_89 (by decide) ?_
                  refine lv_icmp_ne (tgt := 107) hx hb d_Mo_expression_90 (by decide) (fun c_90 => ?_) (fun c_90 => ?_)
                  · replace h := itf c_90 h
                    exact J_107 _ ih _ _ _ h _ _ hP hD hS ls (lv_sub hl [0, 1, 2, 3, 4] rfl)
                  · replace h := itp c_90 h
                    refine lv_aload_n hx hb d_Mo_expression_93 rfl (lv_at hl 0 rfl) ?_
                    refine lv_bipush (v := 44) hx hb d_Mo_expression_94 (by decide) ?_
                    obtain ⟨v_96, σ_96, e_96, h⟩ := bd2_some h
                    refine Y_calli (va_runV (As := [.int 44]) (rest := []) ⟨hx, hb, hml, hown, hts⟩ (c_Mo_take l K A e_96) (cwV 1 hts (gd_V wd_1068 wd_1070 wp_49 wd_10 wd_1071) rfl rfl rfl dv_Mo_take ⟨Nat.le_of_ble_eq_true rfl, Nat.le_of_ble_eq_true rfl⟩) (Y_pv_0 hK hP hD) rfl rfl hl.1 rfl (lv_room (Nat.le_of_ble_eq_true rfl)) d_Mo_expression_96 ⟨Nat.le_of_ble_eq_true rfl, Nat.le_of_ble_eq_true rfl⟩) hS (fun H locs hP hD hS => ?_)
                    refine lv_if_eq (tgt := 107) hx hb d_Mo_expression_99 (by decide) (fun c_99 => ?_) (fun c_99 => ?_)
                    · replace h := itp c_99 h
                      exact J_107 _ ih _ _ _ h _ _ hP hD hS ls (lv_sub hl [0, 1, 2, 3, 4] rfl)
                    · replace h := itf c_99 h
                      refine lv_iconst (v := 1) hx hb d_Mo_expression_102 (by decide) ?_
                      refine lv_istore_n (lv' := [(3, .int 1), (0, .ref (A 0)), (1, .int x1), (2, .int x2), (4, .int x4)]) hx hb d_Mo_expression_103 rfl hl (by decide) rfl (fun ls hl => ?_)
                      refine lv_goto (tgt := 10) hx hb d_Mo_expression_104 (by decide) ?_
                      exact ih _ _ _ h _ _ hP hD hS ls (lv_sub hl [1, 2, 3, 0, 4] rfl)
              · replace h := itf c_63 h
                refine lv_iconst (v := 1) hx hb d_Mo_expression_66 (by decide) ?_
                refine lv_istore_n (lv' := [(3, .int 1), (0, .ref (A 0)), (1, .int x1), (2, .int x2), (4, .int x4)]) hx hb d_Mo_expression_67 rfl hl (by decide) rfl (fun ls hl => ?_)
                refine lv_goto (tgt := 10) hx hb d_Mo_expression_68 (by decide) ?_
                exact ih _ _ _ h _ _ hP hD hS ls (lv_sub hl [1, 2, 3, 0, 4] rfl)
            · replace h := itf c_42 h
              refine lv_aload_n hx hb d_Mo_expression_45 rfl (lv_at hl 0 rfl) ?_
              refine lv_bipush (v := 11) hx hb d_Mo_expression_46 (by decide) ?_
              refine lv_iload_n hx hb d_Mo_expression_48 rfl (lv_at hl 1 rfl) ?_
              refine lv_iload_n hx hb d_Mo_expression_49 rfl (lv_at hl 2 rfl) ?_
              obtain ⟨v_50, σ_50, e_50, h⟩ := bd2_some h
              refine Y_calli (va_runV (As := [.int 11, .int x1, .int x2]) (rest := []) ⟨hx, hb, hml, hown, hts⟩ (c_Mo_behindName l K A e_50) (cwV 3 hts (gd_V wd_1104 wd_1106 wp_58 wd_10 wd_1107) rfl rfl rfl dv_Mo_behindName ⟨Nat.le_of_ble_eq_true rfl, Nat.le_of_ble_eq_true rfl⟩) (Y_pv_0 hK hP hD) rfl rfl hl.1 rfl (lv_room (Nat.le_of_ble_eq_true rfl)) d_Mo_expression_50 ⟨Nat.le_of_ble_eq_true rfl, Nat.le_of_ble_eq_true rfl⟩) hS (fun H locs hP hD hS => ?_)
              refine lv_istore_n (lv' := [(3, .int v_50), (0, .ref (A 0)), (1, .int x1), (2, .int x2), (4, .int x4)]) hx hb d_Mo_expression_53 rfl hl (by decide) rfl (fun ls hl => ?_)
              refine lv_goto (tgt := 10) hx hb d_Mo_expression_54 (by decide) ?_
              exact ih _ _ _ h _ _ hP hD hS ls (lv_sub hl [1, 2, 3, 0, 4] rfl)
          · replace h := itf c_23 h
            refine lv_aload_n hx hb d_Mo_expression_26 rfl (lv_at hl 0 rfl) ?_
            refine lv_iload_n hx hb d_Mo_expression_27 rfl (lv_at hl 1 rfl) ?_
            refine lv_iload_n hx hb d_Mo_expression_28 rfl (lv_at hl 2 rfl) ?_
            obtain ⟨v_29, σ_29, e_29, h⟩ := bd2_some h
            refine Y_calli (va_runV (As := [.int x1, .int x2]) (rest := []) ⟨hx, hb, hml, hown, hts⟩ (c_Mo_operand l K A e_29) (cwV 2 hts (gd_V wd_1100 wd_1102 wp_57 wd_10 wd_1103) rfl rfl rfl dv_Mo_operand ⟨Nat.le_of_ble_eq_true rfl, Nat.le_of_ble_eq_true rfl⟩) (Y_pv_0 hK hP hD) rfl rfl hl.1 rfl (lv_room (Nat.le_of_ble_eq_true rfl)) d_Mo_expression_29 ⟨Nat.le_of_ble_eq_true rfl, Nat.le_of_ble_eq_true rfl⟩) hS (fun H locs hP hD hS => ?_)
            refine lv_istore_n (lv' := [(3, .int v_29), (0, .ref (A 0)), (1, .int x1), (2, .int x2), (4, .int x4)]) hx hb d_Mo_expression_32 rfl hl (by decide) rfl (fun ls hl => ?_)
            refine lv_goto (tgt := 10) hx hb d_Mo_expression_33 (by decide) ?_
            exact ih _ _ _ h _ _ hP hD hS ls (lv_sub hl [1, 2, 3, 0, 4] rfl)
  refine lv_aload_n hx hb d_Mo_expression_0 rfl (lv_at hl 0 rfl) ?_
  refine lv_iconst (v := 0) hx hb d_Mo_expression_1 (by decide) ?_
  refine pf_Mo_148 hx hb hg hown hK hP hD hS d_Mo_expression_2 (fun H locs hP hD hS => ?_)
  refine lv_iconst (v := 1) hx hb d_Mo_expression_5 (by decide) ?_
  refine lv_istore_n (lv' := [(3, .int 1), (0, .ref (A 0)), (1, .int x1), (2, .int x2)]) hx hb d_Mo_expression_6 rfl hl (by decide) rfl (fun ls hl => ?_)
  refine lv_iconst (v := 1) hx hb d_Mo_expression_7 (by decide) ?_
  refine lv_istore (lv' := [(4, .int 1), (3, .int 1), (0, .ref (A 0)), (1, .int x1), (2, .int x2)]) hx hb d_Mo_expression_8 hl (by decide) rfl (fun ls hl => ?_)
  exact L_10  FU _ _ _ h _ _ hP hD hS ls (lv_sub hl [2, 3, 4, 1, 0] rfl)
def p_Mo_statement_b125 (x1 : Int32) (x2 : Int32) (σ : Sto) (x3 : Int32) : Option Sto :=
  if inR x3 124 then if inR x3 124 then bd1 (p_Mo_need (sA (sA σ 8 x3.toNatClampNeg x1) 9 x3.toNatClampNeg x2) 59) fun σ_142 =>
    some σ_142 else none else none
def p_Mo_statement_b36 (x1 : Int32) (x2 : Int32) (σ : Sto) (x3 : Int32) : Option Sto :=
  if inR x3 124 then bd1 (p_Mo_typeWord (sA σ 10 x3.toNatClampNeg 1) x1 x2) fun σ_46 =>
    bd1 (p_Mo_name σ_46 8 x1 x2) fun σ_54 =>
    bd1 (p_Mo_need σ_54 61) fun σ_60 =>
    bd1 (p_Mo_expression σ_60 x1 x2) fun σ_66 =>
    p_Mo_statement_b125 x1 x2 σ_66 x3 else none
def p_Mo_statement_b72 (x1 : Int32) (x2 : Int32) (σ : Sto) (x3 : Int32) : Option Sto :=
  bd2 (p_Mo_take σ 6) fun v_75 σ_75 =>
    (if v_75 = 0 then
      if inR x3 124 then bd1 (p_Mo_expression (sA σ_75 10 x3.toNatClampNeg 3) x1 x2) fun σ_107 =>
      bd2 (p_Mo_take σ_107 61) fun v_113 σ_113 =>
      (if v_113 = 0 then
        p_Mo_statement_b125 x1 x2 σ_113 x3
      else
        bd1 (p_Mo_expression σ_113 x1 x2) fun σ_122 =>
        p_Mo_statement_b125 x1 x2 σ_122 x3) else none
    else
      if inR x3 124 then bd1 (p_Mo_expression (sA σ_75 10 x3.toNatClampNeg 2) x1 x2) fun σ_91 =>
      p_Mo_statement_b125 x1 x2 σ_91 x3 else none)
def p_Mo_statement (σ : Sto) (x1 : Int32) (x2 : Int32) : Option Sto :=
  bd1 (p_Mo_is σ 3) fun v_7 =>
    (if v_7 = 0 then
      bd1 (p_Mo_is σ 1) fun v_15 =>
      (if v_15 = 0 then
        p_Mo_statement_b72 x1 x2 σ (σ.1 4)
      else
        if inR ((σ.1 4) + 1) 124 then (if (σ.2.1 3 (((σ.1 4) + 1).toNatClampNeg)) = 1 then
          p_Mo_statement_b36 x1 x2 σ (σ.1 4)
        else
          p_Mo_statement_b72 x1 x2 σ (σ.1 4)) else none)
    else
      p_Mo_statement_b36 x1 x2 σ (σ.1 4))
abbrev w_Mo_statement : List Cond := Cond.code y_Mo_statement b_Mo_statement 4 none :: Tg
abbrev r_Mo_statement : Room := { frames := 5, cells := 0, slots := 0, locals := 113 }
theorem dv_Mo_statement : y_Mo_statement.cls = "LanguageServerModel" ∧ y_Mo_statement.cls ≠ "java/lang/invoke/MethodHandle" ∧ y_Mo_statement.cls ≠ "java/lang/invoke/VarHandle" ∧ (parseMethodDescriptor y_Mo_statement.desc).map (fun d => d.parameters.length) = some 2 := by decide +kernel
set_option maxHeartbeats 4000000 in
set_option maxRecDepth 100000 in
theorem c_Mo_statement (l : Launch) (K : Kst) (A : Nat → Nat) {σ : Sto} {x1 : Int32} {x2 : Int32} {ss : Sto} (h : p_Mo_statement σ x1 x2 = some ss) : Met l y_Mo_statement w_Mo_statement r_Mo_statement (va_Pc [.ref (A 0), .int x1, .int x2] (YB K A σ)) (YQv K A ss) 0 0 (YF A) := by
  refine Met.ofW (cc := b_Mo_statement) (maxL := 4) (ret := none) (by decide) rfl ?_
  intro p e s m args below meth c s₁ B hml hv
  obtain ⟨rfl, hP, hK, hD⟩ := hv
  have hx := B.exec
  have hb := B.bytes
  have hr := B.returns
  have hts := atoms_spec (ws := w_Mo_statement) B.pre
  have hg : ∀ w ∈ Tg, w.before _ s = true := fun w q => hts w (List.mem_cons_of_mem _ q)
  have hown : s.vm.findClass "LanguageServerModel" = some m.cls := findClass_of_methodNamed B.named
  have hlocks := B.notSynchronized
  have hS : va_S (YF A) s.heap s.heap [] := va_S.rf
  have hl := lv_entry ([.ref (A 0), .int x1, .int x2]) (n := 4) (Nat.le_of_ble_eq_true rfl)
  rw [lg_entry_eq]
  generalize (lg_sl ([.ref (A 0), .int x1, .int x2]) ++ List.replicate (4 - (lg_sl ([.ref (A 0), .int x1, .int x2])).length) Slot.unset).toArray = ls at hl ⊢
  have hl : lv_has ls 4 [(0, .ref (A 0)), (1, .int x1), (2, .int x2)] := hl
  generalize hargs : ([.ref (A 0), .int x1, .int x2] : List Value).toArray = args at hg hts ⊢
  obtain ⟨Q, hQ⟩ : ∃ Q, Q = MQ below (YQv K A ss) args s 0 0 (YF A) := ⟨_, rfl⟩
  rw [← hQ]
  have hRet : ∀ (σ : Sto), some σ = some ss → ∀ (H : Heap) (locs : List Loc), va_P K.1 vwCl (wY K A σ) H → va_D (YF A) (wY K A σ) → va_S (YF A) s.heap H locs → ∀ (pc : Nat) (ls : Array Slot), decode b_Mo_statement pc = .ok (.return_, 1) → W p l e (headSpec w_Mo_statement r_Mo_statement).room s m args below meth c H locs 0 0 Q (F0 m pc ls []) := by
    intro σ h H locs hP hD hS pc ls hd
    cases h
    subst hQ
    exact W.vret hx hb hr (fun t ht hW => ⟨⟨(), rfl, trivial, by rw [ht]; exact hP, RK.warm hW hK, hD⟩, hS.F ht⟩) hS.2.2 hd
  clear hQ
  unfold p_Mo_statement at h
  have J_125 : ∀ (σ : Sto) (x3 : Int32), p_Mo_statement_b125 x1 x2 σ x3 = some ss → ∀ (H : Heap) (locs : List Loc), va_P K.1 vwCl (wY K A σ) H → va_D (YF A) (wY K A σ) → va_S (YF A) s.heap H locs → ∀ ls : Array Slot, lv_has ls 4 [(0, .ref (A 0)), (1, .int x1), (2, .int x2), (3, .int x3)] → W p l e (headSpec w_Mo_statement r_Mo_statement).room s m args below meth c H locs 0 0 Q (F0 m 125 ls []) := by
    intro  σ x3 h H locs hP hD hS ls hl
    rw [p_Mo_statement_b125] at h
    refine lv_aload_n hx hb d_Mo_statement_125 rfl (lv_at hl 0 rfl) ?_
    refine gf_Mo_32 hx hb hg hown hK hP d_Mo_statement_126 ?_
    refine lv_iload_n hx hb d_Mo_statement_129 rfl (lv_at hl 3 rfl) ?_
    refine lv_iload_n hx hb d_Mo_statement_130 rfl (lv_at hl 1 rfl) ?_
    obtain ⟨i_131, h⟩ := itn h
    refine Ywa_8 hx hb hK hP hD hS i_131 d_Mo_statement_131 (fun H locs hP hD hS => ?_)
    refine lv_aload_n hx hb d_Mo_statement_132 rfl (lv_at hl 0 rfl) ?_
    refine gf_Mo_35 hx hb hg hown hK hP d_Mo_statement_133 ?_
    refine lv_iload_n hx hb d_Mo_statement_136 rfl (lv_at hl 3 rfl) ?_
    refine lv_iload_n hx hb d_Mo_statement_137 rfl (lv_at hl 2 rfl) ?_
    obtain ⟨i_138, h⟩ := itn h
    refine Ywa_9 hx hb hK hP hD hS i_138 d_Mo_statement_138 (fun H locs hP hD hS => ?_)
    refine lv_aload_n hx hb d_Mo_statement_139 rfl (lv_at hl 0 rfl) ?_
    refine lv_bipush (v := 59) hx hb d_Mo_statement_140 (by decide) ?_
    obtain ⟨σ_142, e_142, h⟩ := bd1_some h
    refine Y_callv (va_runV (As := [.int 59]) (rest := []) ⟨hx, hb, hml, hown, hts⟩ (c_Mo_need l K A e_142) (cwV 1 hts (gd_V wd_1064 wd_1066 wp_48 wd_10 wd_1067) rfl rfl rfl dv_Mo_need ⟨Nat.le_of_ble_eq_true rfl, Nat.le_of_ble_eq_true rfl⟩) (Y_pv_0 hK hP hD) rfl rfl hl.1 rfl (lv_room (Nat.le_of_ble_eq_true rfl)) d_Mo_statement_142 ⟨Nat.le_of_ble_eq_true rfl, Nat.le_of_ble_eq_true rfl⟩) hS (fun H locs hP hD hS => ?_)
    exact hRet _ h _ _ hP hD hS _ _ d_Mo_statement_145
  have J_36 : ∀ (σ : Sto) (x3 : Int32), p_Mo_statement_b36 x1 x2 σ x3 = some ss → ∀ (H : Heap) (locs : List Loc), va_P K.1 vwCl (wY K A σ) H → va_D (YF A) (wY K A σ) → va_S (YF A) s.heap H locs → ∀ ls : Array Slot, lv_has ls 4 [(0, .ref (A 0)), (1, .int x1), (2, .int x2), (3, .int x3)] → W p l e (headSpec w_Mo_statement r_Mo_statement).room s m args below meth c H locs 0 0 Q (F0 m 36 ls []) := by
    intro  σ x3 h H locs hP hD hS ls hl
    rw [p_Mo_statement_b36] at h
    refine lv_aload_n hx hb d_Mo_statement_36 rfl (lv_at hl 0 rfl) ?_
    refine gf_Mo_38 hx hb hg hown hK hP d_Mo_statement_37 ?_
    refine lv_iload_n hx hb d_Mo_statement_40 rfl (lv_at hl 3 rfl) ?_
    refine lv_iconst (v := 1) hx hb d_Mo_statement_41 (by decide) ?_
    obtain ⟨i_42, h⟩ := itn h
    refine Ywa_10 hx hb hK hP hD hS i_42 d_Mo_statement_42 (fun H locs hP hD hS => ?_)
    refine lv_aload_n hx hb d_Mo_statement_43 rfl (lv_at hl 0 rfl) ?_
    refine lv_iload_n hx hb d_Mo_statement_44 rfl (lv_at hl 1 rfl) ?_
    refine lv_iload_n hx hb d_Mo_statement_45 rfl (lv_at hl 2 rfl) ?_
    obtain ⟨σ_46, e_46, h⟩ := bd1_some h
    refine Y_callv (va_runV (As := [.int x1, .int x2]) (rest := []) ⟨hx, hb, hml, hown, hts⟩ (c_Mo_typeWord l K A e_46) (cwV 2 hts (gd_V wd_1084 wd_1086 wp_53 wd_10 wd_1087) rfl rfl rfl dv_Mo_typeWord ⟨Nat.le_of_ble_eq_true rfl, Nat.le_of_ble_eq_true rfl⟩) (Y_pv_0 hK hP hD) rfl rfl hl.1 rfl (lv_room (Nat.le_of_ble_eq_true rfl)) d_Mo_statement_46 ⟨Nat.le_of_ble_eq_true rfl, Nat.le_of_ble_eq_true rfl⟩) hS (fun H locs hP hD hS => ?_)
    refine lv_aload_n hx hb d_Mo_statement_49 rfl (lv_at hl 0 rfl) ?_
    refine lv_bipush (v := 8) hx hb d_Mo_statement_50 (by decide) ?_
    refine lv_iload_n hx hb d_Mo_statement_52 rfl (lv_at hl 1 rfl) ?_
    refine lv_iload_n hx hb d_Mo_statement_53 rfl (lv_at hl 2 rfl) ?_
    obtain ⟨σ_54, e_54, h⟩ := bd1_some h
    refine Y_callv (va_runV (As := [.int 8, .int x1, .int x2]) (rest := []) ⟨hx, hb, hml, hown, hts⟩ (c_Mo_name l K A e_54) (cwV 3 hts (gd_V wd_1076 wd_1078 wp_51 wd_10 wd_1079) rfl rfl rfl dv_Mo_name ⟨Nat.le_of_ble_eq_true rfl, Nat.le_of_ble_eq_true rfl⟩) (Y_pv_0 hK hP hD) rfl rfl hl.1 rfl (lv_room (Nat.le_of_ble_eq_true rfl)) d_Mo_statement_54 ⟨Nat.le_of_ble_eq_true rfl, Nat.le_of_ble_eq_true rfl⟩) hS (fun H locs hP hD hS => ?_)
    refine lv_aload_n hx hb d_Mo_statement_57 rfl (lv_at hl 0 rfl) ?_
    refine lv_bipush (v := 61) hx hb d_Mo_statement_58 (by decide) ?_
    obtain ⟨σ_60, e_60, h⟩ := bd1_some h
    refine Y_callv (va_runV (As := [.int 61]) (rest := []) ⟨hx, hb, hml, hown, hts⟩ (c_Mo_need l K A e_60) (cwV 1 hts (gd_V wd_1064 wd_1066 wp_48 wd_10 wd_1067) rfl rfl rfl dv_Mo_need ⟨Nat.le_of_ble_eq_true rfl, Nat.le_of_ble_eq_true rfl⟩) (Y_pv_0 hK hP hD) rfl rfl hl.1 rfl (lv_room (Nat.le_of_ble_eq_true rfl)) d_Mo_statement_60 ⟨Nat.le_of_ble_eq_true rfl, Nat.le_of_ble_eq_true rfl⟩) hS (fun H locs hP hD hS => ?_)
    refine lv_aload_n hx hb d_Mo_statement_63 rfl (lv_at hl 0 rfl) ?_
    refine lv_iload_n hx hb d_Mo_statement_64 rfl (lv_at hl 1 rfl) ?_
    refine lv_iload_n hx hb d_Mo_statement_65 rfl (lv_at hl 2 rfl) ?_
    obtain ⟨σ_66, e_66, h⟩ := bd1_some h
    refine Y_callv (va_runV (As := [.int x1, .int x2]) (rest := []) ⟨hx, hb, hml, hown, hts⟩ (c_Mo_expression l K A e_66) (cwV 2 hts (gd_V wd_1096 wd_1098 wp_56 wd_10 wd_1099) rfl rfl rfl dv_Mo_expression ⟨Nat.le_of_ble_eq_true rfl, Nat.le_of_ble_eq_true rfl⟩) (Y_pv_0 hK hP hD) rfl rfl hl.1 rfl (lv_room (Nat.le_of_ble_eq_true rfl)) d_Mo_statement_66 ⟨Nat.le_of_ble_eq_true rfl, Nat.le_of_ble_eq_true rfl⟩) hS (fun H locs hP hD hS => ?_)
    refine lv_goto (tgt := 125) hx hb d_Mo_statement_69 (by decide) ?_
    exact J_125  _ _ h _ _ hP hD hS ls (lv_sub hl [0, 1, 2, 3] rfl)
  have J_72 : ∀ (σ : Sto) (x3 : Int32), p_Mo_statement_b72 x1 x2 σ x3 = some ss → ∀ (H : Heap) (locs : List Loc), va_P K.1 vwCl (wY K A σ) H → va_D (YF A) (wY K A σ) → va_S (YF A) s.heap H locs → ∀ ls : Array Slot, lv_has ls 4 [(0, .ref (A 0)), (1, .int x1), (2, .int x2), (3, .int x3)] → W p l e (headSpec w_Mo_statement r_Mo_statement).room s m args below meth c H locs 0 0 Q (F0 m 72 ls []) := by
    intro  σ x3 h H locs hP hD hS ls hl
    rw [p_Mo_statement_b72] at h
    refine lv_aload_n hx hb d_Mo_statement_72 rfl (lv_at hl 0 rfl) ?_
    refine lv_bipush (v := 6) hx hb d_Mo_statement_73 (by decide) ?_
    obtain ⟨v_75, σ_75, e_75, h⟩ := bd2_some h
    refine Y_calli (va_runV (As := [.int 6]) (rest := []) ⟨hx, hb, hml, hown, hts⟩ (c_Mo_take l K A e_75) (cwV 1 hts (gd_V wd_1068 wd_1070 wp_49 wd_10 wd_1071) rfl rfl rfl dv_Mo_take ⟨Nat.le_of_ble_eq_true rfl, Nat.le_of_ble_eq_true rfl⟩) (Y_pv_0 hK hP hD) rfl rfl hl.1 rfl (lv_room (Nat.le_of_ble_eq_true rfl)) d_Mo_statement_75 ⟨Nat.le_of_ble_eq_true rfl, Nat.le_of_ble_eq_true rfl⟩) hS (fun H locs hP hD hS => ?_)
    refine lv_if_eq (tgt := 97) hx hb d_Mo_statement_78 (by decide) (fun c_78 => ?_) (fun c_78 => ?_)
    · replace h := itp c_78 h
      refine lv_aload_n hx hb d_Mo_statement_97 rfl (lv_at hl 0 rfl) ?_
      refine gf_Mo_38 hx hb hg hown hK hP d_Mo_statement_98 ?_
      refine lv_iload_n hx hb d_Mo_statement_101 rfl (lv_at hl 3 rfl) ?_
      refine lv_iconst (v := 3) hx hb d_Mo_statement_102 (by decide) ?_
      obtain ⟨i_103, h⟩ := itn h
      refine Ywa_10 hx hb hK hP hD hS i_103 d_Mo_statement_103 (fun H locs hP hD hS => ?_)
      refine lv_aload_n hx hb d_Mo_statement_104 rfl (lv_at hl 0 rfl) ?_
      refine lv_iload_n hx hb d_Mo_statement_105 rfl (lv_at hl 1 rfl) ?_
      refine lv_iload_n hx hb d_Mo_statement_106 rfl (lv_at hl 2 rfl) ?_
      obtain ⟨σ_107, e_107, h⟩ := bd1_some h
      refine Y_callv (va_runV (As := [.int x1, .int x2]) (rest := []) ⟨hx, hb, hml, hown, hts⟩ (c_Mo_expression l K A e_107) (cwV 2 hts (gd_V wd_1096 wd_1098 wp_56 wd_10 wd_1099) rfl rfl rfl dv_Mo_expression ⟨Nat.le_of_ble_eq_true rfl, Nat.le_of_ble_eq_true rfl⟩) (Y_pv_0 hK hP hD) rfl rfl hl.1 rfl (lv_room (Nat.le_of_ble_eq_true rfl)) d_Mo_statement_107 ⟨Nat.le_of_ble_eq_true rfl, Nat.le_of_ble_eq_true rfl⟩) hS (fun H locs hP hD hS => ?_)
      refine lv_aload_n hx hb d_Mo_statement_110 rfl (lv_at hl 0 rfl) ?_
      refine lv_bipush (v := 61) hx hb d_Mo_statement_111 (by decide) ?_
      obtain ⟨v_113, σ_113, e_113, h⟩ := bd2_some h
      refine Y_calli (va_runV (As := [.int 61]) (rest := []) ⟨hx, hb, hml, hown, hts⟩ (c_Mo_take l K A e_113) (cwV 1 hts (gd_V wd_1068 wd_1070 wp_49 wd_10 wd_1071) rfl rfl rfl dv_Mo_take ⟨Nat.le_of_ble_eq_true rfl, Nat.le_of_ble_eq_true rfl⟩) (Y_pv_0 hK hP hD) rfl rfl hl.1 rfl (lv_room (Nat.le_of_ble_eq_true rfl)) d_Mo_statement_113 ⟨Nat.le_of_ble_eq_true rfl, Nat.le_of_ble_eq_true rfl⟩) hS (fun H locs hP hD hS => ?_)
      refine lv_if_eq (tgt := 125) hx hb d_Mo_statement_116 (by decide) (fun c_116 => ?_) (fun c_116 => ?_)
      · replace h := itp c_116 h
        exact J_125  _ _ h _ _ hP hD hS ls (lv_sub hl [0, 1, 2, 3] rfl)
      · replace h := itf c_116 h
        refine lv_aload_n hx hb d_Mo_statement_119 rfl (lv_at hl 0 rfl) ?_
        refine lv_iload_n hx hb d_Mo_statement_120 rfl (lv_at hl 1 rfl) ?_
        refine lv_iload_n hx hb d_Mo_statement_121 rfl (lv_at hl 2 rfl) ?_
        obtain ⟨σ_122, e_122, h⟩ := bd1_some h
        refine Y_callv (va_runV (As := [.int x1, .int x2]) (rest := []) ⟨hx, hb, hml, hown, hts⟩ (c_Mo_expression l K A e_122) (cwV 2 hts (gd_V wd_1096 wd_1098 wp_56 wd_10 wd_1099) rfl rfl rfl dv_Mo_expression ⟨Nat.le_of_ble_eq_true rfl, Nat.le_of_ble_eq_true rfl⟩) (Y_pv_0 hK hP hD) rfl rfl hl.1 rfl (lv_room (Nat.le_of_ble_eq_true rfl)) d_Mo_statement_122 ⟨Nat.le_of_ble_eq_true rfl, Nat.le_of_ble_eq_true rfl⟩) hS (fun H locs hP hD hS => ?_)
        exact J_125  _ _ h _ _ hP hD hS ls (lv_sub hl [0, 1, 2, 3] rfl)
    · replace h := itf c_78 h
      refine lv_aload_n hx hb d_Mo_statement_81 rfl (lv_at hl 0 rfl) ?_
      refine gf_Mo_38 hx hb hg hown hK hP d_Mo_statement_82 ?_
      refine lv_iload_n hx hb d_Mo_statement_85 rfl (lv_at hl 3 rfl) ?_
      refine lv_iconst (v := 2) hx hb d_Mo_statement_86 (by decide) ?_
      obtain ⟨i_87, h⟩ := itn h
      refine Ywa_10 hx hb hK hP hD hS i_87 d_Mo_statement_87 (fun H locs hP hD hS => ?_)
      refine lv_aload_n hx hb d_Mo_statement_88 rfl (lv_at hl 0 rfl) ?_
      refine lv_iload_n hx hb d_Mo_statement_89 rfl (lv_at hl 1 rfl) ?_
      refine lv_iload_n hx hb d_Mo_statement_90 rfl (lv_at hl 2 rfl) ?_
      obtain ⟨σ_91, e_91, h⟩ := bd1_some h
      refine Y_callv (va_runV (As := [.int x1, .int x2]) (rest := []) ⟨hx, hb, hml, hown, hts⟩ (c_Mo_expression l K A e_91) (cwV 2 hts (gd_V wd_1096 wd_1098 wp_56 wd_10 wd_1099) rfl rfl rfl dv_Mo_expression ⟨Nat.le_of_ble_eq_true rfl, Nat.le_of_ble_eq_true rfl⟩) (Y_pv_0 hK hP hD) rfl rfl hl.1 rfl (lv_room (Nat.le_of_ble_eq_true rfl)) d_Mo_statement_91 ⟨Nat.le_of_ble_eq_true rfl, Nat.le_of_ble_eq_true rfl⟩) hS (fun H locs hP hD hS => ?_)
      refine lv_goto (tgt := 125) hx hb d_Mo_statement_94 (by decide) ?_
      exact J_125  _ _ h _ _ hP hD hS ls (lv_sub hl [0, 1, 2, 3] rfl)
  refine lv_aload_n hx hb d_Mo_statement_0 rfl (lv_at hl 0 rfl) ?_
  refine gf_Mo_135 hx hb hg hown hK hP d_Mo_statement_1 ?_
  refine lv_istore_n (lv' := [(3, .int (σ.1 4)), (0, .ref (A 0)), (1, .int x1), (2, .int x2)]) hx hb d_Mo_statement_4 rfl hl (by decide) rfl (fun ls hl => ?_)
  refine lv_aload_n hx hb d_Mo_statement_5 rfl (lv_at hl 1 rfl) ?_
  refine lv_iconst (v := 3) hx hb d_Mo_statement_6 (by decide) ?_
  obtain ⟨v_7, e_7, h⟩ := bd1_some h
  refine Y_calli (va_runV (As := [.int 3]) (rest := []) ⟨hx, hb, hml, hown, hts⟩ (c_Mo_is l K A e_7) (cwV 1 hts (gd_V wd_1072 wd_1074 wp_50 wd_10 wd_1075) rfl rfl rfl dv_Mo_is ⟨Nat.le_of_ble_eq_true rfl, Nat.le_of_ble_eq_true rfl⟩) (Y_pv_0 hK hP hD) rfl rfl hl.1 rfl (lv_room (Nat.le_of_ble_eq_true rfl)) d_Mo_statement_7 ⟨Nat.le_of_ble_eq_true rfl, Nat.le_of_ble_eq_true rfl⟩) hS (fun H locs hP hD hS => ?_)
  refine lv_if_ne (tgt := 36) hx hb d_Mo_statement_10 (by decide) (fun c_10 => ?_) (fun c_10 => ?_)
  · replace h := itf c_10 h
    exact J_36  _ _ h _ _ hP hD hS ls (lv_sub hl [1, 2, 3, 0] rfl)
  · replace h := itp c_10 h
    refine lv_aload_n hx hb d_Mo_statement_13 rfl (lv_at hl 1 rfl) ?_
    refine lv_iconst (v := 1) hx hb d_Mo_statement_14 (by decide) ?_
    obtain ⟨v_15, e_15, h⟩ := bd1_some h
    refine Y_calli (va_runV (As := [.int 1]) (rest := []) ⟨hx, hb, hml, hown, hts⟩ (c_Mo_is l K A e_15) (cwV 1 hts (gd_V wd_1072 wd_1074 wp_50 wd_10 wd_1075) rfl rfl rfl dv_Mo_is ⟨Nat.le_of_ble_eq_true rfl, Nat.le_of_ble_eq_true rfl⟩) (Y_pv_0 hK hP hD) rfl rfl hl.1 rfl (lv_room (Nat.le_of_ble_eq_true rfl)) d_Mo_statement_15 ⟨Nat.le_of_ble_eq_true rfl, Nat.le_of_ble_eq_true rfl⟩) hS (fun H locs hP hD hS => ?_)
    refine lv_if_eq (tgt := 72) hx hb d_Mo_statement_18 (by decide) (fun c_18 => ?_) (fun c_18 => ?_)
    · replace h := itp c_18 h
      exact J_72  _ _ h _ _ hP hD hS ls (lv_sub hl [1, 2, 3, 0] rfl)
    · replace h := itf c_18 h
      refine lv_aload_n hx hb d_Mo_statement_21 rfl (lv_at hl 1 rfl) ?_
      refine gf_Mo_16 hx hb hg hown hK hP d_Mo_statement_22 ?_
      refine lv_aload_n hx hb d_Mo_statement_25 rfl (lv_at hl 1 rfl) ?_
      refine gf_Mo_135 hx hb hg hown hK hP d_Mo_statement_26 ?_
      refine lv_iconst (v := 1) hx hb d_Mo_statement_29 (by decide) ?_
      refine lv_iadd hx hb d_Mo_statement_30 ?_
      obtain ⟨i_31, h⟩ := itn h
      refine Yra_3 hx hb hK hP i_31 d_Mo_statement_31 ?_
      refine lv_iconst (v := 1) hx hb d_Mo_statement_32 (by decide) ?_
      refine lv_icmp_ne (tgt := 72) hx hb d_Mo_statement_33 (by decide) (fun c_33 => ?_) (fun c_33 => ?_)
      · replace h := itf c_33 h
        exact J_72  _ _ h _ _ hP hD hS ls (lv_sub hl [1, 2, 3, 0] rfl)
      · replace h := itp c_33 h
        exact J_36  _ _ h _ _ hP hD hS ls (lv_sub hl [1, 2, 3, 0] rfl)
