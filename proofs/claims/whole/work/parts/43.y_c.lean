def p_Mo_thrown (σ : Sto) : Option Int32 :=
  some (σ.1 0)
abbrev w_Mo_thrown : List Cond := Cond.code y_Mo_thrown b_Mo_thrown 1 (some .int) :: Tg
abbrev r_Mo_thrown : Room := { frames := 0, cells := 0, slots := 0, locals := 0 }
theorem dv_Mo_thrown : y_Mo_thrown.cls = "LanguageServerModel" ∧ y_Mo_thrown.cls ≠ "java/lang/invoke/MethodHandle" ∧ y_Mo_thrown.cls ≠ "java/lang/invoke/VarHandle" ∧ (parseMethodDescriptor y_Mo_thrown.desc).map (fun d => d.parameters.length) = some 0 := by decide +kernel
set_option maxHeartbeats 4000000 in
set_option maxRecDepth 100000 in
theorem c_Mo_thrown (l : Launch) (K : Kst) (A : Nat → Nat) {σ : Sto} {rr : Int32} (h : p_Mo_thrown σ = some rr) : Met l y_Mo_thrown w_Mo_thrown r_Mo_thrown (va_Pc [.ref (A 0)] (YB K A σ)) (YQi K A rr σ) 0 0 (YF A) := by
  refine Met.ofW (cc := b_Mo_thrown) (maxL := 1) (ret := (some .int)) (by decide) rfl ?_
  intro p e s m args below meth c s₁ B hml hv
  obtain ⟨rfl, hP, hK, hD⟩ := hv
  have hx := B.exec
  have hb := B.bytes
  have hr := B.returns
  have hts := atoms_spec (ws := w_Mo_thrown) B.pre
  have hg : ∀ w ∈ Tg, w.before _ s = true := fun w q => hts w (List.mem_cons_of_mem _ q)
  have hown : s.vm.findClass "LanguageServerModel" = some m.cls := findClass_of_methodNamed B.named
  have hlocks := B.notSynchronized
  have hS : va_S (YF A) s.heap s.heap [] := va_S.rf
  have hl := lv_entry ([.ref (A 0)]) (n := 1) (Nat.le_of_ble_eq_true rfl)
  rw [lg_entry_eq]
  generalize (lg_sl ([.ref (A 0)]) ++ List.replicate (1 - (lg_sl ([.ref (A 0)])).length) Slot.unset).toArray = ls at hl ⊢
  have hl : lv_has ls 1 [(0, .ref (A 0))] := hl
  generalize hargs : ([.ref (A 0)] : List Value).toArray = args at hg hts ⊢
  obtain ⟨Q, hQ⟩ : ∃ Q, Q = MQ below (YQi K A rr σ) args s 0 0 (YF A) := ⟨_, rfl⟩
  rw [← hQ]
  have hRet : ∀ (v : Int32), some v = some rr → ∀ (H : Heap) (locs : List Loc), va_P K.1 vwCl (wY K A σ) H → va_D (YF A) (wY K A σ) → va_S (YF A) s.heap H locs → ∀ (pc : Nat) (ls : Array Slot), decode b_Mo_thrown pc = .ok (.ireturn, 1) → W p l e (headSpec w_Mo_thrown r_Mo_thrown).room s m args below meth c H locs 0 0 Q (F0 m pc ls [.int v]) := by
    intro v h H locs hP hD hS pc ls hd
    cases h
    subst hQ
    exact W.iret hx hb hr (fun t ht hW => ⟨⟨_, (), rfl, rfl, by rw [ht]; exact hP, RK.warm hW hK, hD⟩, hS.F ht⟩) hS.2.2 hd
  clear hQ
  unfold p_Mo_thrown at h
  refine lv_aload_n hx hb d_Mo_thrown_0 rfl (lv_at hl 0 rfl) ?_
  refine gf_Mo_81 hx hb hg hown hK hP d_Mo_thrown_1 ?_
  exact hRet _ h _ _ hP hD hS _ _ d_Mo_thrown_4
def p_Mo_fail (σ : Sto) (x1 : Int32) : Option (Int32 × Sto) :=
  some (0, sS σ 0 x1)
abbrev w_Mo_fail : List Cond := Cond.code y_Mo_fail b_Mo_fail 2 (some .int) :: Tg
abbrev r_Mo_fail : Room := { frames := 0, cells := 0, slots := 0, locals := 0 }
theorem dv_Mo_fail : y_Mo_fail.cls = "LanguageServerModel" ∧ y_Mo_fail.cls ≠ "java/lang/invoke/MethodHandle" ∧ y_Mo_fail.cls ≠ "java/lang/invoke/VarHandle" ∧ (parseMethodDescriptor y_Mo_fail.desc).map (fun d => d.parameters.length) = some 1 := by decide +kernel
set_option maxHeartbeats 4000000 in
set_option maxRecDepth 100000 in
theorem c_Mo_fail (l : Launch) (K : Kst) (A : Nat → Nat) {σ : Sto} {x1 : Int32} {rr : Int32} {ss : Sto} (h : p_Mo_fail σ x1 = some (rr, ss)) : Met l y_Mo_fail w_Mo_fail r_Mo_fail (va_Pc [.ref (A 0), .int x1] (YB K A σ)) (YQi K A rr ss) 0 0 (YF A) := by
  refine Met.ofW (cc := b_Mo_fail) (maxL := 2) (ret := (some .int)) (by decide) rfl ?_
  intro p e s m args below meth c s₁ B hml hv
  obtain ⟨rfl, hP, hK, hD⟩ := hv
  have hx := B.exec
  have hb := B.bytes
  have hr := B.returns
  have hts := atoms_spec (ws := w_Mo_fail) B.pre
  have hg : ∀ w ∈ Tg, w.before _ s = true := fun w q => hts w (List.mem_cons_of_mem _ q)
  have hown : s.vm.findClass "LanguageServerModel" = some m.cls := findClass_of_methodNamed B.named
  have hlocks := B.notSynchronized
  have hS : va_S (YF A) s.heap s.heap [] := va_S.rf
  have hl := lv_entry ([.ref (A 0), .int x1]) (n := 2) (Nat.le_of_ble_eq_true rfl)
  rw [lg_entry_eq]
  generalize (lg_sl ([.ref (A 0), .int x1]) ++ List.replicate (2 - (lg_sl ([.ref (A 0), .int x1])).length) Slot.unset).toArray = ls at hl ⊢
  have hl : lv_has ls 2 [(0, .ref (A 0)), (1, .int x1)] := hl
  generalize hargs : ([.ref (A 0), .int x1] : List Value).toArray = args at hg hts ⊢
  obtain ⟨Q, hQ⟩ : ∃ Q, Q = MQ below (YQi K A rr ss) args s 0 0 (YF A) := ⟨_, rfl⟩
  rw [← hQ]
  have hRet : ∀ (v : Int32) (σ : Sto), some (v, σ) = some (rr, ss) → ∀ (H : Heap) (locs : List Loc), va_P K.1 vwCl (wY K A σ) H → va_D (YF A) (wY K A σ) → va_S (YF A) s.heap H locs → ∀ (pc : Nat) (ls : Array Slot), decode b_Mo_fail pc = .ok (.ireturn, 1) → W p l e (headSpec w_Mo_fail r_Mo_fail).room s m args below meth c H locs 0 0 Q (F0 m pc ls [.int v]) := by
    intro v σ h H locs hP hD hS pc ls hd
    cases h
    subst hQ
    exact W.iret hx hb hr (fun t ht hW => ⟨⟨_, (), rfl, rfl, by rw [ht]; exact hP, RK.warm hW hK, hD⟩, hS.F ht⟩) hS.2.2 hd
  clear hQ
  unfold p_Mo_fail at h
  refine lv_aload_n hx hb d_Mo_fail_0 rfl (lv_at hl 0 rfl) ?_
  refine lv_iload_n hx hb d_Mo_fail_1 rfl (lv_at hl 1 rfl) ?_
  refine pf_Mo_81 hx hb hg hown hK hP hD hS d_Mo_fail_2 (fun H locs hP hD hS => ?_)
  refine lv_iconst (v := 0) hx hb d_Mo_fail_5 (by decide) ?_
  exact hRet _ _ h _ _ hP hD hS _ _ d_Mo_fail_6
def p_Mo_code (x0 : Int32) : Option Int32 :=
  (if x0 < 32 then
      some 0
    else
      (if (126 : Int32) < x0 then
        some 0
      else
        some 1))
abbrev w_Mo_code : List Cond := Cond.code y_Mo_code b_Mo_code 1 (some .boolean) :: Tg
abbrev r_Mo_code : Room := { frames := 0, cells := 0, slots := 0, locals := 0 }
theorem ds_Mo_code : y_Mo_code.cls ≠ "java/lang/invoke/MethodHandle" ∧ y_Mo_code.cls ≠ "java/lang/invoke/VarHandle" ∧ (parseMethodDescriptor y_Mo_code.desc).map (fun d => d.parameters.length) = some 1 := by decide +kernel
set_option maxHeartbeats 4000000 in
set_option maxRecDepth 100000 in
theorem c_Mo_code (l : Launch) {x0 : Int32} {rr : Int32} (h : p_Mo_code x0 = some rr) : Met l y_Mo_code w_Mo_code r_Mo_code (va_Pc [.int x0] KN) (PQi rr) 0 0 PF := by
  refine Met.ofW (cc := b_Mo_code) (maxL := 1) (ret := (some .boolean)) (by decide) rfl ?_
  intro p e s m args below meth c s₁ B hml hv
  obtain ⟨rfl, hk⟩ := hv
  have hx := B.exec
  have hb := B.bytes
  have hr := B.returns
  have hts := atoms_spec (ws := w_Mo_code) B.pre
  have hg : ∀ w ∈ Tg, w.before _ s = true := fun w q => hts w (List.mem_cons_of_mem _ q)
  have hown : s.vm.findClass "LanguageServerModel" = some m.cls := findClass_of_methodNamed B.named
  have hlocks := B.notSynchronized
  have hS : va_S (PF) s.heap s.heap [] := va_S.rf
  have hl := lv_entry ([.int x0]) (n := 1) (Nat.le_of_ble_eq_true rfl)
  rw [lg_entry_eq]
  generalize (lg_sl ([.int x0]) ++ List.replicate (1 - (lg_sl ([.int x0])).length) Slot.unset).toArray = ls at hl ⊢
  have hl : lv_has ls 1 [(0, .int x0)] := hl
  generalize hargs : ([.int x0] : List Value).toArray = args at hg hts ⊢
  obtain ⟨Q, hQ⟩ : ∃ Q, Q = MQ below (PQi rr) args s 0 0 (PF) := ⟨_, rfl⟩
  rw [← hQ]
  have hRet : ∀ (v : Int32), (narrow .boolean (.int v) = .int v) → some v = some rr → ∀ (H : Heap) (locs : List Loc), va_S (PF) s.heap H locs → ∀ (pc : Nat) (ls : Array Slot), decode b_Mo_code pc = .ok (.ireturn, 1) → W p l e (headSpec w_Mo_code r_Mo_code).room s m args below meth c H locs 0 0 Q (F0 m pc ls [.int v]) := by
    intro v hn h H locs hS pc ls hd
    cases h
    subst hQ
    exact W.zret hx hb hr hn (fun t ht hW => ⟨⟨_, (), rfl, rfl, trivial⟩, hS.F ht⟩) hS.2.2 hd
  clear hQ
  unfold p_Mo_code at h
  refine lv_iload_n hx hb d_Mo_code_0 rfl (lv_at hl 0 rfl) ?_
  refine lv_bipush (v := 32) hx hb d_Mo_code_1 (by decide) ?_
  refine lv_icmp_lt (tgt := 16) hx hb d_Mo_code_3 (by decide) (fun c_3 => ?_) (fun c_3 => ?_)
  · replace h := itp c_3 h
    refine lv_iconst (v := 0) hx hb d_Mo_code_16 (by decide) ?_
    exact hRet _ rfl h _ _ hS _ _ d_Mo_code_17
  · replace h := itf c_3 h
    refine lv_iload_n hx hb d_Mo_code_6 rfl (lv_at hl 0 rfl) ?_
    refine lv_bipush (v := 126) hx hb d_Mo_code_7 (by decide) ?_
    refine lv_icmp_gt (tgt := 16) hx hb d_Mo_code_9 (by decide) (fun c_9 => ?_) (fun c_9 => ?_)
    · replace h := itp c_9 h
      refine lv_iconst (v := 0) hx hb d_Mo_code_16 (by decide) ?_
      exact hRet _ rfl h _ _ hS _ _ d_Mo_code_17
    · replace h := itf c_9 h
      refine lv_iconst (v := 1) hx hb d_Mo_code_12 (by decide) ?_
      refine lv_goto (tgt := 17) hx hb d_Mo_code_13 (by decide) ?_
      exact hRet _ rfl h _ _ hS _ _ d_Mo_code_17
def p_Mo_insert_L51 (x1 : Int32) (x2 : Int32) : Nat → Sto → Int32 → Option (Int32 × Sto)
  | 0, _, _ => none
  | n + 1, σ, x3 =>
    (if x3 ≤ x1 then
        if inR x1 240 then some ((sS (sA σ 1 x1.toNatClampNeg x2) 1 (((sA σ 1 x1.toNatClampNeg x2).1 1) + 1)).1 1, sS (sA σ 1 x1.toNatClampNeg x2) 1 (((sA σ 1 x1.toNatClampNeg x2).1 1) + 1)) else none
      else
        if inR (x3 - 1) 240 then if inR x3 240 then p_Mo_insert_L51 x1 x2 n (sA σ 1 x3.toNatClampNeg (σ.2.1 1 ((x3 - 1).toNatClampNeg))) (x3 + (-1)) else none else none)
def p_Mo_insert (σ : Sto) (x1 : Int32) (x2 : Int32) : Option (Int32 × Sto) :=
  (if x1 < 0 then
      bd2 (p_Mo_fail (sS σ 0 0) 1) fun v_26 σ_26 =>
      some (v_26, σ_26)
    else
      (if ((sS σ 0 0).1 1) < x1 then
        bd2 (p_Mo_fail (sS σ 0 0) 1) fun v_26 σ_26 =>
        some (v_26, σ_26)
      else
        bd1 (p_Mo_code x2) fun v_18 =>
        (if v_18 = 0 then
          bd2 (p_Mo_fail (sS σ 0 0) 1) fun v_26 σ_26 =>
          some (v_26, σ_26)
        else
          (if ((sS σ 0 0).1 1) = 240 then
            bd2 (p_Mo_fail (sS σ 0 0) 2) fun v_42 σ_42 =>
            some (v_42, σ_42)
          else
            p_Mo_insert_L51 x1 x2 FU (sS σ 0 0) ((sS σ 0 0).1 1)))))
abbrev w_Mo_insert : List Cond := Cond.code y_Mo_insert b_Mo_insert 4 (some .int) :: Tg
abbrev r_Mo_insert : Room := { frames := 1, cells := 0, slots := 0, locals := 21 }
theorem dv_Mo_insert : y_Mo_insert.cls = "LanguageServerModel" ∧ y_Mo_insert.cls ≠ "java/lang/invoke/MethodHandle" ∧ y_Mo_insert.cls ≠ "java/lang/invoke/VarHandle" ∧ (parseMethodDescriptor y_Mo_insert.desc).map (fun d => d.parameters.length) = some 2 := by decide +kernel
set_option maxHeartbeats 4000000 in
set_option maxRecDepth 100000 in
theorem c_Mo_insert (l : Launch) (K : Kst) (A : Nat → Nat) {σ : Sto} {x1 : Int32} {x2 : Int32} {rr : Int32} {ss : Sto} (h : p_Mo_insert σ x1 x2 = some (rr, ss)) : Met l y_Mo_insert w_Mo_insert r_Mo_insert (va_Pc [.ref (A 0), .int x1, .int x2] (YB K A σ)) (YQi K A rr ss) 0 0 (YF A) := by
  refine Met.ofW (cc := b_Mo_insert) (maxL := 4) (ret := (some .int)) (by decide) rfl ?_
  intro p e s m args below meth c s₁ B hml hv
  obtain ⟨rfl, hP, hK, hD⟩ := hv
  have hx := B.exec
  have hb := B.bytes
  have hr := B.returns
  have hts := atoms_spec (ws := w_Mo_insert) B.pre
  have hg : ∀ w ∈ Tg, w.before _ s = true := fun w q => hts w (List.mem_cons_of_mem _ q)
  have hown : s.vm.findClass "LanguageServerModel" = some m.cls := findClass_of_methodNamed B.named
  have hlocks := B.notSynchronized
  have hS : va_S (YF A) s.heap s.heap [] := va_S.rf
  have hl := lv_entry ([.ref (A 0), .int x1, .int x2]) (n := 4) (Nat.le_of_ble_eq_true rfl)
  rw [lg_entry_eq]
  generalize (lg_sl ([.ref (A 0), .int x1, .int x2]) ++ List.replicate (4 - (lg_sl ([.ref (A 0), .int x1, .int x2])).length) Slot.unset).toArray = ls at hl ⊢
  have hl : lv_has ls 4 [(0, .ref (A 0)), (1, .int x1), (2, .int x2)] := hl
  generalize hargs : ([.ref (A 0), .int x1, .int x2] : List Value).toArray = args at hg hts ⊢
  obtain ⟨Q, hQ⟩ : ∃ Q, Q = MQ below (YQi K A rr ss) args s 0 0 (YF A) := ⟨_, rfl⟩
  rw [← hQ]
  have hRet : ∀ (v : Int32) (σ : Sto), some (v, σ) = some (rr, ss) → ∀ (H : Heap) (locs : List Loc), va_P K.1 vwCl (wY K A σ) H → va_D (YF A) (wY K A σ) → va_S (YF A) s.heap H locs → ∀ (pc : Nat) (ls : Array Slot), decode b_Mo_insert pc = .ok (.ireturn, 1) → W p l e (headSpec w_Mo_insert r_Mo_insert).room s m args below meth c H locs 0 0 Q (F0 m pc ls [.int v]) := by
    intro v σ h H locs hP hD hS pc ls hd
    cases h
    subst hQ
    exact W.iret hx hb hr (fun t ht hW => ⟨⟨_, (), rfl, rfl, by rw [ht]; exact hP, RK.warm hW hK, hD⟩, hS.F ht⟩) hS.2.2 hd
  clear hQ
  unfold p_Mo_insert at h
  have L_51 : ∀ (n : Nat) (σ : Sto) (x3 : Int32), p_Mo_insert_L51 x1 x2 n σ x3 = some (rr, ss) → ∀ (H : Heap) (locs : List Loc), va_P K.1 vwCl (wY K A σ) H → va_D (YF A) (wY K A σ) → va_S (YF A) s.heap H locs → ∀ ls : Array Slot, lv_has ls 4 [(0, .ref (A 0)), (1, .int x1), (2, .int x2), (3, .int x3)] → W p l e (headSpec w_Mo_insert r_Mo_insert).room s m args below meth c H locs 0 0 Q (F0 m 51 ls []) := by
    intro n
    induction n with
    | zero => intro _ _ h; cases h
    | succ n ih =>
      intro σ x3 h H locs hP hD hS ls hl
      rw [p_Mo_insert_L51] at h
      refine lv_iload_n hx hb d_Mo_insert_51 rfl (lv_at hl 3 rfl) ?_
      refine lv_iload_n hx hb d_Mo_insert_52 rfl (lv_at hl 1 rfl) ?_
      refine lv_icmp_le (tgt := 76) hx hb d_Mo_insert_53 (by decide) (fun c_53 => ?_) (fun c_53 => ?_)
      · replace h := itp c_53 h
        refine lv_aload_n hx hb d_Mo_insert_76 rfl (lv_at hl 0 rfl) ?_
        refine gf_Mo_7 hx hb hg hown hK hP d_Mo_insert_77 ?_
        refine lv_iload_n hx hb d_Mo_insert_80 rfl (lv_at hl 1 rfl) ?_
        refine lv_iload_n hx hb d_Mo_insert_81 rfl (lv_at hl 2 rfl) ?_
        obtain ⟨i_82, h⟩ := itn h
        refine Ywa_1 hx hb hK hP hD hS i_82 d_Mo_insert_82 (fun H locs hP hD hS => ?_)
        refine lv_aload_n hx hb d_Mo_insert_83 rfl (lv_at hl 0 rfl) ?_
        refine lv_dup hx hb d_Mo_insert_84 rfl ?_
        refine gf_Mo_85 hx hb hg hown hK hP d_Mo_insert_85 ?_
        refine lv_iconst (v := 1) hx hb d_Mo_insert_88 (by decide) ?_
        refine lv_iadd hx hb d_Mo_insert_89 ?_
        refine pf_Mo_85 hx hb hg hown hK hP hD hS d_Mo_insert_90 (fun H locs hP hD hS => ?_)
        refine lv_aload_n hx hb d_Mo_insert_93 rfl (lv_at hl 0 rfl) ?_
        refine gf_Mo_85 hx hb hg hown hK hP d_Mo_insert_94 ?_
        exact hRet _ _ h _ _ hP hD hS _ _ d_Mo_insert_97
      · replace h := itf c_53 h
        refine lv_aload_n hx hb d_Mo_insert_56 rfl (lv_at hl 0 rfl) ?_
        refine gf_Mo_7 hx hb hg hown hK hP d_Mo_insert_57 ?_
        refine lv_iload_n hx hb d_Mo_insert_60 rfl (lv_at hl 3 rfl) ?_
        refine lv_aload_n hx hb d_Mo_insert_61 rfl (lv_at hl 0 rfl) ?_
        refine gf_Mo_7 hx hb hg hown hK hP d_Mo_insert_62 ?_
        refine lv_iload_n hx hb d_Mo_insert_65 rfl (lv_at hl 3 rfl) ?_
        refine lv_iconst (v := 1) hx hb d_Mo_insert_66 (by decide) ?_
        refine lv_isub hx hb d_Mo_insert_67 ?_
        obtain ⟨i_68, h⟩ := itn h
        refine Yra_1 hx hb hK hP i_68 d_Mo_insert_68 ?_
        obtain ⟨i_69, h⟩ := itn h
        refine Ywa_1 hx hb hK hP hD hS i_69 d_Mo_insert_69 (fun H locs hP hD hS => ?_)
        refine lv_iinc (v := x3 + (-1)) (lv' := [(3, .int (x3 + (-1))), (0, .ref (A 0)), (1, .int x1), (2, .int x2)]) hx hb d_Mo_insert_70 hl (k := 3) rfl (by first | rfl | decide) (by decide) rfl (fun ls hl => ?_)
        refine lv_goto (tgt := 51) hx hb d_Mo_insert_73 (by decide) ?_
        exact ih _ _ h _ _ hP hD hS ls (lv_sub hl [1, 2, 3, 0] rfl)
  refine lv_aload_n hx hb d_Mo_insert_0 rfl (lv_at hl 0 rfl) ?_
  refine lv_iconst (v := 0) hx hb d_Mo_insert_1 (by decide) ?_
  refine pf_Mo_81 hx hb hg hown hK hP hD hS d_Mo_insert_2 (fun H locs hP hD hS => ?_)
  refine lv_iload_n hx hb d_Mo_insert_5 rfl (lv_at hl 1 rfl) ?_
  refine lv_if_lt (tgt := 24) hx hb d_Mo_insert_6 (by decide) (fun c_6 => ?_) (fun c_6 => ?_)
  · replace h := itp c_6 h
    refine lv_aload_n hx hb d_Mo_insert_24 rfl (lv_at hl 0 rfl) ?_
    refine lv_iconst (v := 1) hx hb d_Mo_insert_25 (by decide) ?_
    obtain ⟨v_26, σ_26, e_26, h⟩ := bd2_some h
    refine Y_calli (va_runV (As := [.int 1]) (rest := []) ⟨hx, hb, hml, hown, hts⟩ (c_Mo_fail l K A e_26) (cwV 1 hts (gd_V wd_1007 wd_1009 wp_43 wd_10 wd_1010) rfl rfl rfl dv_Mo_fail ⟨Nat.le_of_ble_eq_true rfl, Nat.le_of_ble_eq_true rfl⟩) (Y_pv_0 hK hP hD) rfl rfl hl.1 rfl (lv_room (Nat.le_of_ble_eq_true rfl)) d_Mo_insert_26 ⟨Nat.le_of_ble_eq_true rfl, Nat.le_of_ble_eq_true rfl⟩) hS (fun H locs hP hD hS => ?_)
    exact hRet _ _ h _ _ hP hD hS _ _ d_Mo_insert_29
  · replace h := itf c_6 h
    refine lv_iload_n hx hb d_Mo_insert_9 rfl (lv_at hl 1 rfl) ?_
    refine lv_aload_n hx hb d_Mo_insert_10 rfl (lv_at hl 0 rfl) ?_
    refine gf_Mo_85 hx hb hg hown hK hP d_Mo_insert_11 ?_
    refine lv_icmp_gt (tgt := 24) hx hb d_Mo_insert_14 (by decide) (fun c_14 => ?_) (fun c_14 => ?_)
    · replace h := itp c_14 h
      refine lv_aload_n hx hb d_Mo_insert_24 rfl (lv_at hl 0 rfl) ?_
      refine lv_iconst (v := 1) hx hb d_Mo_insert_25 (by decide) ?_
      obtain ⟨v_26, σ_26, e_26, h⟩ := bd2_some h
      refine Y_calli (va_runV (As := [.int 1]) (rest := []) ⟨hx, hb, hml, hown, hts⟩ (c_Mo_fail l K A e_26) (cwV 1 hts (gd_V wd_1007 wd_1009 wp_43 wd_10 wd_1010) rfl rfl rfl dv_Mo_fail ⟨Nat.le_of_ble_eq_true rfl, Nat.le_of_ble_eq_true rfl⟩) (Y_pv_0 hK hP hD) rfl rfl hl.1 rfl (lv_room (Nat.le_of_ble_eq_true rfl)) d_Mo_insert_26 ⟨Nat.le_of_ble_eq_true rfl, Nat.le_of_ble_eq_true rfl⟩) hS (fun H locs hP hD hS => ?_)
      exact hRet _ _ h _ _ hP hD hS _ _ d_Mo_insert_29
    · replace h := itf c_14 h
      refine lv_iload_n hx hb d_Mo_insert_17 rfl (lv_at hl 2 rfl) ?_
      obtain ⟨v_18, e_18, h⟩ := bd1_some h
      refine R_cpi (va_runS (As := [.int x2]) (rest := []) ⟨hx, hb, hml, hown, hts⟩ (c_Mo_code l e_18) (va_cwS 1 hts (gd_S wd_1004 wd_1005 wd_10 wd_1006) rfl rfl rfl ds_Mo_code ⟨Nat.le_of_ble_eq_true rfl, Nat.le_of_ble_eq_true rfl⟩) (P_ps hK.2) rfl rfl hl.1 rfl (lv_room (Nat.le_of_ble_eq_true rfl)) d_Mo_insert_18 ⟨Nat.le_of_ble_eq_true rfl, Nat.le_of_ble_eq_true rfl⟩) hP hD hS (fun H locs hP hD hS => ?_)
      refine lv_if_ne (tgt := 30) hx hb d_Mo_insert_21 (by decide) (fun c_21 => ?_) (fun c_21 => ?_)
      · replace h := itf c_21 h
        refine lv_aload_n hx hb d_Mo_insert_30 rfl (lv_at hl 0 rfl) ?_
        refine gf_Mo_85 hx hb hg hown hK hP d_Mo_insert_31 ?_
        refine lv_sipush (v := 240) hx hb d_Mo_insert_34 (by decide) ?_
        refine lv_icmp_ne (tgt := 46) hx hb d_Mo_insert_37 (by decide) (fun c_37 => ?_) (fun c_37 => ?_)
        · replace h := itf c_37 h
          refine lv_aload_n hx hb d_Mo_insert_46 rfl (lv_at hl 0 rfl) ?_
          refine gf_Mo_85 hx hb hg hown hK hP d_Mo_insert_47 ?_
          refine lv_istore_n (lv' := [(3, .int ((sS σ 0 0).1 1)), (0, .ref (A 0)), (1, .int x1), (2, .int x2)]) hx hb d_Mo_insert_50 rfl hl (by decide) rfl (fun ls hl => ?_)
          exact L_51  FU _ _ h _ _ hP hD hS ls (lv_sub hl [1, 2, 3, 0] rfl)
        · replace h := itp c_37 h
          refine lv_aload_n hx hb d_Mo_insert_40 rfl (lv_at hl 0 rfl) ?_
          refine lv_iconst (v := 2) hx hb d_Mo_insert_41 (by decide) ?_
          obtain ⟨v_42, σ_42, e_42, h⟩ := bd2_some h
          refine Y_calli (va_runV (As := [.int 2]) (rest := []) ⟨hx, hb, hml, hown, hts⟩ (c_Mo_fail l K A e_42) (cwV 1 hts (gd_V wd_1007 wd_1009 wp_43 wd_10 wd_1010) rfl rfl rfl dv_Mo_fail ⟨Nat.le_of_ble_eq_true rfl, Nat.le_of_ble_eq_true rfl⟩) (Y_pv_0 hK hP hD) rfl rfl hl.1 rfl (lv_room (Nat.le_of_ble_eq_true rfl)) d_Mo_insert_42 ⟨Nat.le_of_ble_eq_true rfl, Nat.le_of_ble_eq_true rfl⟩) hS (fun H locs hP hD hS => ?_)
          exact hRet _ _ h _ _ hP hD hS _ _ d_Mo_insert_45
      · replace h := itp c_21 h
        refine lv_aload_n hx hb d_Mo_insert_24 rfl (lv_at hl 0 rfl) ?_
        refine lv_iconst (v := 1) hx hb d_Mo_insert_25 (by decide) ?_
        obtain ⟨v_26, σ_26, e_26, h⟩ := bd2_some h
        refine Y_calli (va_runV (As := [.int 1]) (rest := []) ⟨hx, hb, hml, hown, hts⟩ (c_Mo_fail l K A e_26) (cwV 1 hts (gd_V wd_1007 wd_1009 wp_43 wd_10 wd_1010) rfl rfl rfl dv_Mo_fail ⟨Nat.le_of_ble_eq_true rfl, Nat.le_of_ble_eq_true rfl⟩) (Y_pv_0 hK hP hD) rfl rfl hl.1 rfl (lv_room (Nat.le_of_ble_eq_true rfl)) d_Mo_insert_26 ⟨Nat.le_of_ble_eq_true rfl, Nat.le_of_ble_eq_true rfl⟩) hS (fun H locs hP hD hS => ?_)
        exact hRet _ _ h _ _ hP hD hS _ _ d_Mo_insert_29
def p_Mo_byteOf (x0 : Int64) (x2 : Int32) : Option Int32 :=
  some (((x0 >>> (((8 : Int32) * x2).toInt64 &&& 63)).toInt32) &&& 255)
abbrev w_Mo_byteOf : List Cond := Cond.code y_Mo_byteOf b_Mo_byteOf 3 (some .int) :: Tg
abbrev r_Mo_byteOf : Room := { frames := 0, cells := 0, slots := 0, locals := 0 }
theorem ds_Mo_byteOf : y_Mo_byteOf.cls ≠ "java/lang/invoke/MethodHandle" ∧ y_Mo_byteOf.cls ≠ "java/lang/invoke/VarHandle" ∧ (parseMethodDescriptor y_Mo_byteOf.desc).map (fun d => d.parameters.length) = some 2 := by decide +kernel
set_option maxHeartbeats 4000000 in
set_option maxRecDepth 100000 in
theorem c_Mo_byteOf (l : Launch) {x0 : Int64} {x2 : Int32} {rr : Int32} (h : p_Mo_byteOf x0 x2 = some rr) : Met l y_Mo_byteOf w_Mo_byteOf r_Mo_byteOf (va_Pc [.long x0, .int x2] KN) (PQi rr) 0 0 PF := by
  refine Met.ofW (cc := b_Mo_byteOf) (maxL := 3) (ret := (some .int)) (by decide) rfl ?_
  intro p e s m args below meth c s₁ B hml hv
  obtain ⟨rfl, hk⟩ := hv
  have hx := B.exec
  have hb := B.bytes
  have hr := B.returns
  have hts := atoms_spec (ws := w_Mo_byteOf) B.pre
  have hg : ∀ w ∈ Tg, w.before _ s = true := fun w q => hts w (List.mem_cons_of_mem _ q)
  have hown : s.vm.findClass "LanguageServerModel" = some m.cls := findClass_of_methodNamed B.named
  have hlocks := B.notSynchronized
  have hS : va_S (PF) s.heap s.heap [] := va_S.rf
  have hl := lv_entry ([.long x0, .int x2]) (n := 3) (Nat.le_of_ble_eq_true rfl)
  rw [lg_entry_eq]
  generalize (lg_sl ([.long x0, .int x2]) ++ List.replicate (3 - (lg_sl ([.long x0, .int x2])).length) Slot.unset).toArray = ls at hl ⊢
  have hl : lv_has ls 3 [(0, .long x0), (2, .int x2)] := hl
  generalize hargs : ([.long x0, .int x2] : List Value).toArray = args at hg hts ⊢
  obtain ⟨Q, hQ⟩ : ∃ Q, Q = MQ below (PQi rr) args s 0 0 (PF) := ⟨_, rfl⟩
  rw [← hQ]
  have hRet : ∀ (v : Int32), some v = some rr → ∀ (H : Heap) (locs : List Loc), va_S (PF) s.heap H locs → ∀ (pc : Nat) (ls : Array Slot), decode b_Mo_byteOf pc = .ok (.ireturn, 1) → W p l e (headSpec w_Mo_byteOf r_Mo_byteOf).room s m args below meth c H locs 0 0 Q (F0 m pc ls [.int v]) := by
    intro v h H locs hS pc ls hd
    cases h
    subst hQ
    exact W.iret hx hb hr (fun t ht hW => ⟨⟨_, (), rfl, rfl, trivial⟩, hS.F ht⟩) hS.2.2 hd
  clear hQ
  unfold p_Mo_byteOf at h
  refine lv_lload_n hx hb d_Mo_byteOf_0 rfl (lv_at hl 0 rfl) ?_
  refine lv_bipush (v := 8) hx hb d_Mo_byteOf_1 (by decide) ?_
  refine lv_iload_n hx hb d_Mo_byteOf_3 rfl (lv_at hl 1 rfl) ?_
  refine lv_imul hx hb d_Mo_byteOf_4 ?_
  refine lv_lshr hx hb d_Mo_byteOf_5 rfl ?_
  refine lv_l2i hx hb d_Mo_byteOf_6 rfl ?_
  refine lv_sipush (v := 255) hx hb d_Mo_byteOf_7 (by decide) ?_
  refine lv_iand hx hb d_Mo_byteOf_10 ?_
  exact hRet _ h _ _ hS _ _ d_Mo_byteOf_11
def p_Mo_append_L78 (x1 : Int64) (x3 : Int32) : Nat → Sto → Int32 → Option (Int32 × Sto)
  | 0, _, _ => none
  | n + 1, σ, x4 =>
    (if x4 < 0 then
        some (σ.1 1, σ)
      else
        bd1 (p_Mo_byteOf x1 x4) fun v_94 =>
        if inR (σ.1 1) 240 then p_Mo_append_L78 x1 x3 n (sS (sA σ 1 ((σ.1 1).toNatClampNeg) v_94) 1 (((sA σ 1 ((σ.1 1).toNatClampNeg) v_94).1 1) + 1)) (x4 + (-1)) else none)
def p_Mo_append_L25 (x1 : Int64) (x3 : Int32) : Nat → Sto → Int32 → Option (Int32 × Sto)
  | 0, _, _ => none
  | n + 1, σ, x4 =>
    (if x3 ≤ x4 then
        (if ((σ.1 1) + x3) ≤ 240 then
          p_Mo_append_L78 x1 x3 FU σ (x3 - 1)
        else
          bd2 (p_Mo_fail σ 2) fun v_69 σ_69 =>
          some (v_69, σ_69))
      else
        bd1 (p_Mo_byteOf x1 x4) fun v_34 =>
        bd1 (p_Mo_code v_34) fun v_37 =>
        (if v_37 = 0 then
          bd2 (p_Mo_fail σ 1) fun v_45 σ_45 =>
          some (v_45, σ_45)
        else
          p_Mo_append_L25 x1 x3 n σ (x4 + 1)))
def p_Mo_append (σ : Sto) (x1 : Int64) (x3 : Int32) : Option (Int32 × Sto) :=
  (if x3 < 1 then
      bd2 (p_Mo_fail (sS σ 0 0) 1) fun v_18 σ_18 =>
      some (v_18, σ_18)
    else
      (if x3 ≤ 8 then
        p_Mo_append_L25 x1 x3 FU (sS σ 0 0) 0
      else
        bd2 (p_Mo_fail (sS σ 0 0) 1) fun v_18 σ_18 =>
        some (v_18, σ_18)))
abbrev w_Mo_append : List Cond := Cond.code y_Mo_append b_Mo_append 5 (some .int) :: Tg
abbrev r_Mo_append : Room := { frames := 1, cells := 0, slots := 0, locals := 22 }
theorem dv_Mo_append : y_Mo_append.cls = "LanguageServerModel" ∧ y_Mo_append.cls ≠ "java/lang/invoke/MethodHandle" ∧ y_Mo_append.cls ≠ "java/lang/invoke/VarHandle" ∧ (parseMethodDescriptor y_Mo_append.desc).map (fun d => d.parameters.length) = some 2 := by decide +kernel
set_option maxHeartbeats 4000000 in
set_option maxRecDepth 100000 in
theorem c_Mo_append (l : Launch) (K : Kst) (A : Nat → Nat) {σ : Sto} {x1 : Int64} {x3 : Int32} {rr : Int32} {ss : Sto} (h : p_Mo_append σ x1 x3 = some (rr, ss)) : Met l y_Mo_append w_Mo_append r_Mo_append (va_Pc [.ref (A 0), .long x1, .int x3] (YB K A σ)) (YQi K A rr ss) 0 0 (YF A) := by
  refine Met.ofW (cc := b_Mo_append) (maxL := 5) (ret := (some .int)) (by decide) rfl ?_
  intro p e s m args below meth c s₁ B hml hv
  obtain ⟨rfl, hP, hK, hD⟩ := hv
  have hx := B.exec
  have hb := B.bytes
  have hr := B.returns
  have hts := atoms_spec (ws := w_Mo_append) B.pre
  have hg : ∀ w ∈ Tg, w.before _ s = true := fun w q => hts w (List.mem_cons_of_mem _ q)
  have hown : s.vm.findClass "LanguageServerModel" = some m.cls := findClass_of_methodNamed B.named
  have hlocks := B.notSynchronized
  have hS : va_S (YF A) s.heap s.heap [] := va_S.rf
  have hl := lv_entry ([.ref (A 0), .long x1, .int x3]) (n := 5) (Nat.le_of_ble_eq_true rfl)
  rw [lg_entry_eq]
  generalize (lg_sl ([.ref (A 0), .long x1, .int x3]) ++ List.replicate (5 - (lg_sl ([.ref (A 0), .long x1, .int x3])).length) Slot.unset).toArray = ls at hl ⊢
  have hl : lv_has ls 5 [(0, .ref (A 0)), (1, .long x1), (3, .int x3)] := hl
  generalize hargs : ([.ref (A 0), .long x1, .int x3] : List Value).toArray = args at hg hts ⊢
  obtain ⟨Q, hQ⟩ : ∃ Q, Q = MQ below (YQi K A rr ss) args s 0 0 (YF A) := ⟨_, rfl⟩
  rw [← hQ]
  have hRet : ∀ (v : Int32) (σ : Sto), some (v, σ) = some (rr, ss) → ∀ (H : Heap) (locs : List Loc), va_P K.1 vwCl (wY K A σ) H → va_D (YF A) (wY K A σ) → va_S (YF A) s.heap H locs → ∀ (pc : Nat) (ls : Array Slot), decode b_Mo_append pc = .ok (.ireturn, 1) → W p l e (headSpec w_Mo_append r_Mo_append).room s m args below meth c H locs 0 0 Q (F0 m pc ls [.int v]) := by
    intro v σ h H locs hP hD hS pc ls hd
    cases h
    subst hQ
    exact W.iret hx hb hr (fun t ht hW => ⟨⟨_, (), rfl, rfl, by rw [ht]; exact hP, RK.warm hW hK, hD⟩, hS.F ht⟩) hS.2.2 hd
  clear hQ
  unfold p_Mo_append at h
  have L_78 : ∀ (n : Nat) (σ : Sto) (x4 : Int32), p_Mo_append_L78 x1 x3 n σ x4 = some (rr, ss) → ∀ (H : Heap) (locs : List Loc), va_P K.1 vwCl (wY K A σ) H → va_D (YF A) (wY K A σ) → va_S (YF A) s.heap H locs → ∀ ls : Array Slot, lv_has ls 5 [(0, .ref (A 0)), (1, .long x1), (4, .int x4)] → W p l e (headSpec w_Mo_append r_Mo_append).room s m args below meth c H locs 0 0 Q (F0 m 78 ls []) := by
    intro n
    induction n with
    | zero => intro _ _ h; cases h
    | succ n ih =>
      intro σ x4 h H locs hP hD hS ls hl
      rw [p_Mo_append_L78] at h
      refine lv_iload hx hb d_Mo_append_78 (lv_at hl 2 rfl) ?_
      refine lv_if_lt (tgt := 114) hx hb d_Mo_append_80 (by decide) (fun c_80 => ?_) (fun c_80 => ?_)
      · replace h := itp c_80 h
        refine lv_aload_n hx hb d_Mo_append_114 rfl (lv_at hl 0 rfl) ?_
        refine gf_Mo_85 hx hb hg hown hK hP d_Mo_append_115 ?_
        exact hRet _ _ h _ _ hP hD hS _ _ d_Mo_append_118
      · replace h := itf c_80 h
        refine lv_aload_n hx hb d_Mo_append_83 rfl (lv_at hl 0 rfl) ?_
        refine gf_Mo_7 hx hb hg hown hK hP d_Mo_append_84 ?_
        refine lv_aload_n hx hb d_Mo_append_87 rfl (lv_at hl 0 rfl) ?_
        refine gf_Mo_85 hx hb hg hown hK hP d_Mo_append_88 ?_
        refine lv_lload_n hx hb d_Mo_append_91 rfl (lv_at hl 1 rfl) ?_
        refine lv_iload hx hb d_Mo_append_92 (lv_at hl 2 rfl) ?_
        obtain ⟨v_94, e_94, h⟩ := bd1_some h
        refine R_cpi (va_runS (As := [.long x1, .int x4]) (rest := [.int (σ.1 1), .ref (A 1)]) ⟨hx, hb, hml, hown, hts⟩ (c_Mo_byteOf l e_94) (va_cwS 2 hts (gd_S wd_1015 wd_1016 wd_10 wd_1017) rfl rfl rfl ds_Mo_byteOf ⟨Nat.le_of_ble_eq_true rfl, Nat.le_of_ble_eq_true rfl⟩) (P_ps hK.2) rfl rfl hl.1 rfl (lv_room (Nat.le_of_ble_eq_true rfl)) d_Mo_append_94 ⟨Nat.le_of_ble_eq_true rfl, Nat.le_of_ble_eq_true rfl⟩) hP hD hS (fun H locs hP hD hS => ?_)
        obtain ⟨i_97, h⟩ := itn h
        refine Ywa_1 hx hb hK hP hD hS i_97 d_Mo_append_97 (fun H locs hP hD hS => ?_)
        refine lv_aload_n hx hb d_Mo_append_98 rfl (lv_at hl 0 rfl) ?_
        refine lv_dup hx hb d_Mo_append_99 rfl ?_
        refine gf_Mo_85 hx hb hg hown hK hP d_Mo_append_100 ?_
        refine lv_iconst (v := 1) hx hb d_Mo_append_103 (by decide) ?_
        refine lv_iadd hx hb d_Mo_append_104 ?_
        refine pf_Mo_85 hx hb hg hown hK hP hD hS d_Mo_append_105 (fun H locs hP hD hS => ?_)
        refine lv_iinc (v := x4 + (-1)) (lv' := [(4, .int (x4 + (-1))), (0, .ref (A 0)), (1, .long x1)]) hx hb d_Mo_append_108 hl (k := 2) rfl (by first | rfl | decide) (by decide) rfl (fun ls hl => ?_)
        refine lv_goto (tgt := 78) hx hb d_Mo_append_111 (by decide) ?_
        exact ih _ _ h _ _ hP hD hS ls (lv_sub hl [1, 2, 0] rfl)
  have L_25 : ∀ (n : Nat) (σ : Sto) (x4 : Int32), p_Mo_append_L25 x1 x3 n σ x4 = some (rr, ss) → ∀ (H : Heap) (locs : List Loc), va_P K.1 vwCl (wY K A σ) H → va_D (YF A) (wY K A σ) → va_S (YF A) s.heap H locs → ∀ ls : Array Slot, lv_has ls 5 [(0, .ref (A 0)), (1, .long x1), (3, .int x3), (4, .int x4)] → W p l e (headSpec w_Mo_append r_Mo_append).room s m args below meth c H locs 0 0 Q (F0 m 25 ls []) := by
    intro n
    induction n with
    | zero => intro _ _ h; cases h
    | succ n ih =>
      intro σ x4 h H locs hP hD hS ls hl
      rw [p_Mo_append_L25] at h
      refine lv_iload hx hb d_Mo_append_25 (lv_at hl 3 rfl) ?_
      refine lv_iload_n hx hb d_Mo_append_27 rfl (lv_at hl 2 rfl) ?_
      refine lv_icmp_ge (tgt := 55) hx hb d_Mo_append_28 (by decide) (fun c_28 => ?_) (fun c_28 => ?_)
      · replace h := itp c_28 h
        refine lv_aload_n hx hb d_Mo_append_55 rfl (lv_at hl 0 rfl) ?_
        refine gf_Mo_85 hx hb hg hown hK hP d_Mo_append_56 ?_
        refine lv_iload_n hx hb d_Mo_append_59 rfl (lv_at hl 2 rfl) ?_
        refine lv_iadd hx hb d_Mo_append_60 ?_
        refine lv_sipush (v := 240) hx hb d_Mo_append_61 (by decide) ?_
        refine lv_icmp_le (tgt := 73) hx hb d_Mo_append_64 (by decide) (fun c_64 => ?_) (fun c_64 => ?_)
        · replace h := itp c_64 h
          refine lv_iload_n hx hb d_Mo_append_73 rfl (lv_at hl 2 rfl) ?_
          refine lv_iconst (v := 1) hx hb d_Mo_append_74 (by decide) ?_
          refine lv_isub hx hb d_Mo_append_75 ?_
          refine lv_istore (lv' := [(4, .int (x3 - 1)), (0, .ref (A 0)), (1, .long x1), (3, .int x3)]) hx hb d_Mo_append_76 hl (by decide) rfl (fun ls hl => ?_)
          exact L_78  FU _ _ h _ _ hP hD hS ls (lv_sub hl [1, 2, 0] rfl)
        · replace h := itf c_64 h
          refine lv_aload_n hx hb d_Mo_append_67 rfl (lv_at hl 0 rfl) ?_
          refine lv_iconst (v := 2) hx hb d_Mo_append_68 (by decide) ?_
          obtain ⟨v_69, σ_69, e_69, h⟩ := bd2_some h
          refine Y_calli (va_runV (As := [.int 2]) (rest := []) ⟨hx, hb, hml, hown, hts⟩ (c_Mo_fail l K A e_69) (cwV 1 hts (gd_V wd_1007 wd_1009 wp_43 wd_10 wd_1010) rfl rfl rfl dv_Mo_fail ⟨Nat.le_of_ble_eq_true rfl, Nat.le_of_ble_eq_true rfl⟩) (Y_pv_0 hK hP hD) rfl rfl hl.1 rfl (lv_room (Nat.le_of_ble_eq_true rfl)) d_Mo_append_69 ⟨Nat.le_of_ble_eq_true rfl, Nat.le_of_ble_eq_true rfl⟩) hS (fun H locs hP hD hS => ?_)
          exact hRet _ _ h _ _ hP hD hS _ _ d_Mo_append_72
      · replace h := itf c_28 h
        refine lv_lload_n hx hb d_Mo_append_31 rfl (lv_at hl 1 rfl) ?_
        refine lv_iload hx hb d_Mo_append_32 (lv_at hl 3 rfl) ?_
        obtain ⟨v_34, e_34, h⟩ := bd1_some h
        refine R_cpi (va_runS (As := [.long x1, .int x4]) (rest := []) ⟨hx, hb, hml, hown, hts⟩ (c_Mo_byteOf l e_34) (va_cwS 2 hts (gd_S wd_1015 wd_1016 wd_10 wd_1017) rfl rfl rfl ds_Mo_byteOf ⟨Nat.le_of_ble_eq_true rfl, Nat.le_of_ble_eq_true rfl⟩) (P_ps hK.2) rfl rfl hl.1 rfl (lv_room (Nat.le_of_ble_eq_true rfl)) d_Mo_append_34 ⟨Nat.le_of_ble_eq_true rfl, Nat.le_of_ble_eq_true rfl⟩) hP hD hS (fun H locs hP hD hS => ?_)
        obtain ⟨v_37, e_37, h⟩ := bd1_some h
        refine R_cpi (va_runS (As := [.int v_34]) (rest := []) ⟨hx, hb, hml, hown, hts⟩ (c_Mo_code l e_37) (va_cwS 1 hts (gd_S wd_1004 wd_1005 wd_10 wd_1006) rfl rfl rfl ds_Mo_code ⟨Nat.le_of_ble_eq_true rfl, Nat.le_of_ble_eq_true rfl⟩) (P_ps hK.2) rfl rfl hl.1 rfl (lv_room (Nat.le_of_ble_eq_true rfl)) d_Mo_append_37 ⟨Nat.le_of_ble_eq_true rfl, Nat.le_of_ble_eq_true rfl⟩) hP hD hS (fun H locs hP hD hS => ?_)
        refine lv_if_ne (tgt := 49) hx hb d_Mo_append_40 (by decide) (fun c_40 => ?_) (fun c_40 => ?_)
        · replace h := itf c_40 h
          refine lv_iinc (v := x4 + 1) (lv' := [(4, .int (x4 + 1)), (0, .ref (A 0)), (1, .long x1), (3, .int x3)]) hx hb d_Mo_append_49 hl (k := 3) rfl (by first | rfl | decide) (by decide) rfl (fun ls hl => ?_)
          refine lv_goto (tgt := 25) hx hb d_Mo_append_52 (by decide) ?_
          exact ih _ _ h _ _ hP hD hS ls (lv_sub hl [1, 2, 3, 0] rfl)
        · replace h := itp c_40 h
          refine lv_aload_n hx hb d_Mo_append_43 rfl (lv_at hl 0 rfl) ?_
          refine lv_iconst (v := 1) hx hb d_Mo_append_44 (by decide) ?_
          obtain ⟨v_45, σ_45, e_45, h⟩ := bd2_some h
          refine Y_calli (va_runV (As := [.int 1]) (rest := []) ⟨hx, hb, hml, hown, hts⟩ (c_Mo_fail l K A e_45) (cwV 1 hts (gd_V wd_1007 wd_1009 wp_43 wd_10 wd_1010) rfl rfl rfl dv_Mo_fail ⟨Nat.le_of_ble_eq_true rfl, Nat.le_of_ble_eq_true rfl⟩) (Y_pv_0 hK hP hD) rfl rfl hl.1 rfl (lv_room (Nat.le_of_ble_eq_true rfl)) d_Mo_append_45 ⟨Nat.le_of_ble_eq_true rfl, Nat.le_of_ble_eq_true rfl⟩) hS (fun H locs hP hD hS => ?_)
          exact hRet _ _ h _ _ hP hD hS _ _ d_Mo_append_48
  refine lv_aload_n hx hb d_Mo_append_0 rfl (lv_at hl 0 rfl) ?_
  refine lv_iconst (v := 0) hx hb d_Mo_append_1 (by decide) ?_
  refine pf_Mo_81 hx hb hg hown hK hP hD hS d_Mo_append_2 (fun H locs hP hD hS => ?_)
  refine lv_iload_n hx hb d_Mo_append_5 rfl (lv_at hl 2 rfl) ?_
  refine lv_iconst (v := 1) hx hb d_Mo_append_6 (by decide) ?_
  refine lv_icmp_lt (tgt := 16) hx hb d_Mo_append_7 (by decide) (fun c_7 => ?_) (fun c_7 => ?_)
  · replace h := itp c_7 h
    refine lv_aload_n hx hb d_Mo_append_16 rfl (lv_at hl 0 rfl) ?_
    refine lv_iconst (v := 1) hx hb d_Mo_append_17 (by decide) ?_
    obtain ⟨v_18, σ_18, e_18, h⟩ := bd2_some h
    refine Y_calli (va_runV (As := [.int 1]) (rest := []) ⟨hx, hb, hml, hown, hts⟩ (c_Mo_fail l K A e_18) (cwV 1 hts (gd_V wd_1007 wd_1009 wp_43 wd_10 wd_1010) rfl rfl rfl dv_Mo_fail ⟨Nat.le_of_ble_eq_true rfl, Nat.le_of_ble_eq_true rfl⟩) (Y_pv_0 hK hP hD) rfl rfl hl.1 rfl (lv_room (Nat.le_of_ble_eq_true rfl)) d_Mo_append_18 ⟨Nat.le_of_ble_eq_true rfl, Nat.le_of_ble_eq_true rfl⟩) hS (fun H locs hP hD hS => ?_)
    exact hRet _ _ h _ _ hP hD hS _ _ d_Mo_append_21
  · replace h := itf c_7 h
    refine lv_iload_n hx hb d_Mo_append_10 rfl (lv_at hl 2 rfl) ?_
    refine lv_bipush (v := 8) hx hb d_Mo_append_11 (by decide) ?_
    refine lv_icmp_le (tgt := 22) hx hb d_Mo_append_13 (by decide) (fun c_13 => ?_) (fun c_13 => ?_)
    · replace h := itp c_13 h
      refine lv_iconst (v := 0) hx hb d_Mo_append_22 (by decide) ?_
      refine lv_istore (lv' := [(4, .int 0), (0, .ref (A 0)), (1, .long x1), (3, .int x3)]) hx hb d_Mo_append_23 hl (by decide) rfl (fun ls hl => ?_)
      exact L_25  FU _ _ h _ _ hP hD hS ls (lv_sub hl [1, 2, 3, 0] rfl)
    · replace h := itf c_13 h
      refine lv_aload_n hx hb d_Mo_append_16 rfl (lv_at hl 0 rfl) ?_
      refine lv_iconst (v := 1) hx hb d_Mo_append_17 (by decide) ?_
      obtain ⟨v_18, σ_18, e_18, h⟩ := bd2_some h
      refine Y_calli (va_runV (As := [.int 1]) (rest := []) ⟨hx, hb, hml, hown, hts⟩ (c_Mo_fail l K A e_18) (cwV 1 hts (gd_V wd_1007 wd_1009 wp_43 wd_10 wd_1010) rfl rfl rfl dv_Mo_fail ⟨Nat.le_of_ble_eq_true rfl, Nat.le_of_ble_eq_true rfl⟩) (Y_pv_0 hK hP hD) rfl rfl hl.1 rfl (lv_room (Nat.le_of_ble_eq_true rfl)) d_Mo_append_18 ⟨Nat.le_of_ble_eq_true rfl, Nat.le_of_ble_eq_true rfl⟩) hS (fun H locs hP hD hS => ?_)
      exact hRet _ _ h _ _ hP hD hS _ _ d_Mo_append_21
def p_Mo_delete_L39 (x1 : Int32) (x2 : Int32) : Nat → Sto → Int32 → Option (Int32 × Sto)
  | 0, _, _ => none
  | n + 1, σ, x3 =>
    (if (σ.1 1) ≤ (x3 + x2) then
        some ((sS σ 1 ((σ.1 1) - x2)).1 1, sS σ 1 ((σ.1 1) - x2))
      else
        if inR (x3 + x2) 240 then if inR x3 240 then p_Mo_delete_L39 x1 x2 n (sA σ 1 x3.toNatClampNeg (σ.2.1 1 ((x3 + x2).toNatClampNeg))) (x3 + 1) else none else none)
def p_Mo_delete (σ : Sto) (x1 : Int32) (x2 : Int32) : Option (Int32 × Sto) :=
  (if x1 < 0 then
      bd2 (p_Mo_fail (sS σ 0 0) 1) fun v_33 σ_33 =>
      some (v_33, σ_33)
    else
      (if x2 < 0 then
        bd2 (p_Mo_fail (sS σ 0 0) 1) fun v_33 σ_33 =>
        some (v_33, σ_33)
      else
        (if ((sS σ 0 0).1 1) < x1 then
          bd2 (p_Mo_fail (sS σ 0 0) 1) fun v_33 σ_33 =>
          some (v_33, σ_33)
        else
          (if x2 ≤ (((sS σ 0 0).1 1) - x1) then
            p_Mo_delete_L39 x1 x2 FU (sS σ 0 0) x1
          else
            bd2 (p_Mo_fail (sS σ 0 0) 1) fun v_33 σ_33 =>
            some (v_33, σ_33)))))
abbrev w_Mo_delete : List Cond := Cond.code y_Mo_delete b_Mo_delete 4 (some .int) :: Tg
abbrev r_Mo_delete : Room := { frames := 1, cells := 0, slots := 0, locals := 21 }
theorem dv_Mo_delete : y_Mo_delete.cls = "LanguageServerModel" ∧ y_Mo_delete.cls ≠ "java/lang/invoke/MethodHandle" ∧ y_Mo_delete.cls ≠ "java/lang/invoke/VarHandle" ∧ (parseMethodDescriptor y_Mo_delete.desc).map (fun d => d.parameters.length) = some 2 := by decide +kernel
set_option maxHeartbeats 4000000 in
set_option maxRecDepth 100000 in
theorem c_Mo_delete (l : Launch) (K : Kst) (A : Nat → Nat) {σ : Sto} {x1 : Int32} {x2 : Int32} {rr : Int32} {ss : Sto} (h : p_Mo_delete σ x1 x2 = some (rr, ss)) : Met l y_Mo_delete w_Mo_delete r_Mo_delete (va_Pc [.ref (A 0), .int x1, .int x2] (YB K A σ)) (YQi K A rr ss) 0 0 (YF A) := by
  refine Met.ofW (cc := b_Mo_delete) (maxL := 4) (ret := (some .int)) (by decide) rfl ?_
  intro p e s m args below meth c s₁ B hml hv
  obtain ⟨rfl, hP, hK, hD⟩ := hv
  have hx := B.exec
  have hb := B.bytes
  have hr := B.returns
  have hts := atoms_spec (ws := w_Mo_delete) B.pre
  have hg : ∀ w ∈ Tg, w.before _ s = true := fun w q => hts w (List.mem_cons_of_mem _ q)
  have hown : s.vm.findClass "LanguageServerModel" = some m.cls := findClass_of_methodNamed B.named
  have hlocks := B.notSynchronized
  have hS : va_S (YF A) s.heap s.heap [] := va_S.rf
  have hl := lv_entry ([.ref (A 0), .int x1, .int x2]) (n := 4) (Nat.le_of_ble_eq_true rfl)
  rw [lg_entry_eq]
  generalize (lg_sl ([.ref (A 0), .int x1, .int x2]) ++ List.replicate (4 - (lg_sl ([.ref (A 0), .int x1, .int x2])).length) Slot.unset).toArray = ls at hl ⊢
  have hl : lv_has ls 4 [(0, .ref (A 0)), (1, .int x1), (2, .int x2)] := hl
  generalize hargs : ([.ref (A 0), .int x1, .int x2] : List Value).toArray = args at hg hts ⊢
  obtain ⟨Q, hQ⟩ : ∃ Q, Q = MQ below (YQi K A rr ss) args s 0 0 (YF A) := ⟨_, rfl⟩
  rw [← hQ]
  have hRet : ∀ (v : Int32) (σ : Sto), some (v, σ) = some (rr, ss) → ∀ (H : Heap) (locs : List Loc), va_P K.1 vwCl (wY K A σ) H → va_D (YF A) (wY K A σ) → va_S (YF A) s.heap H locs → ∀ (pc : Nat) (ls : Array Slot), decode b_Mo_delete pc = .ok (.ireturn, 1) → W p l e (headSpec w_Mo_delete r_Mo_delete).room s m args below meth c H locs 0 0 Q (F0 m pc ls [.int v]) := by
    intro v σ h H locs hP hD hS pc ls hd
    cases h
    subst hQ
    exact W.iret hx hb hr (fun t ht hW => ⟨⟨_, (), rfl, rfl, by rw [ht]; exact hP, RK.warm hW hK, hD⟩, hS.F ht⟩) hS.2.2 hd
  clear hQ
  unfold p_Mo_delete at h
  have L_39 : ∀ (n : Nat) (σ : Sto) (x3 : Int32), p_Mo_delete_L39 x1 x2 n σ x3 = some (rr, ss) → ∀ (H : Heap) (locs : List Loc), va_P K.1 vwCl (wY K A σ) H → va_D (YF A) (wY K A σ) → va_S (YF A) s.heap H locs → ∀ ls : Array Slot, lv_has ls 4 [(0, .ref (A 0)), (2, .int x2), (3, .int x3)] → W p l e (headSpec w_Mo_delete r_Mo_delete).room s m args below meth c H locs 0 0 Q (F0 m 39 ls []) := by
    intro n
    induction n with
    | zero => intro _ _ h; cases h
    | succ n ih =>
      intro σ x3 h H locs hP hD hS ls hl
      rw [p_Mo_delete_L39] at h
      refine lv_iload_n hx hb d_Mo_delete_39 rfl (lv_at hl 2 rfl) ?_
      refine lv_iload_n hx hb d_Mo_delete_40 rfl (lv_at hl 1 rfl) ?_
      refine lv_iadd hx hb d_Mo_delete_41 ?_
      refine lv_aload_n hx hb d_Mo_delete_42 rfl (lv_at hl 0 rfl) ?_
      refine gf_Mo_85 hx hb hg hown hK hP d_Mo_delete_43 ?_
      refine lv_icmp_ge (tgt := 69) hx hb d_Mo_delete_46 (by decide) (fun c_46 => ?_) (fun c_46 => ?_)
      · replace h := itp c_46 h
        refine lv_aload_n hx hb d_Mo_delete_69 rfl (lv_at hl 0 rfl) ?_
        refine lv_dup hx hb d_Mo_delete_70 rfl ?_
        refine gf_Mo_85 hx hb hg hown hK hP d_Mo_delete_71 ?_
        refine lv_iload_n hx hb d_Mo_delete_74 rfl (lv_at hl 1 rfl) ?_
        refine lv_isub hx hb d_Mo_delete_75 ?_
        refine pf_Mo_85 hx hb hg hown hK hP hD hS d_Mo_delete_76 (fun H locs hP hD hS => ?_)
        refine lv_aload_n hx hb d_Mo_delete_79 rfl (lv_at hl 0 rfl) ?_
        refine gf_Mo_85 hx hb hg hown hK hP d_Mo_delete_80 ?_
        exact hRet _ _ h _ _ hP hD hS _ _ d_Mo_delete_83
      · replace h := itf c_46 h
        refine lv_aload_n hx hb d_Mo_delete_49 rfl (lv_at hl 0 rfl) ?_
        refine gf_Mo_7 hx hb hg hown hK hP d_Mo_delete_50 ?_
        refine lv_iload_n hx hb d_Mo_delete_53 rfl (lv_at hl 2 rfl) ?_
        refine lv_aload_n hx hb d_Mo_delete_54 rfl (lv_at hl 0 rfl) ?_
        refine gf_Mo_7 hx hb hg hown hK hP d_Mo_delete_55 ?_
        refine lv_iload_n hx hb d_Mo_delete_58 rfl (lv_at hl 2 rfl) ?_
        refine lv_iload_n hx hb d_Mo_delete_59 rfl (lv_at hl 1 rfl) ?_
        refine lv_iadd hx hb d_Mo_delete_60 ?_
        obtain ⟨i_61, h⟩ := itn h
        refine Yra_1 hx hb hK hP i_61 d_Mo_delete_61 ?_
        obtain ⟨i_62, h⟩ := itn h
        refine Ywa_1 hx hb hK hP hD hS i_62 d_Mo_delete_62 (fun H locs hP hD hS => ?_)
        refine lv_iinc (v := x3 + 1) (lv' := [(3, .int (x3 + 1)), (0, .ref (A 0)), (2, .int x2)]) hx hb d_Mo_delete_63 hl (k := 2) rfl (by first | rfl | decide) (by decide) rfl (fun ls hl => ?_)
        refine lv_goto (tgt := 39) hx hb d_Mo_delete_66 (by decide) ?_
        exact ih _ _ h _ _ hP hD hS ls (lv_sub hl [1, 2, 0] rfl)
  refine lv_aload_n hx hb d_Mo_delete_0 rfl (lv_at hl 0 rfl) ?_
  refine lv_iconst (v := 0) hx hb d_Mo_delete_1 (by decide) ?_
  refine pf_Mo_81 hx hb hg hown hK hP hD hS d_Mo_delete_2 (fun H locs hP hD hS => ?_)
  refine lv_iload_n hx hb d_Mo_delete_5 rfl (lv_at hl 1 rfl) ?_
  refine lv_if_lt (tgt := 31) hx hb d_Mo_delete_6 (by decide) (fun c_6 => ?_) (fun c_6 => ?_)
  · replace h := itp c_6 h
    refine lv_aload_n hx hb d_Mo_delete_31 rfl (lv_at hl 0 rfl) ?_
    refine lv_iconst (v := 1) hx hb d_Mo_delete_32 (by decide) ?_
    obtain ⟨v_33, σ_33, e_33, h⟩ := bd2_some h
    refine Y_calli (va_runV (As := [.int 1]) (rest := []) ⟨hx, hb, hml, hown, hts⟩ (c_Mo_fail l K A e_33) (cwV 1 hts (gd_V wd_1007 wd_1009 wp_43 wd_10 wd_1010) rfl rfl rfl dv_Mo_fail ⟨Nat.le_of_ble_eq_true rfl, Nat.le_of_ble_eq_true rfl⟩) (Y_pv_0 hK hP hD) rfl rfl hl.1 rfl (lv_room (Nat.le_of_ble_eq_true rfl)) d_Mo_delete_33 ⟨Nat.le_of_ble_eq_true rfl, Nat.le_of_ble_eq_true rfl⟩) hS (fun H locs hP hD hS => ?_)
    exact hRet _ _ h _ _ hP hD hS _ _ d_Mo_delete_36
  · replace h := itf c_6 h
    refine lv_iload_n hx hb d_Mo_delete_9 rfl (lv_at hl 2 rfl) ?_
    refine lv_if_lt (tgt := 31) hx hb d_Mo_delete_10 (by decide) (fun c_10 => ?_) (fun c_10 => ?_)
    · replace h := itp c_10 h
      refine lv_aload_n hx hb d_Mo_delete_31 rfl (lv_at hl 0 rfl) ?_
      refine lv_iconst (v := 1) hx hb d_Mo_delete_32 (by decide) ?_
      obtain ⟨v_33, σ_33, e_33, h⟩ := bd2_some h
      refine Y_calli (va_runV (As := [.int 1]) (rest := []) ⟨hx, hb, hml, hown, hts⟩ (c_Mo_fail l K A e_33) (cwV 1 hts (gd_V wd_1007 wd_1009 wp_43 wd_10 wd_1010) rfl rfl rfl dv_Mo_fail ⟨Nat.le_of_ble_eq_true rfl, Nat.le_of_ble_eq_true rfl⟩) (Y_pv_0 hK hP hD) rfl rfl hl.1 rfl (lv_room (Nat.le_of_ble_eq_true rfl)) d_Mo_delete_33 ⟨Nat.le_of_ble_eq_true rfl, Nat.le_of_ble_eq_true rfl⟩) hS (fun H locs hP hD hS => ?_)
      exact hRet _ _ h _ _ hP hD hS _ _ d_Mo_delete_36
    · replace h := itf c_10 h
      refine lv_iload_n hx hb d_Mo_delete_13 rfl (lv_at hl 1 rfl) ?_
      refine lv_aload_n hx hb d_Mo_delete_14 rfl (lv_at hl 0 rfl) ?_
      refine gf_Mo_85 hx hb hg hown hK hP d_Mo_delete_15 ?_
      refine lv_icmp_gt (tgt := 31) hx hb d_Mo_delete_18 (by decide) (fun c_18 => ?_) (fun c_18 => ?_)
      · replace h := itp c_18 h
        refine lv_aload_n hx hb d_Mo_delete_31 rfl (lv_at hl 0 rfl) ?_
        refine lv_iconst (v := 1) hx hb d_Mo_delete_32 (by decide) ?_
        obtain ⟨v_33, σ_33, e_33, h⟩ := bd2_some h
        refine Y_calli (va_runV (As := [.int 1]) (rest := []) ⟨hx, hb, hml, hown, hts⟩ (c_Mo_fail l K A e_33) (cwV 1 hts (gd_V wd_1007 wd_1009 wp_43 wd_10 wd_1010) rfl rfl rfl dv_Mo_fail ⟨Nat.le_of_ble_eq_true rfl, Nat.le_of_ble_eq_true rfl⟩) (Y_pv_0 hK hP hD) rfl rfl hl.1 rfl (lv_room (Nat.le_of_ble_eq_true rfl)) d_Mo_delete_33 ⟨Nat.le_of_ble_eq_true rfl, Nat.le_of_ble_eq_true rfl⟩) hS (fun H locs hP hD hS => ?_)
        exact hRet _ _ h _ _ hP hD hS _ _ d_Mo_delete_36
      · replace h := itf c_18 h
        refine lv_iload_n hx hb d_Mo_delete_21 rfl (lv_at hl 2 rfl) ?_
        refine lv_aload_n hx hb d_Mo_delete_22 rfl (lv_at hl 0 rfl) ?_
        refine gf_Mo_85 hx hb hg hown hK hP d_Mo_delete_23 ?_
        refine lv_iload_n hx hb d_Mo_delete_26 rfl (lv_at hl 1 rfl) ?_
        refine lv_isub hx hb d_Mo_delete_27 ?_
        refine lv_icmp_le (tgt := 37) hx hb d_Mo_delete_28 (by decide) (fun c_28 => ?_) (fun c_28 => ?_)
        · replace h := itp c_28 h
          refine lv_iload_n hx hb d_Mo_delete_37 rfl (lv_at hl 1 rfl) ?_
          refine lv_istore_n (lv' := [(3, .int x1), (0, .ref (A 0)), (1, .int x1), (2, .int x2)]) hx hb d_Mo_delete_38 rfl hl (by decide) rfl (fun ls hl => ?_)
          exact L_39  FU _ _ h _ _ hP hD hS ls (lv_sub hl [1, 3, 0] rfl)
        · replace h := itf c_28 h
          refine lv_aload_n hx hb d_Mo_delete_31 rfl (lv_at hl 0 rfl) ?_
          refine lv_iconst (v := 1) hx hb d_Mo_delete_32 (by decide) ?_
          obtain ⟨v_33, σ_33, e_33, h⟩ := bd2_some h
          refine Y_calli (va_runV (As := [.int 1]) (rest := []) ⟨hx, hb, hml, hown, hts⟩ (c_Mo_fail l K A e_33) (cwV 1 hts (gd_V wd_1007 wd_1009 wp_43 wd_10 wd_1010) rfl rfl rfl dv_Mo_fail ⟨Nat.le_of_ble_eq_true rfl, Nat.le_of_ble_eq_true rfl⟩) (Y_pv_0 hK hP hD) rfl rfl hl.1 rfl (lv_room (Nat.le_of_ble_eq_true rfl)) d_Mo_delete_33 ⟨Nat.le_of_ble_eq_true rfl, Nat.le_of_ble_eq_true rfl⟩) hS (fun H locs hP hD hS => ?_)
          exact hRet _ _ h _ _ hP hD hS _ _ d_Mo_delete_36
def p_Mo_text (σ : Sto) (x1 : Int32) : Option (Int32 × Sto) :=
  (if x1 < 0 then
      bd2 (p_Mo_fail (sS σ 0 0) 1) fun v_19 σ_19 =>
      some (v_19, σ_19)
    else
      (if x1 < ((sS σ 0 0).1 1) then
        if inR x1 240 then some ((sS σ 0 0).2.1 1 x1.toNatClampNeg, sS σ 0 0) else none
      else
        bd2 (p_Mo_fail (sS σ 0 0) 1) fun v_19 σ_19 =>
        some (v_19, σ_19)))
abbrev w_Mo_text : List Cond := Cond.code y_Mo_text b_Mo_text 2 (some .int) :: Tg
abbrev r_Mo_text : Room := { frames := 1, cells := 0, slots := 0, locals := 21 }
theorem dv_Mo_text : y_Mo_text.cls = "LanguageServerModel" ∧ y_Mo_text.cls ≠ "java/lang/invoke/MethodHandle" ∧ y_Mo_text.cls ≠ "java/lang/invoke/VarHandle" ∧ (parseMethodDescriptor y_Mo_text.desc).map (fun d => d.parameters.length) = some 1 := by decide +kernel
set_option maxHeartbeats 4000000 in
set_option maxRecDepth 100000 in
theorem c_Mo_text (l : Launch) (K : Kst) (A : Nat → Nat) {σ : Sto} {x1 : Int32} {rr : Int32} {ss : Sto} (h : p_Mo_text σ x1 = some (rr, ss)) : Met l y_Mo_text w_Mo_text r_Mo_text (va_Pc [.ref (A 0), .int x1] (YB K A σ)) (YQi K A rr ss) 0 0 (YF A) := by
  refine Met.ofW (cc := b_Mo_text) (maxL := 2) (ret := (some .int)) (by decide) rfl ?_
  intro p e s m args below meth c s₁ B hml hv
  obtain ⟨rfl, hP, hK, hD⟩ := hv
  have hx := B.exec
  have hb := B.bytes
  have hr := B.returns
  have hts := atoms_spec (ws := w_Mo_text) B.pre
  have hg : ∀ w ∈ Tg, w.before _ s = true := fun w q => hts w (List.mem_cons_of_mem _ q)
  have hown : s.vm.findClass "LanguageServerModel" = some m.cls := findClass_of_methodNamed B.named
  have hlocks := B.notSynchronized
  have hS : va_S (YF A) s.heap s.heap [] := va_S.rf
  have hl := lv_entry ([.ref (A 0), .int x1]) (n := 2) (Nat.le_of_ble_eq_true rfl)
  rw [lg_entry_eq]
  generalize (lg_sl ([.ref (A 0), .int x1]) ++ List.replicate (2 - (lg_sl ([.ref (A 0), .int x1])).length) Slot.unset).toArray = ls at hl ⊢
  have hl : lv_has ls 2 [(0, .ref (A 0)), (1, .int x1)] := hl
  generalize hargs : ([.ref (A 0), .int x1] : List Value).toArray = args at hg hts ⊢
  obtain ⟨Q, hQ⟩ : ∃ Q, Q = MQ below (YQi K A rr ss) args s 0 0 (YF A) := ⟨_, rfl⟩
  rw [← hQ]
  have hRet : ∀ (v : Int32) (σ : Sto), some (v, σ) = some (rr, ss) → ∀ (H : Heap) (locs : List Loc), va_P K.1 vwCl (wY K A σ) H → va_D (YF A) (wY K A σ) → va_S (YF A) s.heap H locs → ∀ (pc : Nat) (ls : Array Slot), decode b_Mo_text pc = .ok (.ireturn, 1) → W p l e (headSpec w_Mo_text r_Mo_text).room s m args below meth c H locs 0 0 Q (F0 m pc ls [.int v]) := by
    intro v σ h H locs hP hD hS pc ls hd
    cases h
    subst hQ
    exact W.iret hx hb hr (fun t ht hW => ⟨⟨_, (), rfl, rfl, by rw [ht]; exact hP, RK.warm hW hK, hD⟩, hS.F ht⟩) hS.2.2 hd
  clear hQ
  unfold p_Mo_text at h
  refine lv_aload_n hx hb d_Mo_text_0 rfl (lv_at hl 0 rfl) ?_
  refine lv_iconst (v := 0) hx hb d_Mo_text_1 (by decide) ?_
  refine pf_Mo_81 hx hb hg hown hK hP hD hS d_Mo_text_2 (fun H locs hP hD hS => ?_)
  refine lv_iload_n hx hb d_Mo_text_5 rfl (lv_at hl 1 rfl) ?_
  refine lv_if_lt (tgt := 17) hx hb d_Mo_text_6 (by decide) (fun c_6 => ?_) (fun c_6 => ?_)
  · replace h := itp c_6 h
    refine lv_aload_n hx hb d_Mo_text_17 rfl (lv_at hl 0 rfl) ?_
    refine lv_iconst (v := 1) hx hb d_Mo_text_18 (by decide) ?_
    obtain ⟨v_19, σ_19, e_19, h⟩ := bd2_some h
    refine Y_calli (va_runV (As := [.int 1]) (rest := []) ⟨hx, hb, hml, hown, hts⟩ (c_Mo_fail l K A e_19) (cwV 1 hts (gd_V wd_1007 wd_1009 wp_43 wd_10 wd_1010) rfl rfl rfl dv_Mo_fail ⟨Nat.le_of_ble_eq_true rfl, Nat.le_of_ble_eq_true rfl⟩) (Y_pv_0 hK hP hD) rfl rfl hl.1 rfl (lv_room (Nat.le_of_ble_eq_true rfl)) d_Mo_text_19 ⟨Nat.le_of_ble_eq_true rfl, Nat.le_of_ble_eq_true rfl⟩) hS (fun H locs hP hD hS => ?_)
    refine lv_goto (tgt := 31) hx hb d_Mo_text_22 (by decide) ?_
    exact hRet _ _ h _ _ hP hD hS _ _ d_Mo_text_31
  · replace h := itf c_6 h
    refine lv_iload_n hx hb d_Mo_text_9 rfl (lv_at hl 1 rfl) ?_
    refine lv_aload_n hx hb d_Mo_text_10 rfl (lv_at hl 0 rfl) ?_
    refine gf_Mo_85 hx hb hg hown hK hP d_Mo_text_11 ?_
    refine lv_icmp_lt (tgt := 25) hx hb d_Mo_text_14 (by decide) (fun c_14 => ?_) (fun c_14 => ?_)
    · replace h := itp c_14 h
      refine lv_aload_n hx hb d_Mo_text_25 rfl (lv_at hl 0 rfl) ?_
      refine gf_Mo_7 hx hb hg hown hK hP d_Mo_text_26 ?_
      refine lv_iload_n hx hb d_Mo_text_29 rfl (lv_at hl 1 rfl) ?_
      obtain ⟨i_30, h⟩ := itn h
      refine Yra_1 hx hb hK hP i_30 d_Mo_text_30 ?_
      exact hRet _ _ h _ _ hP hD hS _ _ d_Mo_text_31
    · replace h := itf c_14 h
      refine lv_aload_n hx hb d_Mo_text_17 rfl (lv_at hl 0 rfl) ?_
      refine lv_iconst (v := 1) hx hb d_Mo_text_18 (by decide) ?_
      obtain ⟨v_19, σ_19, e_19, h⟩ := bd2_some h
      refine Y_calli (va_runV (As := [.int 1]) (rest := []) ⟨hx, hb, hml, hown, hts⟩ (c_Mo_fail l K A e_19) (cwV 1 hts (gd_V wd_1007 wd_1009 wp_43 wd_10 wd_1010) rfl rfl rfl dv_Mo_fail ⟨Nat.le_of_ble_eq_true rfl, Nat.le_of_ble_eq_true rfl⟩) (Y_pv_0 hK hP hD) rfl rfl hl.1 rfl (lv_room (Nat.le_of_ble_eq_true rfl)) d_Mo_text_19 ⟨Nat.le_of_ble_eq_true rfl, Nat.le_of_ble_eq_true rfl⟩) hS (fun H locs hP hD hS => ?_)
      refine lv_goto (tgt := 31) hx hb d_Mo_text_22 (by decide) ?_
      exact hRet _ _ h _ _ hP hD hS _ _ d_Mo_text_31
def p_Mo_letter_b12 (x0 : Int32) : Option Int32 :=
  (if x0 < 97 then
      some 0
    else
      (if (122 : Int32) < x0 then
        some 0
      else
        some 1))
def p_Mo_letter (x0 : Int32) : Option Int32 :=
  (if x0 < 65 then
      p_Mo_letter_b12 x0
    else
      (if x0 ≤ 90 then
        some 1
      else
        p_Mo_letter_b12 x0))
abbrev w_Mo_letter : List Cond := Cond.code y_Mo_letter b_Mo_letter 1 (some .boolean) :: Tg
abbrev r_Mo_letter : Room := { frames := 0, cells := 0, slots := 0, locals := 0 }
theorem ds_Mo_letter : y_Mo_letter.cls ≠ "java/lang/invoke/MethodHandle" ∧ y_Mo_letter.cls ≠ "java/lang/invoke/VarHandle" ∧ (parseMethodDescriptor y_Mo_letter.desc).map (fun d => d.parameters.length) = some 1 := by decide +kernel
set_option maxHeartbeats 4000000 in
set_option maxRecDepth 100000 in
theorem c_Mo_letter (l : Launch) {x0 : Int32} {rr : Int32} (h : p_Mo_letter x0 = some rr) : Met l y_Mo_letter w_Mo_letter r_Mo_letter (va_Pc [.int x0] KN) (PQi rr) 0 0 PF := by
  refine Met.ofW (cc := b_Mo_letter) (maxL := 1) (ret := (some .boolean)) (by decide) rfl ?_
  intro p e s m args below meth c s₁ B hml hv
  obtain ⟨rfl, hk⟩ := hv
  have hx := B.exec
  have hb := B.bytes
  have hr := B.returns
  have hts := atoms_spec (ws := w_Mo_letter) B.pre
  have hg : ∀ w ∈ Tg, w.before _ s = true := fun w q => hts w (List.mem_cons_of_mem _ q)
  have hown : s.vm.findClass "LanguageServerModel" = some m.cls := findClass_of_methodNamed B.named
  have hlocks := B.notSynchronized
  have hS : va_S (PF) s.heap s.heap [] := va_S.rf
  have hl := lv_entry ([.int x0]) (n := 1) (Nat.le_of_ble_eq_true rfl)
  rw [lg_entry_eq]
  generalize (lg_sl ([.int x0]) ++ List.replicate (1 - (lg_sl ([.int x0])).length) Slot.unset).toArray = ls at hl ⊢
  have hl : lv_has ls 1 [(0, .int x0)] := hl
  generalize hargs : ([.int x0] : List Value).toArray = args at hg hts ⊢
  obtain ⟨Q, hQ⟩ : ∃ Q, Q = MQ below (PQi rr) args s 0 0 (PF) := ⟨_, rfl⟩
  rw [← hQ]
  have hRet : ∀ (v : Int32), (narrow .boolean (.int v) = .int v) → some v = some rr → ∀ (H : Heap) (locs : List Loc), va_S (PF) s.heap H locs → ∀ (pc : Nat) (ls : Array Slot), decode b_Mo_letter pc = .ok (.ireturn, 1) → W p l e (headSpec w_Mo_letter r_Mo_letter).room s m args below meth c H locs 0 0 Q (F0 m pc ls [.int v]) := by
    intro v hn h H locs hS pc ls hd
    cases h
    subst hQ
    exact W.zret hx hb hr hn (fun t ht hW => ⟨⟨_, (), rfl, rfl, trivial⟩, hS.F ht⟩) hS.2.2 hd
  clear hQ
  unfold p_Mo_letter at h
  have J_12 : p_Mo_letter_b12 x0 = some rr → ∀ (H : Heap) (locs : List Loc), va_S PF s.heap H locs → ∀ ls : Array Slot, lv_has ls 1 [(0, .int x0)] → W p l e (headSpec w_Mo_letter r_Mo_letter).room s m args below meth c H locs 0 0 Q (F0 m 12 ls []) := by
    intro   h H locs hS ls hl
    rw [p_Mo_letter_b12] at h
    refine lv_iload_n hx hb d_Mo_letter_12 rfl (lv_at hl 0 rfl) ?_
    refine lv_bipush (v := 97) hx hb d_Mo_letter_13 (by decide) ?_
    refine lv_icmp_lt (tgt := 28) hx hb d_Mo_letter_15 (by decide) (fun c_15 => ?_) (fun c_15 => ?_)
    · replace h := itp c_15 h
      refine lv_iconst (v := 0) hx hb d_Mo_letter_28 (by decide) ?_
      exact hRet _ rfl h _ _ hS _ _ d_Mo_letter_29
    · replace h := itf c_15 h
      refine lv_iload_n hx hb d_Mo_letter_18 rfl (lv_at hl 0 rfl) ?_
      refine lv_bipush (v := 122) hx hb d_Mo_letter_19 (by decide) ?_
      refine lv_icmp_gt (tgt := 28) hx hb d_Mo_letter_21 (by decide) (fun c_21 => ?_) (fun c_21 => ?_)
      · replace h := itp c_21 h
        refine lv_iconst (v := 0) hx hb d_Mo_letter_28 (by decide) ?_
        exact hRet _ rfl h _ _ hS _ _ d_Mo_letter_29
      · replace h := itf c_21 h
        refine lv_iconst (v := 1) hx hb d_Mo_letter_24 (by decide) ?_
        refine lv_goto (tgt := 29) hx hb d_Mo_letter_25 (by decide) ?_
        exact hRet _ rfl h _ _ hS _ _ d_Mo_letter_29
  refine lv_iload_n hx hb d_Mo_letter_0 rfl (lv_at hl 0 rfl) ?_
  refine lv_bipush (v := 65) hx hb d_Mo_letter_1 (by decide) ?_
  refine lv_icmp_lt (tgt := 12) hx hb d_Mo_letter_3 (by decide) (fun c_3 => ?_) (fun c_3 => ?_)
  · replace h := itp c_3 h
    exact J_12   h _ _ hS ls (lv_sub hl [0] rfl)
  · replace h := itf c_3 h
    refine lv_iload_n hx hb d_Mo_letter_6 rfl (lv_at hl 0 rfl) ?_
    refine lv_bipush (v := 90) hx hb d_Mo_letter_7 (by decide) ?_
    refine lv_icmp_le (tgt := 24) hx hb d_Mo_letter_9 (by decide) (fun c_9 => ?_) (fun c_9 => ?_)
    · replace h := itp c_9 h
      refine lv_iconst (v := 1) hx hb d_Mo_letter_24 (by decide) ?_
      refine lv_goto (tgt := 29) hx hb d_Mo_letter_25 (by decide) ?_
      exact hRet _ rfl h _ _ hS _ _ d_Mo_letter_29
    · replace h := itf c_9 h
      exact J_12   h _ _ hS ls (lv_sub hl [0] rfl)
def p_Mo_digit (x0 : Int32) : Option Int32 :=
  (if x0 < 48 then
      some 0
    else
      (if (57 : Int32) < x0 then
        some 0
      else
        some 1))
abbrev w_Mo_digit : List Cond := Cond.code y_Mo_digit b_Mo_digit 1 (some .boolean) :: Tg
abbrev r_Mo_digit : Room := { frames := 0, cells := 0, slots := 0, locals := 0 }
theorem ds_Mo_digit : y_Mo_digit.cls ≠ "java/lang/invoke/MethodHandle" ∧ y_Mo_digit.cls ≠ "java/lang/invoke/VarHandle" ∧ (parseMethodDescriptor y_Mo_digit.desc).map (fun d => d.parameters.length) = some 1 := by decide +kernel
set_option maxHeartbeats 4000000 in
set_option maxRecDepth 100000 in
theorem c_Mo_digit (l : Launch) {x0 : Int32} {rr : Int32} (h : p_Mo_digit x0 = some rr) : Met l y_Mo_digit w_Mo_digit r_Mo_digit (va_Pc [.int x0] KN) (PQi rr) 0 0 PF := by
  refine Met.ofW (cc := b_Mo_digit) (maxL := 1) (ret := (some .boolean)) (by decide) rfl ?_
  intro p e s m args below meth c s₁ B hml hv
  obtain ⟨rfl, hk⟩ := hv
  have hx := B.exec
  have hb := B.bytes
  have hr := B.returns
  have hts := atoms_spec (ws := w_Mo_digit) B.pre
  have hg : ∀ w ∈ Tg, w.before _ s = true := fun w q => hts w (List.mem_cons_of_mem _ q)
  have hown : s.vm.findClass "LanguageServerModel" = some m.cls := findClass_of_methodNamed B.named
  have hlocks := B.notSynchronized
  have hS : va_S (PF) s.heap s.heap [] := va_S.rf
  have hl := lv_entry ([.int x0]) (n := 1) (Nat.le_of_ble_eq_true rfl)
  rw [lg_entry_eq]
  generalize (lg_sl ([.int x0]) ++ List.replicate (1 - (lg_sl ([.int x0])).length) Slot.unset).toArray = ls at hl ⊢
  have hl : lv_has ls 1 [(0, .int x0)] := hl
  generalize hargs : ([.int x0] : List Value).toArray = args at hg hts ⊢
  obtain ⟨Q, hQ⟩ : ∃ Q, Q = MQ below (PQi rr) args s 0 0 (PF) := ⟨_, rfl⟩
  rw [← hQ]
  have hRet : ∀ (v : Int32), (narrow .boolean (.int v) = .int v) → some v = some rr → ∀ (H : Heap) (locs : List Loc), va_S (PF) s.heap H locs → ∀ (pc : Nat) (ls : Array Slot), decode b_Mo_digit pc = .ok (.ireturn, 1) → W p l e (headSpec w_Mo_digit r_Mo_digit).room s m args below meth c H locs 0 0 Q (F0 m pc ls [.int v]) := by
    intro v hn h H locs hS pc ls hd
    cases h
    subst hQ
    exact W.zret hx hb hr hn (fun t ht hW => ⟨⟨_, (), rfl, rfl, trivial⟩, hS.F ht⟩) hS.2.2 hd
  clear hQ
  unfold p_Mo_digit at h
  refine lv_iload_n hx hb d_Mo_digit_0 rfl (lv_at hl 0 rfl) ?_
  refine lv_bipush (v := 48) hx hb d_Mo_digit_1 (by decide) ?_
  refine lv_icmp_lt (tgt := 16) hx hb d_Mo_digit_3 (by decide) (fun c_3 => ?_) (fun c_3 => ?_)
  · replace h := itp c_3 h
    refine lv_iconst (v := 0) hx hb d_Mo_digit_16 (by decide) ?_
    exact hRet _ rfl h _ _ hS _ _ d_Mo_digit_17
  · replace h := itf c_3 h
    refine lv_iload_n hx hb d_Mo_digit_6 rfl (lv_at hl 0 rfl) ?_
    refine lv_bipush (v := 57) hx hb d_Mo_digit_7 (by decide) ?_
    refine lv_icmp_gt (tgt := 16) hx hb d_Mo_digit_9 (by decide) (fun c_9 => ?_) (fun c_9 => ?_)
    · replace h := itp c_9 h
      refine lv_iconst (v := 0) hx hb d_Mo_digit_16 (by decide) ?_
      exact hRet _ rfl h _ _ hS _ _ d_Mo_digit_17
    · replace h := itf c_9 h
      refine lv_iconst (v := 1) hx hb d_Mo_digit_12 (by decide) ?_
      refine lv_goto (tgt := 17) hx hb d_Mo_digit_13 (by decide) ?_
      exact hRet _ rfl h _ _ hS _ _ d_Mo_digit_17
def p_Mo_wordKind (x0 : Int64) : Option Int32 :=
  (if (lg_cmp x0 427020088179) = 0 then
      some 4
    else
      (if (lg_cmp x0 28561413961049203) = 0 then
        some 5
      else
        (if (lg_cmp x0 6909556) = 0 then
          some 3
        else
          (if (lg_cmp x0 125780071117422) = 0 then
            some 6
          else
            (if (lg_cmp x0 7234935) = 0 then
              some 7
            else
              (if (lg_cmp x0 1952999795) = 0 then
                some 8
              else
                some 1))))))
abbrev w_Mo_wordKind : List Cond := Cond.code y_Mo_wordKind b_Mo_wordKind 2 (some .int) :: Tg
abbrev r_Mo_wordKind : Room := { frames := 0, cells := 0, slots := 0, locals := 0 }
theorem ds_Mo_wordKind : y_Mo_wordKind.cls ≠ "java/lang/invoke/MethodHandle" ∧ y_Mo_wordKind.cls ≠ "java/lang/invoke/VarHandle" ∧ (parseMethodDescriptor y_Mo_wordKind.desc).map (fun d => d.parameters.length) = some 1 := by decide +kernel
set_option maxHeartbeats 4000000 in
set_option maxRecDepth 100000 in
theorem c_Mo_wordKind (l : Launch) {x0 : Int64} {rr : Int32} (h : p_Mo_wordKind x0 = some rr) : Met l y_Mo_wordKind w_Mo_wordKind r_Mo_wordKind (va_Pc [.long x0] KN) (PQi rr) 0 0 PF := by
  refine Met.ofW (cc := b_Mo_wordKind) (maxL := 2) (ret := (some .int)) (by decide) rfl ?_
  intro p e s m args below meth c s₁ B hml hv
  obtain ⟨rfl, hk⟩ := hv
  have hx := B.exec
  have hb := B.bytes
  have hr := B.returns
  have hts := atoms_spec (ws := w_Mo_wordKind) B.pre
  have hg : ∀ w ∈ Tg, w.before _ s = true := fun w q => hts w (List.mem_cons_of_mem _ q)
  have hown : s.vm.findClass "LanguageServerModel" = some m.cls := findClass_of_methodNamed B.named
  have hlocks := B.notSynchronized
  have hS : va_S (PF) s.heap s.heap [] := va_S.rf
  have hl := lv_entry ([.long x0]) (n := 2) (Nat.le_of_ble_eq_true rfl)
  rw [lg_entry_eq]
  generalize (lg_sl ([.long x0]) ++ List.replicate (2 - (lg_sl ([.long x0])).length) Slot.unset).toArray = ls at hl ⊢
  have hl : lv_has ls 2 [(0, .long x0)] := hl
  generalize hargs : ([.long x0] : List Value).toArray = args at hg hts ⊢
  obtain ⟨Q, hQ⟩ : ∃ Q, Q = MQ below (PQi rr) args s 0 0 (PF) := ⟨_, rfl⟩
  rw [← hQ]
  have hRet : ∀ (v : Int32), some v = some rr → ∀ (H : Heap) (locs : List Loc), va_S (PF) s.heap H locs → ∀ (pc : Nat) (ls : Array Slot), decode b_Mo_wordKind pc = .ok (.ireturn, 1) → W p l e (headSpec w_Mo_wordKind r_Mo_wordKind).room s m args below meth c H locs 0 0 Q (F0 m pc ls [.int v]) := by
    intro v h H locs hS pc ls hd
    cases h
    subst hQ
    exact W.iret hx hb hr (fun t ht hW => ⟨⟨_, (), rfl, rfl, trivial⟩, hS.F ht⟩) hS.2.2 hd
  clear hQ
  unfold p_Mo_wordKind at h
  refine lv_lload_n hx hb d_Mo_wordKind_0 rfl (lv_at hl 0 rfl) ?_
  refine lv_ldc2 hx hb hown (hg _ wd_1051) d_Mo_wordKind_1 ?_
  refine W.lcmp hx hb d_Mo_wordKind_4 ?_
  refine lv_if_ne (tgt := 10) hx hb d_Mo_wordKind_5 (by decide) (fun c_5 => ?_) (fun c_5 => ?_)
  · replace h := itf c_5 h
    refine lv_lload_n hx hb d_Mo_wordKind_10 rfl (lv_at hl 0 rfl) ?_
    refine lv_ldc2 hx hb hown (hg _ wd_1052) d_Mo_wordKind_11 ?_
    refine W.lcmp hx hb d_Mo_wordKind_14 ?_
    refine lv_if_ne (tgt := 20) hx hb d_Mo_wordKind_15 (by decide) (fun c_15 => ?_) (fun c_15 => ?_)
    · replace h := itf c_15 h
      refine lv_lload_n hx hb d_Mo_wordKind_20 rfl (lv_at hl 0 rfl) ?_
      refine lv_ldc2 hx hb hown (hg _ wd_1053) d_Mo_wordKind_21 ?_
      refine W.lcmp hx hb d_Mo_wordKind_24 ?_
      refine lv_if_ne (tgt := 30) hx hb d_Mo_wordKind_25 (by decide) (fun c_25 => ?_) (fun c_25 => ?_)
      · replace h := itf c_25 h
        refine lv_lload_n hx hb d_Mo_wordKind_30 rfl (lv_at hl 0 rfl) ?_
        refine lv_ldc2 hx hb hown (hg _ wd_1054) d_Mo_wordKind_31 ?_
        refine W.lcmp hx hb d_Mo_wordKind_34 ?_
        refine lv_if_ne (tgt := 41) hx hb d_Mo_wordKind_35 (by decide) (fun c_35 => ?_) (fun c_35 => ?_)
        · replace h := itf c_35 h
          refine lv_lload_n hx hb d_Mo_wordKind_41 rfl (lv_at hl 0 rfl) ?_
          refine lv_ldc2 hx hb hown (hg _ wd_1055) d_Mo_wordKind_42 ?_
          refine W.lcmp hx hb d_Mo_wordKind_45 ?_
          refine lv_if_ne (tgt := 52) hx hb d_Mo_wordKind_46 (by decide) (fun c_46 => ?_) (fun c_46 => ?_)
          · replace h := itf c_46 h
            refine lv_lload_n hx hb d_Mo_wordKind_52 rfl (lv_at hl 0 rfl) ?_
            refine lv_ldc2 hx hb hown (hg _ wd_1056) d_Mo_wordKind_53 ?_
            refine W.lcmp hx hb d_Mo_wordKind_56 ?_
            refine lv_if_ne (tgt := 65) hx hb d_Mo_wordKind_57 (by decide) (fun c_57 => ?_) (fun c_57 => ?_)
            · replace h := itf c_57 h
              refine lv_iconst (v := 1) hx hb d_Mo_wordKind_65 (by decide) ?_
              exact hRet _ h _ _ hS _ _ d_Mo_wordKind_66
            · replace h := itp c_57 h
              refine lv_bipush (v := 8) hx hb d_Mo_wordKind_60 (by decide) ?_
              refine lv_goto (tgt := 66) hx hb d_Mo_wordKind_62 (by decide) ?_
              exact hRet _ h _ _ hS _ _ d_Mo_wordKind_66
          · replace h := itp c_46 h
            refine lv_bipush (v := 7) hx hb d_Mo_wordKind_49 (by decide) ?_
            exact hRet _ h _ _ hS _ _ d_Mo_wordKind_51
        · replace h := itp c_35 h
          refine lv_bipush (v := 6) hx hb d_Mo_wordKind_38 (by decide) ?_
          exact hRet _ h _ _ hS _ _ d_Mo_wordKind_40
      · replace h := itp c_25 h
        refine lv_iconst (v := 3) hx hb d_Mo_wordKind_28 (by decide) ?_
        exact hRet _ h _ _ hS _ _ d_Mo_wordKind_29
    · replace h := itp c_15 h
      refine lv_iconst (v := 5) hx hb d_Mo_wordKind_18 (by decide) ?_
      exact hRet _ h _ _ hS _ _ d_Mo_wordKind_19
  · replace h := itp c_5 h
    refine lv_iconst (v := 4) hx hb d_Mo_wordKind_8 (by decide) ?_
    exact hRet _ h _ _ hS _ _ d_Mo_wordKind_9
def p_Mo_sign (x0 : Int32) : Option Int32 :=
  (if x0 = 123 then
      some 1
    else
      (if x0 = 125 then
        some 1
      else
        (if x0 = 40 then
          some 1
        else
          (if x0 = 41 then
            some 1
          else
            (if x0 = 59 then
              some 1
            else
              (if x0 = 44 then
                some 1
              else
                (if x0 = 46 then
                  some 1
                else
                  (if x0 = 61 then
                    some 1
                  else
                    (if x0 = 43 then
                      some 1
                    else
                      some 0)))))))))
abbrev w_Mo_sign : List Cond := Cond.code y_Mo_sign b_Mo_sign 1 (some .boolean) :: Tg
abbrev r_Mo_sign : Room := { frames := 0, cells := 0, slots := 0, locals := 0 }
theorem ds_Mo_sign : y_Mo_sign.cls ≠ "java/lang/invoke/MethodHandle" ∧ y_Mo_sign.cls ≠ "java/lang/invoke/VarHandle" ∧ (parseMethodDescriptor y_Mo_sign.desc).map (fun d => d.parameters.length) = some 1 := by decide +kernel
set_option maxHeartbeats 4000000 in
set_option maxRecDepth 100000 in
theorem c_Mo_sign (l : Launch) {x0 : Int32} {rr : Int32} (h : p_Mo_sign x0 = some rr) : Met l y_Mo_sign w_Mo_sign r_Mo_sign (va_Pc [.int x0] KN) (PQi rr) 0 0 PF := by
  refine Met.ofW (cc := b_Mo_sign) (maxL := 1) (ret := (some .boolean)) (by decide) rfl ?_
  intro p e s m args below meth c s₁ B hml hv
  obtain ⟨rfl, hk⟩ := hv
  have hx := B.exec
  have hb := B.bytes
  have hr := B.returns
  have hts := atoms_spec (ws := w_Mo_sign) B.pre
  have hg : ∀ w ∈ Tg, w.before _ s = true := fun w q => hts w (List.mem_cons_of_mem _ q)
  have hown : s.vm.findClass "LanguageServerModel" = some m.cls := findClass_of_methodNamed B.named
  have hlocks := B.notSynchronized
  have hS : va_S (PF) s.heap s.heap [] := va_S.rf
  have hl := lv_entry ([.int x0]) (n := 1) (Nat.le_of_ble_eq_true rfl)
  rw [lg_entry_eq]
  generalize (lg_sl ([.int x0]) ++ List.replicate (1 - (lg_sl ([.int x0])).length) Slot.unset).toArray = ls at hl ⊢
  have hl : lv_has ls 1 [(0, .int x0)] := hl
  generalize hargs : ([.int x0] : List Value).toArray = args at hg hts ⊢
  obtain ⟨Q, hQ⟩ : ∃ Q, Q = MQ below (PQi rr) args s 0 0 (PF) := ⟨_, rfl⟩
  rw [← hQ]
  have hRet : ∀ (v : Int32), (narrow .boolean (.int v) = .int v) → some v = some rr → ∀ (H : Heap) (locs : List Loc), va_S (PF) s.heap H locs → ∀ (pc : Nat) (ls : Array Slot), decode b_Mo_sign pc = .ok (.ireturn, 1) → W p l e (headSpec w_Mo_sign r_Mo_sign).room s m args below meth c H locs 0 0 Q (F0 m pc ls [.int v]) := by
    intro v hn h H locs hS pc ls hd
    cases h
    subst hQ
    exact W.zret hx hb hr hn (fun t ht hW => ⟨⟨_, (), rfl, rfl, trivial⟩, hS.F ht⟩) hS.2.2 hd
  clear hQ
  unfold p_Mo_sign at h
  refine lv_iload_n hx hb d_Mo_sign_0 rfl (lv_at hl 0 rfl) ?_
  refine lv_bipush (v := 123) hx hb d_Mo_sign_1 (by decide) ?_
  refine lv_icmp_eq (tgt := 54) hx hb d_Mo_sign_3 (by decide) (fun c_3 => ?_) (fun c_3 => ?_)
  · replace h := itp c_3 h
    refine lv_iconst (v := 1) hx hb d_Mo_sign_54 (by decide) ?_
    refine lv_goto (tgt := 59) hx hb d_Mo_sign_55 (by decide) ?_
    exact hRet _ rfl h _ _ hS _ _ d_Mo_sign_59
  · replace h := itf c_3 h
    refine lv_iload_n hx hb d_Mo_sign_6 rfl (lv_at hl 0 rfl) ?_
    refine lv_bipush (v := 125) hx hb d_Mo_sign_7 (by decide) ?_
    refine lv_icmp_eq (tgt := 54) hx hb d_Mo_sign_9 (by decide) (fun c_9 => ?_) (fun c_9 => ?_)
    · replace h := itp c_9 h
      refine lv_iconst (v := 1) hx hb d_Mo_sign_54 (by decide) ?_
      refine lv_goto (tgt := 59) hx hb d_Mo_sign_55 (by decide) ?_
      exact hRet _ rfl h _ _ hS _ _ d_Mo_sign_59
    · replace h := itf c_9 h
      refine lv_iload_n hx hb d_Mo_sign_12 rfl (lv_at hl 0 rfl) ?_
      refine lv_bipush (v := 40) hx hb d_Mo_sign_13 (by decide) ?_
      refine lv_icmp_eq (tgt := 54) hx hb d_Mo_sign_15 (by decide) (fun c_15 => ?_) (fun c_15 => ?_)
      · replace h := itp c_15 h
        refine lv_iconst (v := 1) hx hb d_Mo_sign_54 (by decide) ?_
        refine lv_goto (tgt := 59) hx hb d_Mo_sign_55 (by decide) ?_
        exact hRet _ rfl h _ _ hS _ _ d_Mo_sign_59
      · replace h := itf c_15 h
        refine lv_iload_n hx hb d_Mo_sign_18 rfl (lv_at hl 0 rfl) ?_
        refine lv_bipush (v := 41) hx hb d_Mo_sign_19 (by decide) ?_
        refine lv_icmp_eq (tgt := 54) hx hb d_Mo_sign_21 (by decide) (fun c_21 => ?_) (fun c_21 => ?_)
        · replace h := itp c_21 h
          refine lv_iconst (v := 1) hx hb d_Mo_sign_54 (by decide) ?_
          refine lv_goto (tgt := 59) hx hb d_Mo_sign_55 (by decide) ?_
          exact hRet _ rfl h _ _ hS _ _ d_Mo_sign_59
        · replace h := itf c_21 h
          refine lv_iload_n hx hb d_Mo_sign_24 rfl (lv_at hl 0 rfl) ?_
          refine lv_bipush (v := 59) hx hb d_Mo_sign_25 (by decide) ?_
          refine lv_icmp_eq (tgt := 54) hx hb d_Mo_sign_27 (by decide) (fun c_27 => ?_) (fun c_27 => ?_)
          · replace h := itp c_27 h
            refine lv_iconst (v := 1) hx hb d_Mo_sign_54 (by decide) ?_
            refine lv_goto (tgt := 59) hx hb d_Mo_sign_55 (by decide) ?_
            exact hRet _ rfl h _ _ hS _ _ d_Mo_sign_59
          · replace h := itf c_27 h
            refine lv_iload_n hx hb d_Mo_sign_30 rfl (lv_at hl 0 rfl) ?_
            refine lv_bipush (v := 44) hx hb d_Mo_sign_31 (by decide) ?_
            refine lv_icmp_eq (tgt := 54) hx hb d_Mo_sign_33 (by decide) (fun c_33 => ?_) (fun c_33 => ?_)
            · replace h := itp c_33 h
              refine lv_iconst (v := 1) hx hb d_Mo_sign_54 (by decide) ?_
              refine lv_goto (tgt := 59) hx hb d_Mo_sign_55 (by decide) ?_
              exact hRet _ rfl h _ _ hS _ _ d_Mo_sign_59
            · replace h := itf c_33 h
              refine lv_iload_n hx hb d_Mo_sign_36 rfl (lv_at hl 0 rfl) ?_
              refine lv_bipush (v := 46) hx hb d_Mo_sign_37 (by decide) ?_
              refine lv_icmp_eq (tgt := 54) hx hb d_Mo_sign_39 (by decide) (fun c_39 => ?_) (fun c_39 => ?_)
              · replace h := itp c_39 h
                refine lv_iconst (v := 1) hx hb d_Mo_sign_54 (by decide) ?_
                refine lv_goto (tgt := 59) hx hb d_Mo_sign_55 (by decide) ?_
                exact hRet _ rfl h _ _ hS _ _ d_Mo_sign_59
              · replace h := itf c_39 h
                refine lv_iload_n hx hb d_Mo_sign_42 rfl (lv_at hl 0 rfl) ?_
                refine lv_bipush (v := 61) hx hb d_Mo_sign_43 (by decide) ?_
                refine lv_icmp_eq (tgt := 54) hx hb d_Mo_sign_45 (by decide) (fun c_45 => ?_) (fun c_45 => ?_)
                · replace h := itp c_45 h
                  refine lv_iconst (v := 1) hx hb d_Mo_sign_54 (by decide) ?_
                  refine lv_goto (tgt := 59) hx hb d_Mo_sign_55 (by decide) ?_
                  exact hRet _ rfl h _ _ hS _ _ d_Mo_sign_59
                · replace h := itf c_45 h
                  refine lv_iload_n hx hb d_Mo_sign_48 rfl (lv_at hl 0 rfl) ?_
                  refine lv_bipush (v := 43) hx hb d_Mo_sign_49 (by decide) ?_
                  refine lv_icmp_ne (tgt := 58) hx hb d_Mo_sign_51 (by decide) (fun c_51 => ?_) (fun c_51 => ?_)
                  · replace h := itf c_51 h
                    refine lv_iconst (v := 0) hx hb d_Mo_sign_58 (by decide) ?_
                    exact hRet _ rfl h _ _ hS _ _ d_Mo_sign_59
                  · replace h := itp c_51 h
                    refine lv_iconst (v := 1) hx hb d_Mo_sign_54 (by decide) ?_
                    refine lv_goto (tgt := 59) hx hb d_Mo_sign_55 (by decide) ?_
                    exact hRet _ rfl h _ _ hS _ _ d_Mo_sign_59
