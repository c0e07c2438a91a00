def p_LanguageServer_declarationFor (σ τ : Sto) (x1 : Int32) : Option Lr :=
  bd1 (p_Reading_declarationAt σ x1) fun v_5 =>
    (if v_5 = (-1) then
      some (3, 0, σ, τ)
    else
      some (0, v_5, σ, τ))
abbrev w_LS_declarationFor : List Cond := Cond.code y_LS_declarationFor b_LS_declarationFor 3 (some .int) :: Tg
abbrev r_LS_declarationFor : Room := { frames := 1, cells := 0, slots := 0, locals := 22 }
abbrev rt_LS_declarationFor : Room := { frames := 6, cells := 1, slots := 6, locals := 90 }
theorem dv_LS_declarationFor : y_LS_declarationFor.cls = "LanguageServer" ∧ y_LS_declarationFor.cls ≠ "java/lang/invoke/MethodHandle" ∧ y_LS_declarationFor.cls ≠ "java/lang/invoke/VarHandle" ∧ (parseMethodDescriptor y_LS_declarationFor.desc).map (fun d => d.parameters.length) = some 1 := by decide +kernel
set_option maxHeartbeats 4000000 in
set_option maxRecDepth 100000 in
theorem c_LS_declarationFor (l : Launch) (K : Kst) (a : Nat) (A B : Nat → Nat) {σ τ : Sto} {x1 : Int32} {rr : Int32} {ss tt : Sto} (h : p_LanguageServer_declarationFor σ τ x1 = some (0, rr, ss, tt)) : Met l y_LS_declarationFor w_LS_declarationFor r_LS_declarationFor (va_Pc [.ref a, .int x1] (LB K a A B σ τ)) (va_Qi (S := Unit) (fun v _ => v = rr) (fun _ t => LB K a A B ss tt t) (LF a A B)) 0 0 (LF a A B) := by
  refine Met.ofW (cc := b_LS_declarationFor) (maxL := 3) (ret := (some .int)) (by decide) rfl ?_
  intro p e s m args below meth c s₁ Bd hml hv
  obtain ⟨rfl, hP, hLK, hD⟩ := hv
  have hK := hLK.1
  have hx := Bd.exec
  have hb := Bd.bytes
  have hr := Bd.returns
  have hts := atoms_spec (ws := w_LS_declarationFor) Bd.pre
  have hg : ∀ w ∈ Tg, w.before _ s = true := fun w q => hts w (List.mem_cons_of_mem _ q)
  have hown : s.vm.findClass "LanguageServer" = some m.cls := findClass_of_methodNamed Bd.named
  have hlocks := Bd.notSynchronized
  have hS : va_S (LF a A B) s.heap s.heap [] := va_S.rf
  have hl := lv_entry ([.ref a, .int x1]) (n := 3) (Nat.le_of_ble_eq_true rfl)
  rw [lg_entry_eq]
  generalize (lg_sl ([.ref a, .int x1]) ++ List.replicate (3 - (lg_sl ([.ref a, .int x1])).length) Slot.unset).toArray = ls at hl ⊢
  have hl : lv_has ls 3 [(0, .ref a), (1, .int x1)] := hl
  generalize hargs : ([.ref a, .int x1] : List Value).toArray = args at hg hts ⊢
  have hRet : ∀ (v : Int32) (σ τ : Sto), some ((0, v, σ, τ) : Lr) = some (0, rr, ss, tt) → ∀ (H : Heap) (locs : List Loc), va_P K.1 vwCl (wL K a A B σ τ) H → va_D (LF a A B) (wL K a A B σ τ) → va_S (LF a A B) s.heap H locs → ∀ (pc : Nat) (ls : Array Slot), decode b_LS_declarationFor pc = .ok (.ireturn, 1) → W p l e (headSpec w_LS_declarationFor r_LS_declarationFor).room s m args below meth c H locs 0 0 (MQ below (va_Qi (S := Unit) (fun v _ => v = rr) (fun _ t => LB K a A B ss tt t) (LF a A B)) args s 0 0 (LF a A B)) (F0 m pc ls [.int v]) := by
    intro v σ τ h H locs hP hD hS pc ls hd
    cases h
    exact W.iret hx hb hr (fun t ht hW => ⟨⟨_, (), rfl, rfl, LB_of hLK hS hP hD hW (fun q _ => by rw [ht])⟩, hS.F ht⟩) hS.2.2 hd
  unfold p_LanguageServer_declarationFor at h
  refine lv_aload_n hx hb d_LS_declarationFor_0 rfl (lv_at hl 0 rfl) ?_
  refine gflS_10 hx hb hg hown hK hP d_LS_declarationFor_1 ?_
  refine lv_iload_n hx hb d_LS_declarationFor_4 rfl (lv_at hl 1 rfl) ?_
  obtain ⟨v_5, e_5, h⟩ := bd1_some h
  refine G_calli (A := A) (σ := σ) (w1 := ([(a, .inr (0, [.ref (A 0), .ref (B 0)]))] : va_W)) (w2 := (wR K B τ)) (va_runV (As := [.int x1]) (rest := []) ⟨hx, hb, hml, hown, hts⟩ (c_Reading_declarationAt l K A e_5) (cwV 1 hts (gd_V wd_793 wd_794 wd_795 wd_2 wd_796) rfl rfl rfl dv_Reading_declarationAt ⟨Nat.le_of_ble_eq_true rfl, Nat.le_of_ble_eq_true rfl⟩) (R_pv_0 (A := A) hK (mid_P (w1 := ([(a, .inr (0, [.ref (A 0), .ref (B 0)]))] : va_W)) (w2 := (wR K B τ)) hP) (mid_D (w1 := ([(a, .inr (0, [.ref (A 0), .ref (B 0)]))] : va_W)) (w2 := (wR K B τ)) hD (fun _ _ h => wR_in h))) rfl rfl hl.1 rfl (lv_room (Nat.le_of_ble_eq_true rfl)) d_LS_declarationFor_5 ⟨Nat.le_of_ble_eq_true rfl, Nat.le_of_ble_eq_true rfl⟩) hP hD hS (fun H locs hP hD hS => ?_)
  have hP : va_P K.1 vwCl (wL K a A B σ τ) H := hP
  have hD : va_D (LF a A B) (wL K a A B σ τ) := hD
  refine lv_istore_n (lv' := [(2, .int v_5), (0, .ref a), (1, .int x1)]) hx hb d_LS_declarationFor_8 rfl hl (by decide) rfl (fun ls hl => ?_)
  refine lv_iload_n hx hb d_LS_declarationFor_9 rfl (lv_at hl 0 rfl) ?_
  refine lv_iconst (v := (-1)) hx hb d_LS_declarationFor_10 (by decide) ?_
  refine lv_icmp_ne (tgt := 24) hx hb d_LS_declarationFor_11 (by decide) (fun c_11 => ?_) (fun c_11 => ?_)
  · replace h := itf c_11 h
    refine lv_iload_n hx hb d_LS_declarationFor_24 rfl (lv_at hl 0 rfl) ?_
    exact hRet _ _ _ h _ _ hP hD hS _ _ d_LS_declarationFor_25
  · replace h := itp c_11 h
    exact (kne (by decide) h).elim
set_option maxHeartbeats 4000000 in
set_option maxRecDepth 100000 in
theorem ct_LS_declarationFor_3 (l : Launch) (hlt : l.stackTraces = false) (K : Kst) (a : Nat) (A B : Nat → Nat) {σ τ : Sto} {x1 : Int32} {rr : Int32} {ss tt : Sto} (h : p_LanguageServer_declarationFor σ τ x1 = some (3, rr, ss, tt)) : MetT l y_LS_declarationFor w_LS_declarationFor rt_LS_declarationFor (va_Pc [.ref a, .int x1] (LB K a A B σ τ)) "java/util/NoSuchElementException" (LB K a A B ss tt) (LF a A B) 1 6 (LF a A B) := by
  refine MetT.ofW (cc := b_LS_declarationFor) (maxL := 3) (ret := (some .int)) (by decide) rfl ?_
  intro p e s m args below meth c s₁ Bd hml hemp hv
  obtain ⟨rfl, hP, hLK, hD⟩ := hv
  have hK := hLK.1
  have hx := Bd.exec
  have hb := Bd.bytes
  have hr := Bd.returns
  have hts := atoms_spec (ws := w_LS_declarationFor) Bd.pre
  have hg : ∀ w ∈ Tg, w.before _ s = true := fun w q => hts w (List.mem_cons_of_mem _ q)
  have hown : s.vm.findClass "LanguageServer" = some m.cls := findClass_of_methodNamed Bd.named
  have hlocks := Bd.notSynchronized
  have hFs := noSt hP (F := LF a A B) (fun q h => L_in h)
  have hS : va_S (LF a A B) s.heap s.heap [] := va_S.rf
  have hl := lv_entry ([.ref a, .int x1]) (n := 3) (Nat.le_of_ble_eq_true rfl)
  rw [lg_entry_eq]
  generalize (lg_sl ([.ref a, .int x1]) ++ List.replicate (3 - (lg_sl ([.ref a, .int x1])).length) Slot.unset).toArray = ls at hl ⊢
  have hl : lv_has ls 3 [(0, .ref a), (1, .int x1)] := hl
  generalize hargs : ([.ref a, .int x1] : List Value).toArray = args at hg hts ⊢
  unfold p_LanguageServer_declarationFor at h
  refine lv_aload_n hx hb d_LS_declarationFor_0 rfl (lv_at hl 0 rfl) ?_
  refine gflS_10 hx hb hg hown hK hP d_LS_declarationFor_1 ?_
  refine lv_iload_n hx hb d_LS_declarationFor_4 rfl (lv_at hl 1 rfl) ?_
  obtain ⟨v_5, e_5, h⟩ := bd1_some h
  refine G_calli (A := A) (σ := σ) (w1 := ([(a, .inr (0, [.ref (A 0), .ref (B 0)]))] : va_W)) (w2 := (wR K B τ)) (va_runV (As := [.int x1]) (rest := []) ⟨hx, hb, hml, hown, hts⟩ (c_Reading_declarationAt l K A e_5) (cwV 1 hts (gd_V wd_793 wd_794 wd_795 wd_2 wd_796) rfl rfl rfl dv_Reading_declarationAt ⟨Nat.le_of_ble_eq_true rfl, Nat.le_of_ble_eq_true rfl⟩) (R_pv_0 (A := A) hK (mid_P (w1 := ([(a, .inr (0, [.ref (A 0), .ref (B 0)]))] : va_W)) (w2 := (wR K B τ)) hP) (mid_D (w1 := ([(a, .inr (0, [.ref (A 0), .ref (B 0)]))] : va_W)) (w2 := (wR K B τ)) hD (fun _ _ h => wR_in h))) rfl rfl hl.1 rfl (lv_room (Nat.le_of_ble_eq_true rfl)) d_LS_declarationFor_5 ⟨Nat.le_of_ble_eq_true rfl, Nat.le_of_ble_eq_true rfl⟩) hP hD hS (fun H locs hP hD hS => ?_)
  have hP : va_P K.1 vwCl (wL K a A B σ τ) H := hP
  have hD : va_D (LF a A B) (wL K a A B σ τ) := hD
  refine lv_istore_n (lv' := [(2, .int v_5), (0, .ref a), (1, .int x1)]) hx hb d_LS_declarationFor_8 rfl hl (by decide) rfl (fun ls hl => ?_)
  refine lv_iload_n hx hb d_LS_declarationFor_9 rfl (lv_at hl 0 rfl) ?_
  refine lv_iconst (v := (-1)) hx hb d_LS_declarationFor_10 (by decide) ?_
  refine lv_icmp_ne (tgt := 24) hx hb d_LS_declarationFor_11 (by decide) (fun c_11 => ?_) (fun c_11 => ?_)
  · replace h := itf c_11 h
    refine lv_iload_n hx hb d_LS_declarationFor_24 rfl (lv_at hl 0 rfl) ?_
    exact (kne (by decide) h).elim
  · replace h := itp c_11 h
    cases h
    exact T_throw (own := "LanguageServer") (X := "java/util/NoSuchElementException") (text := "no name with a meaning at this place") hx hb hlt hown (by decide +kernel) (xat_NSE hg hLK.2.1 hLK.2.2) dx_NSE_0 dx_NSE_1 dx_NSE_2 dx_NSE_5 (hg _ wd_745) (hg _ wd_17) (hLK.2.1.2.2 (175, "no name with a meaning at this place") (by decide)) (hl.1.trans hml.symm) hemp hlocks hS hFs (fun t hW hz hk => LB_of hLK hS hP hD hW hk) hS.2.2 (Nat.le_of_ble_eq_true rfl) (Nat.le_of_ble_eq_true rfl) (Nat.le_of_ble_eq_true rfl) (Nat.le_of_ble_eq_true rfl) (Nat.le_of_ble_eq_true rfl) (Nat.le_of_ble_eq_true rfl) d_LS_declarationFor_14 d_LS_declarationFor_17 d_LS_declarationFor_18 d_LS_declarationFor_20 d_LS_declarationFor_23
theorem decl_codes {σ τ : Sto} {x1 : Int32} {k : Nat} {r : Int32 × Sto × Sto} (h : p_LanguageServer_declarationFor σ τ x1 = some (k, r)) : k = 0 ∨ k = 3 := by
  unfold p_LanguageServer_declarationFor at h
  obtain ⟨v, e, h⟩ := bd1_some h
  split at h
  · cases h; first | exact Or.inl rfl | exact Or.inr rfl
  · cases h; first | exact Or.inl rfl | exact Or.inr rfl
def p_LanguageServer_insert (σ τ : Sto) (x1 : Int32) (x2 : Int32) : Option Lr :=
  (if x1 < 0 then
      some (1, 0, σ, τ)
    else
      (if (σ.1 1) < x1 then
        some (1, 0, σ, τ)
      else
        bd1 (p_LanguageServer_isCode x2) fun v_21 =>
        (if v_21 = 0 then
          some (1, 0, σ, τ)
        else
          (if (σ.1 1) < 240 then
            bd1 (p_Text_put σ x1 x2) fun σ_60 =>
            bd1 (p_Reading_touch σ_60) fun σ_67 =>
            some (0, σ_67.1 1, σ_67, τ)
          else
            some (2, 0, σ, τ)))))
abbrev w_LS_insert : List Cond := Cond.code y_LS_insert b_LS_insert 4 (some .int) :: Tg
abbrev r_LS_insert : Room := { frames := 2, cells := 0, slots := 0, locals := 65 }
abbrev rt_LS_insert : Room := { frames := 6, cells := 1, slots := 6, locals := 90 }
theorem dv_LS_insert : y_LS_insert.cls = "LanguageServer" ∧ y_LS_insert.cls ≠ "java/lang/invoke/MethodHandle" ∧ y_LS_insert.cls ≠ "java/lang/invoke/VarHandle" ∧ (parseMethodDescriptor y_LS_insert.desc).map (fun d => d.parameters.length) = some 2 := by decide +kernel
set_option maxHeartbeats 4000000 in
set_option maxRecDepth 100000 in
theorem c_LS_insert (l : Launch) (K : Kst) (a : Nat) (A B : Nat → Nat) {σ τ : Sto} {x1 : Int32} {x2 : Int32} {rr : Int32} {ss tt : Sto} (h : p_LanguageServer_insert σ τ x1 x2 = some (0, rr, ss, tt)) : Met l y_LS_insert w_LS_insert r_LS_insert (va_Pc [.ref a, .int x1, .int x2] (LB K a A B σ τ)) (va_Qi (S := Unit) (fun v _ => v = rr) (fun _ t => LB K a A B ss tt t) (LF a A B)) 0 0 (LF a A B) := by
  refine Met.ofW (cc := b_LS_insert) (maxL := 4) (ret := (some .int)) (by decide) rfl ?_
  intro p e s m args below meth c s₁ Bd hml hv
  obtain ⟨rfl, hP, hLK, hD⟩ := hv
  have hK := hLK.1
  have hx := Bd.exec
  have hb := Bd.bytes
  have hr := Bd.returns
  have hts := atoms_spec (ws := w_LS_insert) Bd.pre
  have hg : ∀ w ∈ Tg, w.before _ s = true := fun w q => hts w (List.mem_cons_of_mem _ q)
  have hown : s.vm.findClass "LanguageServer" = some m.cls := findClass_of_methodNamed Bd.named
  have hlocks := Bd.notSynchronized
  have hS : va_S (LF a A B) s.heap s.heap [] := va_S.rf
  have hl := lv_entry ([.ref a, .int x1, .int x2]) (n := 4) (Nat.le_of_ble_eq_true rfl)
  rw [lg_entry_eq]
  generalize (lg_sl ([.ref a, .int x1, .int x2]) ++ List.replicate (4 - (lg_sl ([.ref a, .int x1, .int x2])).length) Slot.unset).toArray = ls at hl ⊢
  have hl : lv_has ls 4 [(0, .ref a), (1, .int x1), (2, .int x2)] := hl
  generalize hargs : ([.ref a, .int x1, .int x2] : List Value).toArray = args at hg hts ⊢
  have hRet : ∀ (v : Int32) (σ τ : Sto), some ((0, v, σ, τ) : Lr) = some (0, rr, ss, tt) → ∀ (H : Heap) (locs : List Loc), va_P K.1 vwCl (wL K a A B σ τ) H → va_D (LF a A B) (wL K a A B σ τ) → va_S (LF a A B) s.heap H locs → ∀ (pc : Nat) (ls : Array Slot), decode b_LS_insert pc = .ok (.ireturn, 1) → W p l e (headSpec w_LS_insert r_LS_insert).room s m args below meth c H locs 0 0 (MQ below (va_Qi (S := Unit) (fun v _ => v = rr) (fun _ t => LB K a A B ss tt t) (LF a A B)) args s 0 0 (LF a A B)) (F0 m pc ls [.int v]) := by
    intro v σ τ h H locs hP hD hS pc ls hd
    cases h
    exact W.iret hx hb hr (fun t ht hW => ⟨⟨_, (), rfl, rfl, LB_of hLK hS hP hD hW (fun q _ => by rw [ht])⟩, hS.F ht⟩) hS.2.2 hd
  unfold p_LanguageServer_insert at h
  refine lv_aload_n hx hb d_LS_insert_0 rfl (lv_at hl 0 rfl) ?_
  refine gflS_10 hx hb hg hown hK hP d_LS_insert_1 ?_
  refine gflA_19 hx hb hg hown hK hP d_LS_insert_4 ?_
  refine lv_astore_n (lv' := [(3, .ref (A 1)), (0, .ref a), (1, .int x1), (2, .int x2)]) hx hb d_LS_insert_7 rfl hl (by decide) rfl (fun ls hl => ?_)
  refine lv_iload_n hx hb d_LS_insert_8 rfl (lv_at hl 2 rfl) ?_
  refine lv_if_lt (tgt := 27) hx hb d_LS_insert_9 (by decide) (fun c_9 => ?_) (fun c_9 => ?_)
  · replace h := itp c_9 h
    exact (kne (by decide) h).elim
  · replace h := itf c_9 h
    refine lv_iload_n hx hb d_LS_insert_12 rfl (lv_at hl 2 rfl) ?_
    refine lv_aload_n hx hb d_LS_insert_13 rfl (lv_at hl 0 rfl) ?_
    refine gflA_23 hx hb hg hown hK hP d_LS_insert_14 ?_
    refine lv_icmp_gt (tgt := 27) hx hb d_LS_insert_17 (by decide) (fun c_17 => ?_) (fun c_17 => ?_)
    · replace h := itp c_17 h
      exact (kne (by decide) h).elim
    · replace h := itf c_17 h
      refine lv_iload_n hx hb d_LS_insert_20 rfl (lv_at hl 3 rfl) ?_
      obtain ⟨v_21, e_21, h⟩ := bd1_some h
      refine R_cpi (va_runS (As := [.int x2]) (rest := []) ⟨hx, hb, hml, hown, hts⟩ (c_LS_isCode l e_21) (va_cwS 1 hts (gd_S wd_603 wd_604 wd_1 wd_605) rfl rfl rfl ds_LS_isCode ⟨Nat.le_of_ble_eq_true rfl, Nat.le_of_ble_eq_true rfl⟩) (P_ps hK.2) rfl rfl hl.1 rfl (lv_room (Nat.le_of_ble_eq_true rfl)) d_LS_insert_21 ⟨Nat.le_of_ble_eq_true rfl, Nat.le_of_ble_eq_true rfl⟩) hP hD hS (fun H locs hP hD hS => ?_)
      refine lv_if_ne (tgt := 37) hx hb d_LS_insert_24 (by decide) (fun c_24 => ?_) (fun c_24 => ?_)
      · replace h := itf c_24 h
        refine lv_aload_n hx hb d_LS_insert_37 rfl (lv_at hl 0 rfl) ?_
        refine gflA_23 hx hb hg hown hK hP d_LS_insert_38 ?_
        refine lv_sipush (v := 240) hx hb d_LS_insert_41 (by decide) ?_
        refine lv_icmp_lt (tgt := 57) hx hb d_LS_insert_44 (by decide) (fun c_44 => ?_) (fun c_44 => ?_)
        · replace h := itp c_44 h
          refine lv_aload_n hx hb d_LS_insert_57 rfl (lv_at hl 0 rfl) ?_
          refine lv_iload_n hx hb d_LS_insert_58 rfl (lv_at hl 2 rfl) ?_
          refine lv_iload_n hx hb d_LS_insert_59 rfl (lv_at hl 3 rfl) ?_
          obtain ⟨σ_60, e_60, h⟩ := bd1_some h
          refine G_callv (A := A) (σ := σ) (w1 := ([(a, .inr (0, [.ref (A 0), .ref (B 0)]))] : va_W)) (w2 := (wR K B τ)) (va_runV (As := [.int x1, .int x2]) (rest := []) ⟨hx, hb, hml, hown, hts⟩ (c_Text_put l K A e_60) (cwV 2 hts (gd_V wd_690 wd_691 wd_692 wd_3 wd_693) rfl rfl rfl dv_Text_put ⟨Nat.le_of_ble_eq_true rfl, Nat.le_of_ble_eq_true rfl⟩) (R_pv_1 (A := A) hK (mid_P (w1 := ([(a, .inr (0, [.ref (A 0), .ref (B 0)]))] : va_W)) (w2 := (wR K B τ)) hP) (mid_D (w1 := ([(a, .inr (0, [.ref (A 0), .ref (B 0)]))] : va_W)) (w2 := (wR K B τ)) hD (fun _ _ h => wR_in h))) rfl rfl hl.1 rfl (lv_room (Nat.le_of_ble_eq_true rfl)) d_LS_insert_60 ⟨Nat.le_of_ble_eq_true rfl, Nat.le_of_ble_eq_true rfl⟩) hP hD hS (fun H locs hP hD hS => ?_)
          have hP : va_P K.1 vwCl (wL K a A B σ_60 τ) H := hP
          have hD : va_D (LF a A B) (wL K a A B σ_60 τ) := hD
          refine lv_aload_n hx hb d_LS_insert_63 rfl (lv_at hl 1 rfl) ?_
          refine gflS_10 hx hb hg hown hK hP d_LS_insert_64 ?_
          obtain ⟨σ_67, e_67, h⟩ := bd1_some h
          refine G_callv (A := A) (σ := σ_60) (w1 := ([(a, .inr (0, [.ref (A 0), .ref (B 0)]))] : va_W)) (w2 := (wR K B τ)) (va_runV (As := []) (rest := []) ⟨hx, hb, hml, hown, hts⟩ (c_Reading_touch l K A e_67) (cwV 0 hts (gd_V wd_697 wd_698 wd_699 wd_2 wd_700) rfl rfl rfl dv_Reading_touch ⟨Nat.le_of_ble_eq_true rfl, Nat.le_of_ble_eq_true rfl⟩) (R_pv_0 (A := A) hK (mid_P (w1 := ([(a, .inr (0, [.ref (A 0), .ref (B 0)]))] : va_W)) (w2 := (wR K B τ)) hP) (mid_D (w1 := ([(a, .inr (0, [.ref (A 0), .ref (B 0)]))] : va_W)) (w2 := (wR K B τ)) hD (fun _ _ h => wR_in h))) rfl rfl hl.1 rfl (lv_room (Nat.le_of_ble_eq_true rfl)) d_LS_insert_67 ⟨Nat.le_of_ble_eq_true rfl, Nat.le_of_ble_eq_true rfl⟩) hP hD hS (fun H locs hP hD hS => ?_)
          have hP : va_P K.1 vwCl (wL K a A B σ_67 τ) H := hP
          have hD : va_D (LF a A B) (wL K a A B σ_67 τ) := hD
          refine lv_aload_n hx hb d_LS_insert_70 rfl (lv_at hl 0 rfl) ?_
          refine gflA_23 hx hb hg hown hK hP d_LS_insert_71 ?_
          exact hRet _ _ _ h _ _ hP hD hS _ _ d_LS_insert_74
        · replace h := itf c_44 h
          exact (kne (by decide) h).elim
      · replace h := itp c_24 h
        exact (kne (by decide) h).elim
set_option maxHeartbeats 4000000 in
set_option maxRecDepth 100000 in
theorem ct_LS_insert_1 (l : Launch) (hlt : l.stackTraces = false) (K : Kst) (a : Nat) (A B : Nat → Nat) {σ τ : Sto} {x1 : Int32} {x2 : Int32} {rr : Int32} {ss tt : Sto} (h : p_LanguageServer_insert σ τ x1 x2 = some (1, rr, ss, tt)) : MetT l y_LS_insert w_LS_insert rt_LS_insert (va_Pc [.ref a, .int x1, .int x2] (LB K a A B σ τ)) "java/lang/IllegalArgumentException" (LB K a A B ss tt) (LF a A B) 1 6 (LF a A B) := by
  refine MetT.ofW (cc := b_LS_insert) (maxL := 4) (ret := (some .int)) (by decide) rfl ?_
  intro p e s m args below meth c s₁ Bd hml hemp hv
  obtain ⟨rfl, hP, hLK, hD⟩ := hv
  have hK := hLK.1
  have hx := Bd.exec
  have hb := Bd.bytes
  have hr := Bd.returns
  have hts := atoms_spec (ws := w_LS_insert) Bd.pre
  have hg : ∀ w ∈ Tg, w.before _ s = true := fun w q => hts w (List.mem_cons_of_mem _ q)
  have hown : s.vm.findClass "LanguageServer" = some m.cls := findClass_of_methodNamed Bd.named
  have hlocks := Bd.notSynchronized
  have hFs := noSt hP (F := LF a A B) (fun q h => L_in h)
  have hS : va_S (LF a A B) s.heap s.heap [] := va_S.rf
  have hl := lv_entry ([.ref a, .int x1, .int x2]) (n := 4) (Nat.le_of_ble_eq_true rfl)
  rw [lg_entry_eq]
  generalize (lg_sl ([.ref a, .int x1, .int x2]) ++ List.replicate (4 - (lg_sl ([.ref a, .int x1, .int x2])).length) Slot.unset).toArray = ls at hl ⊢
  have hl : lv_has ls 4 [(0, .ref a), (1, .int x1), (2, .int x2)] := hl
  generalize hargs : ([.ref a, .int x1, .int x2] : List Value).toArray = args at hg hts ⊢
  unfold p_LanguageServer_insert at h
  refine lv_aload_n hx hb d_LS_insert_0 rfl (lv_at hl 0 rfl) ?_
  refine gflS_10 hx hb hg hown hK hP d_LS_insert_1 ?_
  refine gflA_19 hx hb hg hown hK hP d_LS_insert_4 ?_
  refine lv_astore_n (lv' := [(3, .ref (A 1)), (0, .ref a), (1, .int x1), (2, .int x2)]) hx hb d_LS_insert_7 rfl hl (by decide) rfl (fun ls hl => ?_)
  refine lv_iload_n hx hb d_LS_insert_8 rfl (lv_at hl 2 rfl) ?_
  refine lv_if_lt (tgt := 27) hx hb d_LS_insert_9 (by decide) (fun c_9 => ?_) (fun c_9 => ?_)
  · replace h := itp c_9 h
    cases h
    exact T_throw (own := "LanguageServer") (X := "java/lang/IllegalArgumentException") (text := "no such place or code") hx hb hlt hown (by decide +kernel) (xat_IAE hg hLK.2.1 hLK.2.2) dx_IAE_0 dx_IAE_1 dx_IAE_2 dx_IAE_5 (hg _ wd_606) (hg _ wd_14) (hLK.2.1.2.2 (35, "no such place or code") (by decide)) (hl.1.trans hml.symm) hemp hlocks hS hFs (fun t hW hz hk => LB_of hLK hS hP hD hW hk) hS.2.2 (Nat.le_of_ble_eq_true rfl) (Nat.le_of_ble_eq_true rfl) (Nat.le_of_ble_eq_true rfl) (Nat.le_of_ble_eq_true rfl) (Nat.le_of_ble_eq_true rfl) (Nat.le_of_ble_eq_true rfl) d_LS_insert_27 d_LS_insert_30 d_LS_insert_31 d_LS_insert_33 d_LS_insert_36
  · replace h := itf c_9 h
    refine lv_iload_n hx hb d_LS_insert_12 rfl (lv_at hl 2 rfl) ?_
    refine lv_aload_n hx hb d_LS_insert_13 rfl (lv_at hl 0 rfl) ?_
    refine gflA_23 hx hb hg hown hK hP d_LS_insert_14 ?_
    refine lv_icmp_gt (tgt := 27) hx hb d_LS_insert_17 (by decide) (fun c_17 => ?_) (fun c_17 => ?_)
    · replace h := itp c_17 h
      cases h
      exact T_throw (own := "LanguageServer") (X := "java/lang/IllegalArgumentException") (text := "no such place or code") hx hb hlt hown (by decide +kernel) (xat_IAE hg hLK.2.1 hLK.2.2) dx_IAE_0 dx_IAE_1 dx_IAE_2 dx_IAE_5 (hg _ wd_606) (hg _ wd_14) (hLK.2.1.2.2 (35, "no such place or code") (by decide)) (hl.1.trans hml.symm) hemp hlocks hS hFs (fun t hW hz hk => LB_of hLK hS hP hD hW hk) hS.2.2 (Nat.le_of_ble_eq_true rfl) (Nat.le_of_ble_eq_true rfl) (Nat.le_of_ble_eq_true rfl) (Nat.le_of_ble_eq_true rfl) (Nat.le_of_ble_eq_true rfl) (Nat.le_of_ble_eq_true rfl) d_LS_insert_27 d_LS_insert_30 d_LS_insert_31 d_LS_insert_33 d_LS_insert_36
    · replace h := itf c_17 h
      refine lv_iload_n hx hb d_LS_insert_20 rfl (lv_at hl 3 rfl) ?_
      obtain ⟨v_21, e_21, h⟩ := bd1_some h
      refine R_cpi (va_runS (As := [.int x2]) (rest := []) ⟨hx, hb, hml, hown, hts⟩ (c_LS_isCode l e_21) (va_cwS 1 hts (gd_S wd_603 wd_604 wd_1 wd_605) rfl rfl rfl ds_LS_isCode ⟨Nat.le_of_ble_eq_true rfl, Nat.le_of_ble_eq_true rfl⟩) (P_ps hK.2) rfl rfl hl.1 rfl (lv_room (Nat.le_of_ble_eq_true rfl)) d_LS_insert_21 ⟨Nat.le_of_ble_eq_true rfl, Nat.le_of_ble_eq_true rfl⟩) hP hD hS (fun H locs hP hD hS => ?_)
      refine lv_if_ne (tgt := 37) hx hb d_LS_insert_24 (by decide) (fun c_24 => ?_) (fun c_24 => ?_)
      · replace h := itf c_24 h
        refine lv_aload_n hx hb d_LS_insert_37 rfl (lv_at hl 0 rfl) ?_
        refine gflA_23 hx hb hg hown hK hP d_LS_insert_38 ?_
        refine lv_sipush (v := 240) hx hb d_LS_insert_41 (by decide) ?_
        refine lv_icmp_lt (tgt := 57) hx hb d_LS_insert_44 (by decide) (fun c_44 => ?_) (fun c_44 => ?_)
        · replace h := itp c_44 h
          refine lv_aload_n hx hb d_LS_insert_57 rfl (lv_at hl 0 rfl) ?_
          refine lv_iload_n hx hb d_LS_insert_58 rfl (lv_at hl 2 rfl) ?_
          refine lv_iload_n hx hb d_LS_insert_59 rfl (lv_at hl 3 rfl) ?_
          obtain ⟨σ_60, e_60, h⟩ := bd1_some h
          refine G_callv (A := A) (σ := σ) (w1 := ([(a, .inr (0, [.ref (A 0), .ref (B 0)]))] : va_W)) (w2 := (wR K B τ)) (va_runV (As := [.int x1, .int x2]) (rest := []) ⟨hx, hb, hml, hown, hts⟩ (c_Text_put l K A e_60) (cwV 2 hts (gd_V wd_690 wd_691 wd_692 wd_3 wd_693) rfl rfl rfl dv_Text_put ⟨Nat.le_of_ble_eq_true rfl, Nat.le_of_ble_eq_true rfl⟩) (R_pv_1 (A := A) hK (mid_P (w1 := ([(a, .inr (0, [.ref (A 0), .ref (B 0)]))] : va_W)) (w2 := (wR K B τ)) hP) (mid_D (w1 := ([(a, .inr (0, [.ref (A 0), .ref (B 0)]))] : va_W)) (w2 := (wR K B τ)) hD (fun _ _ h => wR_in h))) rfl rfl hl.1 rfl (lv_room (Nat.le_of_ble_eq_true rfl)) d_LS_insert_60 ⟨Nat.le_of_ble_eq_true rfl, Nat.le_of_ble_eq_true rfl⟩) hP hD hS (fun H locs hP hD hS => ?_)
          have hP : va_P K.1 vwCl (wL K a A B σ_60 τ) H := hP
          have hD : va_D (LF a A B) (wL K a A B σ_60 τ) := hD
          refine lv_aload_n hx hb d_LS_insert_63 rfl (lv_at hl 1 rfl) ?_
          refine gflS_10 hx hb hg hown hK hP d_LS_insert_64 ?_
          obtain ⟨σ_67, e_67, h⟩ := bd1_some h
          refine G_callv (A := A) (σ := σ_60) (w1 := ([(a, .inr (0, [.ref (A 0), .ref (B 0)]))] : va_W)) (w2 := (wR K B τ)) (va_runV (As := []) (rest := []) ⟨hx, hb, hml, hown, hts⟩ (c_Reading_touch l K A e_67) (cwV 0 hts (gd_V wd_697 wd_698 wd_699 wd_2 wd_700) rfl rfl rfl dv_Reading_touch ⟨Nat.le_of_ble_eq_true rfl, Nat.le_of_ble_eq_true rfl⟩) (R_pv_0 (A := A) hK (mid_P (w1 := ([(a, .inr (0, [.ref (A 0), .ref (B 0)]))] : va_W)) (w2 := (wR K B τ)) hP) (mid_D (w1 := ([(a, .inr (0, [.ref (A 0), .ref (B 0)]))] : va_W)) (w2 := (wR K B τ)) hD (fun _ _ h => wR_in h))) rfl rfl hl.1 rfl (lv_room (Nat.le_of_ble_eq_true rfl)) d_LS_insert_67 ⟨Nat.le_of_ble_eq_true rfl, Nat.le_of_ble_eq_true rfl⟩) hP hD hS (fun H locs hP hD hS => ?_)
          have hP : va_P K.1 vwCl (wL K a A B σ_67 τ) H := hP
          have hD : va_D (LF a A B) (wL K a A B σ_67 τ) := hD
          refine lv_aload_n hx hb d_LS_insert_70 rfl (lv_at hl 0 rfl) ?_
          refine gflA_23 hx hb hg hown hK hP d_LS_insert_71 ?_
          exact (kne (by decide) h).elim
        · replace h := itf c_44 h
          exact (kne (by decide) h).elim
      · replace h := itp c_24 h
        cases h
        exact T_throw (own := "LanguageServer") (X := "java/lang/IllegalArgumentException") (text := "no such place or code") hx hb hlt hown (by decide +kernel) (xat_IAE hg hLK.2.1 hLK.2.2) dx_IAE_0 dx_IAE_1 dx_IAE_2 dx_IAE_5 (hg _ wd_606) (hg _ wd_14) (hLK.2.1.2.2 (35, "no such place or code") (by decide)) (hl.1.trans hml.symm) hemp hlocks hS hFs (fun t hW hz hk => LB_of hLK hS hP hD hW hk) hS.2.2 (Nat.le_of_ble_eq_true rfl) (Nat.le_of_ble_eq_true rfl) (Nat.le_of_ble_eq_true rfl) (Nat.le_of_ble_eq_true rfl) (Nat.le_of_ble_eq_true rfl) (Nat.le_of_ble_eq_true rfl) d_LS_insert_27 d_LS_insert_30 d_LS_insert_31 d_LS_insert_33 d_LS_insert_36
set_option maxHeartbeats 4000000 in
set_option maxRecDepth 100000 in
theorem ct_LS_insert_2 (l : Launch) (hlt : l.stackTraces = false) (K : Kst) (a : Nat) (A B : Nat → Nat) {σ τ : Sto} {x1 : Int32} {x2 : Int32} {rr : Int32} {ss tt : Sto} (h : p_LanguageServer_insert σ τ x1 x2 = some (2, rr, ss, tt)) : MetT l y_LS_insert w_LS_insert rt_LS_insert (va_Pc [.ref a, .int x1, .int x2] (LB K a A B σ τ)) "java/lang/IllegalStateException" (LB K a A B ss tt) (LF a A B) 1 6 (LF a A B) := by
  refine MetT.ofW (cc := b_LS_insert) (maxL := 4) (ret := (some .int)) (by decide) rfl ?_
  intro p e s m args below meth c s₁ Bd hml hemp hv
  obtain ⟨rfl, hP, hLK, hD⟩ := hv
  have hK := hLK.1
  have hx := Bd.exec
  have hb := Bd.bytes
  have hr := Bd.returns
  have hts := atoms_spec (ws := w_LS_insert) Bd.pre
  have hg : ∀ w ∈ Tg, w.before _ s = true := fun w q => hts w (List.mem_cons_of_mem _ q)
  have hown : s.vm.findClass "LanguageServer" = some m.cls := findClass_of_methodNamed Bd.named
  have hlocks := Bd.notSynchronized
  have hFs := noSt hP (F := LF a A B) (fun q h => L_in h)
  have hS : va_S (LF a A B) s.heap s.heap [] := va_S.rf
  have hl := lv_entry ([.ref a, .int x1, .int x2]) (n := 4) (Nat.le_of_ble_eq_true rfl)
  rw [lg_entry_eq]
  generalize (lg_sl ([.ref a, .int x1, .int x2]) ++ List.replicate (4 - (lg_sl ([.ref a, .int x1, .int x2])).length) Slot.unset).toArray = ls at hl ⊢
  have hl : lv_has ls 4 [(0, .ref a), (1, .int x1), (2, .int x2)] := hl
  generalize hargs : ([.ref a, .int x1, .int x2] : List Value).toArray = args at hg hts ⊢
  unfold p_LanguageServer_insert at h
  refine lv_aload_n hx hb d_LS_insert_0 rfl (lv_at hl 0 rfl) ?_
  refine gflS_10 hx hb hg hown hK hP d_LS_insert_1 ?_
  refine gflA_19 hx hb hg hown hK hP d_LS_insert_4 ?_
  refine lv_astore_n (lv' := [(3, .ref (A 1)), (0, .ref a), (1, .int x1), (2, .int x2)]) hx hb d_LS_insert_7 rfl hl (by decide) rfl (fun ls hl => ?_)
  refine lv_iload_n hx hb d_LS_insert_8 rfl (lv_at hl 2 rfl) ?_
  refine lv_if_lt (tgt := 27) hx hb d_LS_insert_9 (by decide) (fun c_9 => ?_) (fun c_9 => ?_)
  · replace h := itp c_9 h
    exact (kne (by decide) h).elim
  · replace h := itf c_9 h
    refine lv_iload_n hx hb d_LS_insert_12 rfl (lv_at hl 2 rfl) ?_
    refine lv_aload_n hx hb d_LS_insert_13 rfl (lv_at hl 0 rfl) ?_
    refine gflA_23 hx hb hg hown hK hP d_LS_insert_14 ?_
    refine lv_icmp_gt (tgt := 27) hx hb d_LS_insert_17 (by decide) (fun c_17 => ?_) (fun c_17 => ?_)
    · replace h := itp c_17 h
      exact (kne (by decide) h).elim
    · replace h := itf c_17 h
      refine lv_iload_n hx hb d_LS_insert_20 rfl (lv_at hl 3 rfl) ?_
      obtain ⟨v_21, e_21, h⟩ := bd1_some h
      refine R_cpi (va_runS (As := [.int x2]) (rest := []) ⟨hx, hb, hml, hown, hts⟩ (c_LS_isCode l e_21) (va_cwS 1 hts (gd_S wd_603 wd_604 wd_1 wd_605) rfl rfl rfl ds_LS_isCode ⟨Nat.le_of_ble_eq_true rfl, Nat.le_of_ble_eq_true rfl⟩) (P_ps hK.2) rfl rfl hl.1 rfl (lv_room (Nat.le_of_ble_eq_true rfl)) d_LS_insert_21 ⟨Nat.le_of_ble_eq_true rfl, Nat.le_of_ble_eq_true rfl⟩) hP hD hS (fun H locs hP hD hS => ?_)
      refine lv_if_ne (tgt := 37) hx hb d_LS_insert_24 (by decide) (fun c_24 => ?_) (fun c_24 => ?_)
      · replace h := itf c_24 h
        refine lv_aload_n hx hb d_LS_insert_37 rfl (lv_at hl 0 rfl) ?_
        refine gflA_23 hx hb hg hown hK hP d_LS_insert_38 ?_
        refine lv_sipush (v := 240) hx hb d_LS_insert_41 (by decide) ?_
        refine lv_icmp_lt (tgt := 57) hx hb d_LS_insert_44 (by decide) (fun c_44 => ?_) (fun c_44 => ?_)
        · replace h := itp c_44 h
          refine lv_aload_n hx hb d_LS_insert_57 rfl (lv_at hl 0 rfl) ?_
          refine lv_iload_n hx hb d_LS_insert_58 rfl (lv_at hl 2 rfl) ?_
          refine lv_iload_n hx hb d_LS_insert_59 rfl (lv_at hl 3 rfl) ?_
          obtain ⟨σ_60, e_60, h⟩ := bd1_some h
          refine G_callv (A := A) (σ := σ) (w1 := ([(a, .inr (0, [.ref (A 0), .ref (B 0)]))] : va_W)) (w2 := (wR K B τ)) (va_runV (As := [.int x1, .int x2]) (rest := []) ⟨hx, hb, hml, hown, hts⟩ (c_Text_put l K A e_60) (cwV 2 hts (gd_V wd_690 wd_691 wd_692 wd_3 wd_693) rfl rfl rfl dv_Text_put ⟨Nat.le_of_ble_eq_true rfl, Nat.le_of_ble_eq_true rfl⟩) (R_pv_1 (A := A) hK (mid_P (w1 := ([(a, .inr (0, [.ref (A 0), .ref (B 0)]))] : va_W)) (w2 := (wR K B τ)) hP) (mid_D (w1 := ([(a, .inr (0, [.ref (A 0), .ref (B 0)]))] : va_W)) (w2 := (wR K B τ)) hD (fun _ _ h => wR_in h))) rfl rfl hl.1 rfl (lv_room (Nat.le_of_ble_eq_true rfl)) d_LS_insert_60 ⟨Nat.le_of_ble_eq_true rfl, Nat.le_of_ble_eq_true rfl⟩) hP hD hS (fun H locs hP hD hS => ?_)
          have hP : va_P K.1 vwCl (wL K a A B σ_60 τ) H := hP
          have hD : va_D (LF a A B) (wL K a A B σ_60 τ) := hD
          refine lv_aload_n hx hb d_LS_insert_63 rfl (lv_at hl 1 rfl) ?_
          refine gflS_10 hx hb hg hown hK hP d_LS_insert_64 ?_
          obtain ⟨σ_67, e_67, h⟩ := bd1_some h
          refine G_callv (A := A) (σ := σ_60) (w1 := ([(a, .inr (0, [.ref (A 0), .ref (B 0)]))] : va_W)) (w2 := (wR K B τ)) (va_runV (As := []) (rest := []) ⟨hx, hb, hml, hown, hts⟩ (c_Reading_touch l K A e_67) (cwV 0 hts (gd_V wd_697 wd_698 wd_699 wd_2 wd_700) rfl rfl rfl dv_Reading_touch ⟨Nat.le_of_ble_eq_true rfl, Nat.le_of_ble_eq_true rfl⟩) (R_pv_0 (A := A) hK (mid_P (w1 := ([(a, .inr (0, [.ref (A 0), .ref (B 0)]))] : va_W)) (w2 := (wR K B τ)) hP) (mid_D (w1 := ([(a, .inr (0, [.ref (A 0), .ref (B 0)]))] : va_W)) (w2 := (wR K B τ)) hD (fun _ _ h => wR_in h))) rfl rfl hl.1 rfl (lv_room (Nat.le_of_ble_eq_true rfl)) d_LS_insert_67 ⟨Nat.le_of_ble_eq_true rfl, Nat.le_of_ble_eq_true rfl⟩) hP hD hS (fun H locs hP hD hS => ?_)
          have hP : va_P K.1 vwCl (wL K a A B σ_67 τ) H := hP
          have hD : va_D (LF a A B) (wL K a A B σ_67 τ) := hD
          refine lv_aload_n hx hb d_LS_insert_70 rfl (lv_at hl 0 rfl) ?_
          refine gflA_23 hx hb hg hown hK hP d_LS_insert_71 ?_
          exact (kne (by decide) h).elim
        · replace h := itf c_44 h
          cases h
          exact T_throw (own := "LanguageServer") (X := "java/lang/IllegalStateException") (text := "the text is full") hx hb hlt hown (by decide +kernel) (xat_ISE hg hLK.2.1 hLK.2.2) dx_ISE_0 dx_ISE_1 dx_ISE_2 dx_ISE_5 (hg _ wd_674) (hg _ wd_15) (hLK.2.1.2.2 (42, "the text is full") (by decide)) (hl.1.trans hml.symm) hemp hlocks hS hFs (fun t hW hz hk => LB_of hLK hS hP hD hW hk) hS.2.2 (Nat.le_of_ble_eq_true rfl) (Nat.le_of_ble_eq_true rfl) (Nat.le_of_ble_eq_true rfl) (Nat.le_of_ble_eq_true rfl) (Nat.le_of_ble_eq_true rfl) (Nat.le_of_ble_eq_true rfl) d_LS_insert_47 d_LS_insert_50 d_LS_insert_51 d_LS_insert_53 d_LS_insert_56
      · replace h := itp c_24 h
        exact (kne (by decide) h).elim
def p_LanguageServer_append (σ τ : Sto) (x1 : Int64) (x3 : Int32) : Option Lr :=
  (if x3 < 1 then
      some (1, 0, σ, τ)
    else
      (if (8 : Int32) < x3 then
        some (1, 0, σ, τ)
      else
        bd1 (p_LanguageServer_areCodes x1 x3) fun v_22 =>
        (if v_22 = 0 then
          some (1, 0, σ, τ)
        else
          (if ((σ.1 1) + x3) ≤ 240 then
            bd1 (p_Text_addBytes σ x1 x3) fun σ_65 =>
            bd1 (p_Reading_touch σ_65) fun σ_72 =>
            some (0, σ_72.1 1, σ_72, τ)
          else
            some (2, 0, σ, τ)))))
abbrev w_LS_append : List Cond := Cond.code y_LS_append b_LS_append 5 (some .int) :: Tg
abbrev r_LS_append : Room := { frames := 2, cells := 0, slots := 0, locals := 46 }
abbrev rt_LS_append : Room := { frames := 6, cells := 1, slots := 6, locals := 90 }
theorem dv_LS_append : y_LS_append.cls = "LanguageServer" ∧ y_LS_append.cls ≠ "java/lang/invoke/MethodHandle" ∧ y_LS_append.cls ≠ "java/lang/invoke/VarHandle" ∧ (parseMethodDescriptor y_LS_append.desc).map (fun d => d.parameters.length) = some 2 := by decide +kernel
set_option maxHeartbeats 4000000 in
set_option maxRecDepth 100000 in
theorem c_LS_append (l : Launch) (K : Kst) (a : Nat) (A B : Nat → Nat) {σ τ : Sto} {x1 : Int64} {x3 : Int32} {rr : Int32} {ss tt : Sto} (h : p_LanguageServer_append σ τ x1 x3 = some (0, rr, ss, tt)) : Met l y_LS_append w_LS_append r_LS_append (va_Pc [.ref a, .long x1, .int x3] (LB K a A B σ τ)) (va_Qi (S := Unit) (fun v _ => v = rr) (fun _ t => LB K a A B ss tt t) (LF a A B)) 0 0 (LF a A B) := by
  refine Met.ofW (cc := b_LS_append) (maxL := 5) (ret := (some .int)) (by decide) rfl ?_
  intro p e s m args below meth c s₁ Bd hml hv
  obtain ⟨rfl, hP, hLK, hD⟩ := hv
  have hK := hLK.1
  have hx := Bd.exec
  have hb := Bd.bytes
  have hr := Bd.returns
  have hts := atoms_spec (ws := w_LS_append) Bd.pre
  have hg : ∀ w ∈ Tg, w.before _ s = true := fun w q => hts w (List.mem_cons_of_mem _ q)
  have hown : s.vm.findClass "LanguageServer" = some m.cls := findClass_of_methodNamed Bd.named
  have hlocks := Bd.notSynchronized
  have hS : va_S (LF a A B) s.heap s.heap [] := va_S.rf
  have hl := lv_entry ([.ref a, .long x1, .int x3]) (n := 5) (Nat.le_of_ble_eq_true rfl)
  rw [lg_entry_eq]
  generalize (lg_sl ([.ref a, .long x1, .int x3]) ++ List.replicate (5 - (lg_sl ([.ref a, .long x1, .int x3])).length) Slot.unset).toArray = ls at hl ⊢
  have hl : lv_has ls 5 [(0, .ref a), (1, .long x1), (3, .int x3)] := hl
  generalize hargs : ([.ref a, .long x1, .int x3] : List Value).toArray = args at hg hts ⊢
  have hRet : ∀ (v : Int32) (σ τ : Sto), some ((0, v, σ, τ) : Lr) = some (0, rr, ss, tt) → ∀ (H : Heap) (locs : List Loc), va_P K.1 vwCl (wL K a A B σ τ) H → va_D (LF a A B) (wL K a A B σ τ) → va_S (LF a A B) s.heap H locs → ∀ (pc : Nat) (ls : Array Slot), decode b_LS_append pc = .ok (.ireturn, 1) → W p l e (headSpec w_LS_append r_LS_append).room s m args below meth c H locs 0 0 (MQ below (va_Qi (S := Unit) (fun v _ => v = rr) (fun _ t => LB K a A B ss tt t) (LF a A B)) args s 0 0 (LF a A B)) (F0 m pc ls [.int v]) := by
    intro v σ τ h H locs hP hD hS pc ls hd
    cases h
    exact W.iret hx hb hr (fun t ht hW => ⟨⟨_, (), rfl, rfl, LB_of hLK hS hP hD hW (fun q _ => by rw [ht])⟩, hS.F ht⟩) hS.2.2 hd
  unfold p_LanguageServer_append at h
  refine lv_aload_n hx hb d_LS_append_0 rfl (lv_at hl 0 rfl) ?_
  refine gflS_10 hx hb hg hown hK hP d_LS_append_1 ?_
  refine gflA_19 hx hb hg hown hK hP d_LS_append_4 ?_
  refine lv_astore (lv' := [(4, .ref (A 1)), (0, .ref a), (1, .long x1), (3, .int x3)]) hx hb d_LS_append_7 hl (by decide) rfl (fun ls hl => ?_)
  refine lv_iload_n hx hb d_LS_append_9 rfl (lv_at hl 3 rfl) ?_
  refine lv_iconst (v := 1) hx hb d_LS_append_10 (by decide) ?_
  refine lv_icmp_lt (tgt := 28) hx hb d_LS_append_11 (by decide) (fun c_11 => ?_) (fun c_11 => ?_)
  · replace h := itp c_11 h
    exact (kne (by decide) h).elim
  · replace h := itf c_11 h
    refine lv_iload_n hx hb d_LS_append_14 rfl (lv_at hl 3 rfl) ?_
    refine lv_bipush (v := 8) hx hb d_LS_append_15 (by decide) ?_
    refine lv_icmp_gt (tgt := 28) hx hb d_LS_append_17 (by decide) (fun c_17 => ?_) (fun c_17 => ?_)
    · replace h := itp c_17 h
      exact (kne (by decide) h).elim
    · replace h := itf c_17 h
      refine lv_lload_n hx hb d_LS_append_20 rfl (lv_at hl 2 rfl) ?_
      refine lv_iload_n hx hb d_LS_append_21 rfl (lv_at hl 3 rfl) ?_
      obtain ⟨v_22, e_22, h⟩ := bd1_some h
      refine R_cpi (va_runS (As := [.long x1, .int x3]) (rest := []) ⟨hx, hb, hml, hown, hts⟩ (c_LS_areCodes l e_22) (va_cwS 2 hts (gd_S wd_708 wd_709 wd_1 wd_710) rfl rfl rfl ds_LS_areCodes ⟨Nat.le_of_ble_eq_true rfl, Nat.le_of_ble_eq_true rfl⟩) (P_ps hK.2) rfl rfl hl.1 rfl (lv_room (Nat.le_of_ble_eq_true rfl)) d_LS_append_22 ⟨Nat.le_of_ble_eq_true rfl, Nat.le_of_ble_eq_true rfl⟩) hP hD hS (fun H locs hP hD hS => ?_)
      refine lv_if_ne (tgt := 38) hx hb d_LS_append_25 (by decide) (fun c_25 => ?_) (fun c_25 => ?_)
      · replace h := itf c_25 h
        refine lv_aload hx hb d_LS_append_38 (lv_at hl 0 rfl) ?_
        refine gflA_23 hx hb hg hown hK hP d_LS_append_40 ?_
        refine lv_iload_n hx hb d_LS_append_43 rfl (lv_at hl 3 rfl) ?_
        refine lv_iadd hx hb d_LS_append_44 ?_
        refine lv_sipush (v := 240) hx hb d_LS_append_45 (by decide) ?_
        refine lv_icmp_le (tgt := 61) hx hb d_LS_append_48 (by decide) (fun c_48 => ?_) (fun c_48 => ?_)
        · replace h := itp c_48 h
          refine lv_aload hx hb d_LS_append_61 (lv_at hl 0 rfl) ?_
          refine lv_lload_n hx hb d_LS_append_63 rfl (lv_at hl 2 rfl) ?_
          refine lv_iload_n hx hb d_LS_append_64 rfl (lv_at hl 3 rfl) ?_
          obtain ⟨σ_65, e_65, h⟩ := bd1_some h
          refine G_callv (A := A) (σ := σ) (w1 := ([(a, .inr (0, [.ref (A 0), .ref (B 0)]))] : va_W)) (w2 := (wR K B τ)) (va_runV (As := [.long x1, .int x3]) (rest := []) ⟨hx, hb, hml, hown, hts⟩ (c_Text_addBytes l K A e_65) (cwV 2 hts (gd_V wd_716 wd_717 wd_718 wd_3 wd_719) rfl rfl rfl dv_Text_addBytes ⟨Nat.le_of_ble_eq_true rfl, Nat.le_of_ble_eq_true rfl⟩) (R_pv_1 (A := A) hK (mid_P (w1 := ([(a, .inr (0, [.ref (A 0), .ref (B 0)]))] : va_W)) (w2 := (wR K B τ)) hP) (mid_D (w1 := ([(a, .inr (0, [.ref (A 0), .ref (B 0)]))] : va_W)) (w2 := (wR K B τ)) hD (fun _ _ h => wR_in h))) rfl rfl hl.1 rfl (lv_room (Nat.le_of_ble_eq_true rfl)) d_LS_append_65 ⟨Nat.le_of_ble_eq_true rfl, Nat.le_of_ble_eq_true rfl⟩) hP hD hS (fun H locs hP hD hS => ?_)
          have hP : va_P K.1 vwCl (wL K a A B σ_65 τ) H := hP
          have hD : va_D (LF a A B) (wL K a A B σ_65 τ) := hD
          refine lv_aload_n hx hb d_LS_append_68 rfl (lv_at hl 1 rfl) ?_
          refine gflS_10 hx hb hg hown hK hP d_LS_append_69 ?_
          obtain ⟨σ_72, e_72, h⟩ := bd1_some h
          refine G_callv (A := A) (σ := σ_65) (w1 := ([(a, .inr (0, [.ref (A 0), .ref (B 0)]))] : va_W)) (w2 := (wR K B τ)) (va_runV (As := []) (rest := []) ⟨hx, hb, hml, hown, hts⟩ (c_Reading_touch l K A e_72) (cwV 0 hts (gd_V wd_697 wd_698 wd_699 wd_2 wd_700) rfl rfl rfl dv_Reading_touch ⟨Nat.le_of_ble_eq_true rfl, Nat.le_of_ble_eq_true rfl⟩) (R_pv_0 (A := A) hK (mid_P (w1 := ([(a, .inr (0, [.ref (A 0), .ref (B 0)]))] : va_W)) (w2 := (wR K B τ)) hP) (mid_D (w1 := ([(a, .inr (0, [.ref (A 0), .ref (B 0)]))] : va_W)) (w2 := (wR K B τ)) hD (fun _ _ h => wR_in h))) rfl rfl hl.1 rfl (lv_room (Nat.le_of_ble_eq_true rfl)) d_LS_append_72 ⟨Nat.le_of_ble_eq_true rfl, Nat.le_of_ble_eq_true rfl⟩) hP hD hS (fun H locs hP hD hS => ?_)
          have hP : va_P K.1 vwCl (wL K a A B σ_72 τ) H := hP
          have hD : va_D (LF a A B) (wL K a A B σ_72 τ) := hD
          refine lv_aload hx hb d_LS_append_75 (lv_at hl 0 rfl) ?_
          refine gflA_23 hx hb hg hown hK hP d_LS_append_77 ?_
          exact hRet _ _ _ h _ _ hP hD hS _ _ d_LS_append_80
        · replace h := itf c_48 h
          exact (kne (by decide) h).elim
      · replace h := itp c_25 h
        exact (kne (by decide) h).elim
set_option maxHeartbeats 4000000 in
set_option maxRecDepth 100000 in
theorem ct_LS_append_1 (l : Launch) (hlt : l.stackTraces = false) (K : Kst) (a : Nat) (A B : Nat → Nat) {σ τ : Sto} {x1 : Int64} {x3 : Int32} {rr : Int32} {ss tt : Sto} (h : p_LanguageServer_append σ τ x1 x3 = some (1, rr, ss, tt)) : MetT l y_LS_append w_LS_append rt_LS_append (va_Pc [.ref a, .long x1, .int x3] (LB K a A B σ τ)) "java/lang/IllegalArgumentException" (LB K a A B ss tt) (LF a A B) 1 6 (LF a A B) := by
  refine MetT.ofW (cc := b_LS_append) (maxL := 5) (ret := (some .int)) (by decide) rfl ?_
  intro p e s m args below meth c s₁ Bd hml hemp hv
  obtain ⟨rfl, hP, hLK, hD⟩ := hv
  have hK := hLK.1
  have hx := Bd.exec
  have hb := Bd.bytes
  have hr := Bd.returns
  have hts := atoms_spec (ws := w_LS_append) Bd.pre
  have hg : ∀ w ∈ Tg, w.before _ s = true := fun w q => hts w (List.mem_cons_of_mem _ q)
  have hown : s.vm.findClass "LanguageServer" = some m.cls := findClass_of_methodNamed Bd.named
  have hlocks := Bd.notSynchronized
  have hFs := noSt hP (F := LF a A B) (fun q h => L_in h)
  have hS : va_S (LF a A B) s.heap s.heap [] := va_S.rf
  have hl := lv_entry ([.ref a, .long x1, .int x3]) (n := 5) (Nat.le_of_ble_eq_true rfl)
  rw [lg_entry_eq]
  generalize (lg_sl ([.ref a, .long x1, .int x3]) ++ List.replicate (5 - (lg_sl ([.ref a, .long x1, .int x3])).length) Slot.unset).toArray = ls at hl ⊢
  have hl : lv_has ls 5 [(0, .ref a), (1, .long x1), (3, .int x3)] := hl
  generalize hargs : ([.ref a, .long x1, .int x3] : List Value).toArray = args at hg hts ⊢
  unfold p_LanguageServer_append at h
  refine lv_aload_n hx hb d_LS_append_0 rfl (lv_at hl 0 rfl) ?_
  refine gflS_10 hx hb hg hown hK hP d_LS_append_1 ?_
  refine gflA_19 hx hb hg hown hK hP d_LS_append_4 ?_
  refine lv_astore (lv' := [(4, .ref (A 1)), (0, .ref a), (1, .long x1), (3, .int x3)]) hx hb d_LS_append_7 hl (by decide) rfl (fun ls hl => ?_)
  refine lv_iload_n hx hb d_LS_append_9 rfl (lv_at hl 3 rfl) ?_
  refine lv_iconst (v := 1) hx hb d_LS_append_10 (by decide) ?_
  refine lv_icmp_lt (tgt := 28) hx hb d_LS_append_11 (by decide) (fun c_11 => ?_) (fun c_11 => ?_)
  · replace h := itp c_11 h
    cases h
    exact T_throw (own := "LanguageServer") (X := "java/lang/IllegalArgumentException") (text := "no such number of bytes or code") hx hb hlt hown (by decide +kernel) (xat_IAE hg hLK.2.1 hLK.2.2) dx_IAE_0 dx_IAE_1 dx_IAE_2 dx_IAE_5 (hg _ wd_606) (hg _ wd_14) (hLK.2.1.2.2 (56, "no such number of bytes or code") (by decide)) (hl.1.trans hml.symm) hemp hlocks hS hFs (fun t hW hz hk => LB_of hLK hS hP hD hW hk) hS.2.2 (Nat.le_of_ble_eq_true rfl) (Nat.le_of_ble_eq_true rfl) (Nat.le_of_ble_eq_true rfl) (Nat.le_of_ble_eq_true rfl) (Nat.le_of_ble_eq_true rfl) (Nat.le_of_ble_eq_true rfl) d_LS_append_28 d_LS_append_31 d_LS_append_32 d_LS_append_34 d_LS_append_37
  · replace h := itf c_11 h
    refine lv_iload_n hx hb d_LS_append_14 rfl (lv_at hl 3 rfl) ?_
    refine lv_bipush (v := 8) hx hb d_LS_append_15 (by decide) ?_
    refine lv_icmp_gt (tgt := 28) hx hb d_LS_append_17 (by decide) (fun c_17 => ?_) (fun c_17 => ?_)
    · replace h := itp c_17 h
      cases h
      exact T_throw (own := "LanguageServer") (X := "java/lang/IllegalArgumentException") (text := "no such number of bytes or code") hx hb hlt hown (by decide +kernel) (xat_IAE hg hLK.2.1 hLK.2.2) dx_IAE_0 dx_IAE_1 dx_IAE_2 dx_IAE_5 (hg _ wd_606) (hg _ wd_14) (hLK.2.1.2.2 (56, "no such number of bytes or code") (by decide)) (hl.1.trans hml.symm) hemp hlocks hS hFs (fun t hW hz hk => LB_of hLK hS hP hD hW hk) hS.2.2 (Nat.le_of_ble_eq_true rfl) (Nat.le_of_ble_eq_true rfl) (Nat.le_of_ble_eq_true rfl) (Nat.le_of_ble_eq_true rfl) (Nat.le_of_ble_eq_true rfl) (Nat.le_of_ble_eq_true rfl) d_LS_append_28 d_LS_append_31 d_LS_append_32 d_LS_append_34 d_LS_append_37
    · replace h := itf c_17 h
      refine lv_lload_n hx hb d_LS_append_20 rfl (lv_at hl 2 rfl) ?_
      refine lv_iload_n hx hb d_LS_append_21 rfl (lv_at hl 3 rfl) ?_
      obtain ⟨v_22, e_22, h⟩ := bd1_some h
      refine R_cpi (va_runS (As := [.long x1, .int x3]) (rest := []) ⟨hx, hb, hml, hown, hts⟩ (c_LS_areCodes l e_22) (va_cwS 2 hts (gd_S wd_708 wd_709 wd_1 wd_710) rfl rfl rfl ds_LS_areCodes ⟨Nat.le_of_ble_eq_true rfl, Nat.le_of_ble_eq_true rfl⟩) (P_ps hK.2) rfl rfl hl.1 rfl (lv_room (Nat.le_of_ble_eq_true rfl)) d_LS_append_22 ⟨Nat.le_of_ble_eq_true rfl, Nat.le_of_ble_eq_true rfl⟩) hP hD hS (fun H locs hP hD hS => ?_)
      refine lv_if_ne (tgt := 38) hx hb d_LS_append_25 (by decide) (fun c_25 => ?_) (fun c_25 => ?_)
      · replace h := itf c_25 h
        refine lv_aload hx hb d_LS_append_38 (lv_at hl 0 rfl) ?_
        refine gflA_23 hx hb hg hown hK hP d_LS_append_40 ?_
        refine lv_iload_n hx hb d_LS_append_43 rfl (lv_at hl 3 rfl) ?_
        refine lv_iadd hx hb d_LS_append_44 ?_
        refine lv_sipush (v := 240) hx hb d_LS_append_45 (by decide) ?_
        refine lv_icmp_le (tgt := 61) hx hb d_LS_append_48 (by decide) (fun c_48 => ?_) (fun c_48 => ?_)
        · replace h := itp c_48 h
          refine lv_aload hx hb d_LS_append_61 (lv_at hl 0 rfl) ?_
          refine lv_lload_n hx hb d_LS_append_63 rfl (lv_at hl 2 rfl) ?_
          refine lv_iload_n hx hb d_LS_append_64 rfl (lv_at hl 3 rfl) ?_
          obtain ⟨σ_65, e_65, h⟩ := bd1_some h
          refine G_callv (A := A) (σ := σ) (w1 := ([(a, .inr (0, [.ref (A 0), .ref (B 0)]))] : va_W)) (w2 := (wR K B τ)) (va_runV (As := [.long x1, .int x3]) (rest := []) ⟨hx, hb, hml, hown, hts⟩ (c_Text_addBytes l K A e_65) (cwV 2 hts (gd_V wd_716 wd_717 wd_718 wd_3 wd_719) rfl rfl rfl dv_Text_addBytes ⟨Nat.le_of_ble_eq_true rfl, Nat.le_of_ble_eq_true rfl⟩) (R_pv_1 (A := A) hK (mid_P (w1 := ([(a, .inr (0, [.ref (A 0), .ref (B 0)]))] : va_W)) (w2 := (wR K B τ)) hP) (mid_D (w1 := ([(a, .inr (0, [.ref (A 0), .ref (B 0)]))] : va_W)) (w2 := (wR K B τ)) hD (fun _ _ h => wR_in h))) rfl rfl hl.1 rfl (lv_room (Nat.le_of_ble_eq_true rfl)) d_LS_append_65 ⟨Nat.le_of_ble_eq_true rfl, Nat.le_of_ble_eq_true rfl⟩) hP hD hS (fun H locs hP hD hS => ?_)
          have hP : va_P K.1 vwCl (wL K a A B σ_65 τ) H := hP
          have hD : va_D (LF a A B) (wL K a A B σ_65 τ) := hD
          refine lv_aload_n hx hb d_LS_append_68 rfl (lv_at hl 1 rfl) ?_
          refine gflS_10 hx hb hg hown hK hP d_LS_append_69 ?_
          obtain ⟨σ_72, e_72, h⟩ := bd1_some h
          refine G_callv (A := A) (σ := σ_65) (w1 := ([(a, .inr (0, [.ref (A 0), .ref (B 0)]))] : va_W)) (w2 := (wR K B τ)) (va_runV (As := []) (rest := []) ⟨hx, hb, hml, hown, hts⟩ (c_Reading_touch l K A e_72) (cwV 0 hts (gd_V wd_697 wd_698 wd_699 wd_2 wd_700) rfl rfl rfl dv_Reading_touch ⟨Nat.le_of_ble_eq_true rfl, Nat.le_of_ble_eq_true rfl⟩) (R_pv_0 (A := A) hK (mid_P (w1 := ([(a, .inr (0, [.ref (A 0), .ref (B 0)]))] : va_W)) (w2 := (wR K B τ)) hP) (mid_D (w1 := ([(a, .inr (0, [.ref (A 0), .ref (B 0)]))] : va_W)) (w2 := (wR K B τ)) hD (fun _ _ h => wR_in h))) rfl rfl hl.1 rfl (lv_room (Nat.le_of_ble_eq_true rfl)) d_LS_append_72 ⟨Nat.le_of_ble_eq_true rfl, Nat.le_of_ble_eq_true rfl⟩) hP hD hS (fun H locs hP hD hS => ?_)
          have hP : va_P K.1 vwCl (wL K a A B σ_72 τ) H := hP
          have hD : va_D (LF a A B) (wL K a A B σ_72 τ) := hD
          refine lv_aload hx hb d_LS_append_75 (lv_at hl 0 rfl) ?_
          refine gflA_23 hx hb hg hown hK hP d_LS_append_77 ?_
          exact (kne (by decide) h).elim
        · replace h := itf c_48 h
          exact (kne (by decide) h).elim
      · replace h := itp c_25 h
        cases h
        exact T_throw (own := "LanguageServer") (X := "java/lang/IllegalArgumentException") (text := "no such number of bytes or code") hx hb hlt hown (by decide +kernel) (xat_IAE hg hLK.2.1 hLK.2.2) dx_IAE_0 dx_IAE_1 dx_IAE_2 dx_IAE_5 (hg _ wd_606) (hg _ wd_14) (hLK.2.1.2.2 (56, "no such number of bytes or code") (by decide)) (hl.1.trans hml.symm) hemp hlocks hS hFs (fun t hW hz hk => LB_of hLK hS hP hD hW hk) hS.2.2 (Nat.le_of_ble_eq_true rfl) (Nat.le_of_ble_eq_true rfl) (Nat.le_of_ble_eq_true rfl) (Nat.le_of_ble_eq_true rfl) (Nat.le_of_ble_eq_true rfl) (Nat.le_of_ble_eq_true rfl) d_LS_append_28 d_LS_append_31 d_LS_append_32 d_LS_append_34 d_LS_append_37
set_option maxHeartbeats 4000000 in
set_option maxRecDepth 100000 in
theorem ct_LS_append_2 (l : Launch) (hlt : l.stackTraces = false) (K : Kst) (a : Nat) (A B : Nat → Nat) {σ τ : Sto} {x1 : Int64} {x3 : Int32} {rr : Int32} {ss tt : Sto} (h : p_LanguageServer_append σ τ x1 x3 = some (2, rr, ss, tt)) : MetT l y_LS_append w_LS_append rt_LS_append (va_Pc [.ref a, .long x1, .int x3] (LB K a A B σ τ)) "java/lang/IllegalStateException" (LB K a A B ss tt) (LF a A B) 1 6 (LF a A B) := by
  refine MetT.ofW (cc := b_LS_append) (maxL := 5) (ret := (some .int)) (by decide) rfl ?_
  intro p e s m args below meth c s₁ Bd hml hemp hv
  obtain ⟨rfl, hP, hLK, hD⟩ := hv
  have hK := hLK.1
  have hx := Bd.exec
  have hb := Bd.bytes
  have hr := Bd.returns
  have hts := atoms_spec (ws := w_LS_append) Bd.pre
  have hg : ∀ w ∈ Tg, w.before _ s = true := fun w q => hts w (List.mem_cons_of_mem _ q)
  have hown : s.vm.findClass "LanguageServer" = some m.cls := findClass_of_methodNamed Bd.named
  have hlocks := Bd.notSynchronized
  have hFs := noSt hP (F := LF a A B) (fun q h => L_in h)
  have hS : va_S (LF a A B) s.heap s.heap [] := va_S.rf
  have hl := lv_entry ([.ref a, .long x1, .int x3]) (n := 5) (Nat.le_of_ble_eq_true rfl)
  rw [lg_entry_eq]
  generalize (lg_sl ([.ref a, .long x1, .int x3]) ++ List.replicate (5 - (lg_sl ([.ref a, .long x1, .int x3])).length) Slot.unset).toArray = ls at hl ⊢
  have hl : lv_has ls 5 [(0, .ref a), (1, .long x1), (3, .int x3)] := hl
  generalize hargs : ([.ref a, .long x1, .int x3] : List Value).toArray = args at hg hts ⊢
  unfold p_LanguageServer_append at h
  refine lv_aload_n hx hb d_LS_append_0 rfl (lv_at hl 0 rfl) ?_
  refine gflS_10 hx hb hg hown hK hP d_LS_append_1 ?_
  refine gflA_19 hx hb hg hown hK hP d_LS_append_4 ?_
  refine lv_astore (lv' := [(4, .ref (A 1)), (0, .ref a), (1, .long x1), (3, .int x3)]) hx hb d_LS_append_7 hl (by decide) rfl (fun ls hl => ?_)
  refine lv_iload_n hx hb d_LS_append_9 rfl (lv_at hl 3 rfl) ?_
  refine lv_iconst (v := 1) hx hb d_LS_append_10 (by decide) ?_
  refine lv_icmp_lt (tgt := 28) hx hb d_LS_append_11 (by decide) (fun c_11 => ?_) (fun c_11 => ?_)
  · replace h := itp c_11 h
    exact (kne (by decide) h).elim
  · replace h := itf c_11 h
    refine lv_iload_n hx hb d_LS_append_14 rfl (lv_at hl 3 rfl) ?_
    refine lv_bipush (v := 8) hx hb d_LS_append_15 (by decide) ?_
    refine lv_icmp_gt (tgt := 28) hx hb d_LS_append_17 (by decide) (fun c_17 => ?_) (fun c_17 => ?_)
    · replace h := itp c_17 h
      exact (kne (by decide) h).elim
    · replace h := itf c_17 h
      refine lv_lload_n hx hb d_LS_append_20 rfl (lv_at hl 2 rfl) ?_
      refine lv_iload_n hx hb d_LS_append_21 rfl (lv_at hl 3 rfl) ?_
      obtain ⟨v_22, e_22, h⟩ := bd1_some h
      refine R_cpi (va_runS (As := [.long x1, .int x3]) (rest := []) ⟨hx, hb, hml, hown, hts⟩ (c_LS_areCodes l e_22) (va_cwS 2 hts (gd_S wd_708 wd_709 wd_1 wd_710) rfl rfl rfl ds_LS_areCodes ⟨Nat.le_of_ble_eq_true rfl, Nat.le_of_ble_eq_true rfl⟩) (P_ps hK.2) rfl rfl hl.1 rfl (lv_room (Nat.le_of_ble_eq_true rfl)) d_LS_append_22 ⟨Nat.le_of_ble_eq_true rfl, Nat.le_of_ble_eq_true rfl⟩) hP hD hS (fun H locs hP hD hS => ?_)
      refine lv_if_ne (tgt := 38) hx hb d_LS_append_25 (by decide) (fun c_25 => ?_) (fun c_25 => ?_)
      · replace h := itf c_25 h
        refine lv_aload hx hb d_LS_append_38 (lv_at hl 0 rfl) ?_
        refine gflA_23 hx hb hg hown hK hP d_LS_append_40 ?_
        refine lv_iload_n hx hb d_LS_append_43 rfl (lv_at hl 3 rfl) ?_
        refine lv_iadd hx hb d_LS_append_44 ?_
        refine lv_sipush (v := 240) hx hb d_LS_append_45 (by decide) ?_
        refine lv_icmp_le (tgt := 61) hx hb d_LS_append_48 (by decide) (fun c_48 => ?_) (fun c_48 => ?_)
        · replace h := itp c_48 h
          refine lv_aload hx hb d_LS_append_61 (lv_at hl 0 rfl) ?_
          refine lv_lload_n hx hb d_LS_append_63 rfl (lv_at hl 2 rfl) ?_
          refine lv_iload_n hx hb d_LS_append_64 rfl (lv_at hl 3 rfl) ?_
          obtain ⟨σ_65, e_65, h⟩ := bd1_some h
          refine G_callv (A := A) (σ := σ) (w1 := ([(a, .inr (0, [.ref (A 0), .ref (B 0)]))] : va_W)) (w2 := (wR K B τ)) (va_runV (As := [.long x1, .int x3]) (rest := []) ⟨hx, hb, hml, hown, hts⟩ (c_Text_addBytes l K A e_65) (cwV 2 hts (gd_V wd_716 wd_717 wd_718 wd_3 wd_719) rfl rfl rfl dv_Text_addBytes ⟨Nat.le_of_ble_eq_true rfl, Nat.le_of_ble_eq_true rfl⟩) (R_pv_1 (A := A) hK (mid_P (w1 := ([(a, .inr (0, [.ref (A 0), .ref (B 0)]))] : va_W)) (w2 := (wR K B τ)) hP) (mid_D (w1 := ([(a, .inr (0, [.ref (A 0), .ref (B 0)]))] : va_W)) (w2 := (wR K B τ)) hD (fun _ _ h => wR_in h))) rfl rfl hl.1 rfl (lv_room (Nat.le_of_ble_eq_true rfl)) d_LS_append_65 ⟨Nat.le_of_ble_eq_true rfl, Nat.le_of_ble_eq_true rfl⟩) hP hD hS (fun H locs hP hD hS => ?_)
          have hP : va_P K.1 vwCl (wL K a A B σ_65 τ) H := hP
          have hD : va_D (LF a A B) (wL K a A B σ_65 τ) := hD
          refine lv_aload_n hx hb d_LS_append_68 rfl (lv_at hl 1 rfl) ?_
          refine gflS_10 hx hb hg hown hK hP d_LS_append_69 ?_
          obtain ⟨σ_72, e_72, h⟩ := bd1_some h
          refine G_callv (A := A) (σ := σ_65) (w1 := ([(a, .inr (0, [.ref (A 0), .ref (B 0)]))] : va_W)) (w2 := (wR K B τ)) (va_runV (As := []) (rest := []) ⟨hx, hb, hml, hown, hts⟩ (c_Reading_touch l K A e_72) (cwV 0 hts (gd_V wd_697 wd_698 wd_699 wd_2 wd_700) rfl rfl rfl dv_Reading_touch ⟨Nat.le_of_ble_eq_true rfl, Nat.le_of_ble_eq_true rfl⟩) (R_pv_0 (A := A) hK (mid_P (w1 := ([(a, .inr (0, [.ref (A 0), .ref (B 0)]))] : va_W)) (w2 := (wR K B τ)) hP) (mid_D (w1 := ([(a, .inr (0, [.ref (A 0), .ref (B 0)]))] : va_W)) (w2 := (wR K B τ)) hD (fun _ _ h => wR_in h))) rfl rfl hl.1 rfl (lv_room (Nat.le_of_ble_eq_true rfl)) d_LS_append_72 ⟨Nat.le_of_ble_eq_true rfl, Nat.le_of_ble_eq_true rfl⟩) hP hD hS (fun H locs hP hD hS => ?_)
          have hP : va_P K.1 vwCl (wL K a A B σ_72 τ) H := hP
          have hD : va_D (LF a A B) (wL K a A B σ_72 τ) := hD
          refine lv_aload hx hb d_LS_append_75 (lv_at hl 0 rfl) ?_
          refine gflA_23 hx hb hg hown hK hP d_LS_append_77 ?_
          exact (kne (by decide) h).elim
        · replace h := itf c_48 h
          cases h
          exact T_throw (own := "LanguageServer") (X := "java/lang/IllegalStateException") (text := "the text would be too long") hx hb hlt hown (by decide +kernel) (xat_ISE hg hLK.2.1 hLK.2.2) dx_ISE_0 dx_ISE_1 dx_ISE_2 dx_ISE_5 (hg _ wd_674) (hg _ wd_15) (hLK.2.1.2.2 (58, "the text would be too long") (by decide)) (hl.1.trans hml.symm) hemp hlocks hS hFs (fun t hW hz hk => LB_of hLK hS hP hD hW hk) hS.2.2 (Nat.le_of_ble_eq_true rfl) (Nat.le_of_ble_eq_true rfl) (Nat.le_of_ble_eq_true rfl) (Nat.le_of_ble_eq_true rfl) (Nat.le_of_ble_eq_true rfl) (Nat.le_of_ble_eq_true rfl) d_LS_append_51 d_LS_append_54 d_LS_append_55 d_LS_append_57 d_LS_append_60
      · replace h := itp c_25 h
        exact (kne (by decide) h).elim
def p_LanguageServer_delete (σ τ : Sto) (x1 : Int32) (x2 : Int32) : Option Lr :=
  (if x1 < 0 then
      some (1, 0, σ, τ)
    else
      (if (σ.1 1) < x1 then
        some (1, 0, σ, τ)
      else
        (if x2 < 0 then
          some (1, 0, σ, τ)
        else
          (if x2 ≤ ((σ.1 1) - x1) then
            bd1 (p_Text_take σ x1 x2) fun σ_47 =>
            bd1 (p_Reading_touch σ_47) fun σ_54 =>
            some (0, σ_54.1 1, σ_54, τ)
          else
            some (1, 0, σ, τ)))))
abbrev w_LS_delete : List Cond := Cond.code y_LS_delete b_LS_delete 4 (some .int) :: Tg
abbrev r_LS_delete : Room := { frames := 2, cells := 0, slots := 0, locals := 65 }
abbrev rt_LS_delete : Room := { frames := 6, cells := 1, slots := 6, locals := 90 }
theorem dv_LS_delete : y_LS_delete.cls = "LanguageServer" ∧ y_LS_delete.cls ≠ "java/lang/invoke/MethodHandle" ∧ y_LS_delete.cls ≠ "java/lang/invoke/VarHandle" ∧ (parseMethodDescriptor y_LS_delete.desc).map (fun d => d.parameters.length) = some 2 := by decide +kernel
set_option maxHeartbeats 4000000 in
set_option maxRecDepth 100000 in
theorem c_LS_delete (l : Launch) (K : Kst) (a : Nat) (A B : Nat → Nat) {σ τ : Sto} {x1 : Int32} {x2 : Int32} {rr : Int32} {ss tt : Sto} (h : p_LanguageServer_delete σ τ x1 x2 = some (0, rr, ss, tt)) : Met l y_LS_delete w_LS_delete r_LS_delete (va_Pc [.ref a, .int x1, .int x2] (LB K a A B σ τ)) (va_Qi (S := Unit) (fun v _ => v = rr) (fun _ t => LB K a A B ss tt t) (LF a A B)) 0 0 (LF a A B) := by
  refine Met.ofW (cc := b_LS_delete) (maxL := 4) (ret := (some .int)) (by decide) rfl ?_
  intro p e s m args below meth c s₁ Bd hml hv
  obtain ⟨rfl, hP, hLK, hD⟩ := hv
  have hK := hLK.1
  have hx := Bd.exec
  have hb := Bd.bytes
  have hr := Bd.returns
  have hts := atoms_spec (ws := w_LS_delete) Bd.pre
  have hg : ∀ w ∈ Tg, w.before _ s = true := fun w q => hts w (List.mem_cons_of_mem _ q)
  have hown : s.vm.findClass "LanguageServer" = some m.cls := findClass_of_methodNamed Bd.named
  have hlocks := Bd.notSynchronized
  have hS : va_S (LF a A B) s.heap s.heap [] := va_S.rf
  have hl := lv_entry ([.ref a, .int x1, .int x2]) (n := 4) (Nat.le_of_ble_eq_true rfl)
  rw [lg_entry_eq]
  generalize (lg_sl ([.ref a, .int x1, .int x2]) ++ List.replicate (4 - (lg_sl ([.ref a, .int x1, .int x2])).length) Slot.unset).toArray = ls at hl ⊢
  have hl : lv_has ls 4 [(0, .ref a), (1, .int x1), (2, .int x2)] := hl
  generalize hargs : ([.ref a, .int x1, .int x2] : List Value).toArray = args at hg hts ⊢
  have hRet : ∀ (v : Int32) (σ τ : Sto), some ((0, v, σ, τ) : Lr) = some (0, rr, ss, tt) → ∀ (H : Heap) (locs : List Loc), va_P K.1 vwCl (wL K a A B σ τ) H → va_D (LF a A B) (wL K a A B σ τ) → va_S (LF a A B) s.heap H locs → ∀ (pc : Nat) (ls : Array Slot), decode b_LS_delete pc = .ok (.ireturn, 1) → W p l e (headSpec w_LS_delete r_LS_delete).room s m args below meth c H locs 0 0 (MQ below (va_Qi (S := Unit) (fun v _ => v = rr) (fun _ t => LB K a A B ss tt t) (LF a A B)) args s 0 0 (LF a A B)) (F0 m pc ls [.int v]) := by
    intro v σ τ h H locs hP hD hS pc ls hd
    cases h
    exact W.iret hx hb hr (fun t ht hW => ⟨⟨_, (), rfl, rfl, LB_of hLK hS hP hD hW (fun q _ => by rw [ht])⟩, hS.F ht⟩) hS.2.2 hd
  unfold p_LanguageServer_delete at h
  refine lv_aload_n hx hb d_LS_delete_0 rfl (lv_at hl 0 rfl) ?_
  refine gflS_10 hx hb hg hown hK hP d_LS_delete_1 ?_
  refine gflA_19 hx hb hg hown hK hP d_LS_delete_4 ?_
  refine lv_astore_n (lv' := [(3, .ref (A 1)), (0, .ref a), (1, .int x1), (2, .int x2)]) hx hb d_LS_delete_7 rfl hl (by decide) rfl (fun ls hl => ?_)
  refine lv_iload_n hx hb d_LS_delete_8 rfl (lv_at hl 2 rfl) ?_
  refine lv_if_lt (tgt := 34) hx hb d_LS_delete_9 (by decide) (fun c_9 => ?_) (fun c_9 => ?_)
  · replace h := itp c_9 h
    exact (kne (by decide) h).elim
  · replace h := itf c_9 h
    refine lv_iload_n hx hb d_LS_delete_12 rfl (lv_at hl 2 rfl) ?_
    refine lv_aload_n hx hb d_LS_delete_13 rfl (lv_at hl 0 rfl) ?_
    refine gflA_23 hx hb hg hown hK hP d_LS_delete_14 ?_
    refine lv_icmp_gt (tgt := 34) hx hb d_LS_delete_17 (by decide) (fun c_17 => ?_) (fun c_17 => ?_)
    · replace h := itp c_17 h
      exact (kne (by decide) h).elim
    · replace h := itf c_17 h
      refine lv_iload_n hx hb d_LS_delete_20 rfl (lv_at hl 3 rfl) ?_
      refine lv_if_lt (tgt := 34) hx hb d_LS_delete_21 (by decide) (fun c_21 => ?_) (fun c_21 => ?_)
      · replace h := itp c_21 h
        exact (kne (by decide) h).elim
      · replace h := itf c_21 h
        refine lv_iload_n hx hb d_LS_delete_24 rfl (lv_at hl 3 rfl) ?_
        refine lv_aload_n hx hb d_LS_delete_25 rfl (lv_at hl 0 rfl) ?_
        refine gflA_23 hx hb hg hown hK hP d_LS_delete_26 ?_
        refine lv_iload_n hx hb d_LS_delete_29 rfl (lv_at hl 2 rfl) ?_
        refine lv_isub hx hb d_LS_delete_30 ?_
        refine lv_icmp_le (tgt := 44) hx hb d_LS_delete_31 (by decide) (fun c_31 => ?_) (fun c_31 => ?_)
        · replace h := itp c_31 h
          refine lv_aload_n hx hb d_LS_delete_44 rfl (lv_at hl 0 rfl) ?_
          refine lv_iload_n hx hb d_LS_delete_45 rfl (lv_at hl 2 rfl) ?_
          refine lv_iload_n hx hb d_LS_delete_46 rfl (lv_at hl 3 rfl) ?_
          obtain ⟨σ_47, e_47, h⟩ := bd1_some h
          refine G_callv (A := A) (σ := σ) (w1 := ([(a, .inr (0, [.ref (A 0), .ref (B 0)]))] : va_W)) (w2 := (wR K B τ)) (va_runV (As := [.int x1, .int x2]) (rest := []) ⟨hx, hb, hml, hown, hts⟩ (c_Text_take l K A e_47) (cwV 2 hts (gd_V wd_733 wd_734 wd_735 wd_3 wd_736) rfl rfl rfl dv_Text_take ⟨Nat.le_of_ble_eq_true rfl, Nat.le_of_ble_eq_true rfl⟩) (R_pv_1 (A := A) hK (mid_P (w1 := ([(a, .inr (0, [.ref (A 0), .ref (B 0)]))] : va_W)) (w2 := (wR K B τ)) hP) (mid_D (w1 := ([(a, .inr (0, [.ref (A 0), .ref (B 0)]))] : va_W)) (w2 := (wR K B τ)) hD (fun _ _ h => wR_in h))) rfl rfl hl.1 rfl (lv_room (Nat.le_of_ble_eq_true rfl)) d_LS_delete_47 ⟨Nat.le_of_ble_eq_true rfl, Nat.le_of_ble_eq_true rfl⟩) hP hD hS (fun H locs hP hD hS => ?_)
          have hP : va_P K.1 vwCl (wL K a A B σ_47 τ) H := hP
          have hD : va_D (LF a A B) (wL K a A B σ_47 τ) := hD
          refine lv_aload_n hx hb d_LS_delete_50 rfl (lv_at hl 1 rfl) ?_
          refine gflS_10 hx hb hg hown hK hP d_LS_delete_51 ?_
          obtain ⟨σ_54, e_54, h⟩ := bd1_some h
          refine G_callv (A := A) (σ := σ_47) (w1 := ([(a, .inr (0, [.ref (A 0), .ref (B 0)]))] : va_W)) (w2 := (wR K B τ)) (va_runV (As := []) (rest := []) ⟨hx, hb, hml, hown, hts⟩ (c_Reading_touch l K A e_54) (cwV 0 hts (gd_V wd_697 wd_698 wd_699 wd_2 wd_700) rfl rfl rfl dv_Reading_touch ⟨Nat.le_of_ble_eq_true rfl, Nat.le_of_ble_eq_true rfl⟩) (R_pv_0 (A := A) hK (mid_P (w1 := ([(a, .inr (0, [.ref (A 0), .ref (B 0)]))] : va_W)) (w2 := (wR K B τ)) hP) (mid_D (w1 := ([(a, .inr (0, [.ref (A 0), .ref (B 0)]))] : va_W)) (w2 := (wR K B τ)) hD (fun _ _ h => wR_in h))) rfl rfl hl.1 rfl (lv_room (Nat.le_of_ble_eq_true rfl)) d_LS_delete_54 ⟨Nat.le_of_ble_eq_true rfl, Nat.le_of_ble_eq_true rfl⟩) hP hD hS (fun H locs hP hD hS => ?_)
          have hP : va_P K.1 vwCl (wL K a A B σ_54 τ) H := hP
          have hD : va_D (LF a A B) (wL K a A B σ_54 τ) := hD
          refine lv_aload_n hx hb d_LS_delete_57 rfl (lv_at hl 0 rfl) ?_
          refine gflA_23 hx hb hg hown hK hP d_LS_delete_58 ?_
          exact hRet _ _ _ h _ _ hP hD hS _ _ d_LS_delete_61
        · replace h := itf c_31 h
          exact (kne (by decide) h).elim
set_option maxHeartbeats 4000000 in
set_option maxRecDepth 100000 in
theorem ct_LS_delete_1 (l : Launch) (hlt : l.stackTraces = false) (K : Kst) (a : Nat) (A B : Nat → Nat) {σ τ : Sto} {x1 : Int32} {x2 : Int32} {rr : Int32} {ss tt : Sto} (h : p_LanguageServer_delete σ τ x1 x2 = some (1, rr, ss, tt)) : MetT l y_LS_delete w_LS_delete rt_LS_delete (va_Pc [.ref a, .int x1, .int x2] (LB K a A B σ τ)) "java/lang/IllegalArgumentException" (LB K a A B ss tt) (LF a A B) 1 6 (LF a A B) := by
  refine MetT.ofW (cc := b_LS_delete) (maxL := 4) (ret := (some .int)) (by decide) rfl ?_
  intro p e s m args below meth c s₁ Bd hml hemp hv
  obtain ⟨rfl, hP, hLK, hD⟩ := hv
  have hK := hLK.1
  have hx := Bd.exec
  have hb := Bd.bytes
  have hr := Bd.returns
  have hts := atoms_spec (ws := w_LS_delete) Bd.pre
  have hg : ∀ w ∈ Tg, w.before _ s = true := fun w q => hts w (List.mem_cons_of_mem _ q)
  have hown : s.vm.findClass "LanguageServer" = some m.cls := findClass_of_methodNamed Bd.named
  have hlocks := Bd.notSynchronized
  have hFs := noSt hP (F := LF a A B) (fun q h => L_in h)
  have hS : va_S (LF a A B) s.heap s.heap [] := va_S.rf
  have hl := lv_entry ([.ref a, .int x1, .int x2]) (n := 4) (Nat.le_of_ble_eq_true rfl)
  rw [lg_entry_eq]
  generalize (lg_sl ([.ref a, .int x1, .int x2]) ++ List.replicate (4 - (lg_sl ([.ref a, .int x1, .int x2])).length) Slot.unset).toArray = ls at hl ⊢
  have hl : lv_has ls 4 [(0, .ref a), (1, .int x1), (2, .int x2)] := hl
  generalize hargs : ([.ref a, .int x1, .int x2] : List Value).toArray = args at hg hts ⊢
  unfold p_LanguageServer_delete at h
  refine lv_aload_n hx hb d_LS_delete_0 rfl (lv_at hl 0 rfl) ?_
  refine gflS_10 hx hb hg hown hK hP d_LS_delete_1 ?_
  refine gflA_19 hx hb hg hown hK hP d_LS_delete_4 ?_
  refine lv_astore_n (lv' := [(3, .ref (A 1)), (0, .ref a), (1, .int x1), (2, .int x2)]) hx hb d_LS_delete_7 rfl hl (by decide) rfl (fun ls hl => ?_)
  refine lv_iload_n hx hb d_LS_delete_8 rfl (lv_at hl 2 rfl) ?_
  refine lv_if_lt (tgt := 34) hx hb d_LS_delete_9 (by decide) (fun c_9 => ?_) (fun c_9 => ?_)
  · replace h := itp c_9 h
    cases h
    exact T_throw (own := "LanguageServer") (X := "java/lang/IllegalArgumentException") (text := "not all of these places are in the text") hx hb hlt hown (by decide +kernel) (xat_IAE hg hLK.2.1 hLK.2.2) dx_IAE_0 dx_IAE_1 dx_IAE_2 dx_IAE_5 (hg _ wd_606) (hg _ wd_14) (hLK.2.1.2.2 (64, "not all of these places are in the text") (by decide)) (hl.1.trans hml.symm) hemp hlocks hS hFs (fun t hW hz hk => LB_of hLK hS hP hD hW hk) hS.2.2 (Nat.le_of_ble_eq_true rfl) (Nat.le_of_ble_eq_true rfl) (Nat.le_of_ble_eq_true rfl) (Nat.le_of_ble_eq_true rfl) (Nat.le_of_ble_eq_true rfl) (Nat.le_of_ble_eq_true rfl) d_LS_delete_34 d_LS_delete_37 d_LS_delete_38 d_LS_delete_40 d_LS_delete_43
  · replace h := itf c_9 h
    refine lv_iload_n hx hb d_LS_delete_12 rfl (lv_at hl 2 rfl) ?_
    refine lv_aload_n hx hb d_LS_delete_13 rfl (lv_at hl 0 rfl) ?_
    refine gflA_23 hx hb hg hown hK hP d_LS_delete_14 ?_
    refine lv_icmp_gt (tgt := 34) hx hb d_LS_delete_17 (by decide) (fun c_17 => ?_) (fun c_17 => ?_)
    · replace h := itp c_17 h
      cases h
      exact T_throw (own := "LanguageServer") (X := "java/lang/IllegalArgumentException") (text := "not all of these places are in the text") hx hb hlt hown (by decide +kernel) (xat_IAE hg hLK.2.1 hLK.2.2) dx_IAE_0 dx_IAE_1 dx_IAE_2 dx_IAE_5 (hg _ wd_606) (hg _ wd_14) (hLK.2.1.2.2 (64, "not all of these places are in the text") (by decide)) (hl.1.trans hml.symm) hemp hlocks hS hFs (fun t hW hz hk => LB_of hLK hS hP hD hW hk) hS.2.2 (Nat.le_of_ble_eq_true rfl) (Nat.le_of_ble_eq_true rfl) (Nat.le_of_ble_eq_true rfl) (Nat.le_of_ble_eq_true rfl) (Nat.le_of_ble_eq_true rfl) (Nat.le_of_ble_eq_true rfl) d_LS_delete_34 d_LS_delete_37 d_LS_delete_38 d_LS_delete_40 d_LS_delete_43
    · replace h := itf c_17 h
      refine lv_iload_n hx hb d_LS_delete_20 rfl (lv_at hl 3 rfl) ?_
      refine lv_if_lt (tgt := 34) hx hb d_LS_delete_21 (by decide) (fun c_21 => ?_) (fun c_21 => ?_)
      · replace h := itp c_21 h
        cases h
        exact T_throw (own := "LanguageServer") (X := "java/lang/IllegalArgumentException") (text := "not all of these places are in the text") hx hb hlt hown (by decide +kernel) (xat_IAE hg hLK.2.1 hLK.2.2) dx_IAE_0 dx_IAE_1 dx_IAE_2 dx_IAE_5 (hg _ wd_606) (hg _ wd_14) (hLK.2.1.2.2 (64, "not all of these places are in the text") (by decide)) (hl.1.trans hml.symm) hemp hlocks hS hFs (fun t hW hz hk => LB_of hLK hS hP hD hW hk) hS.2.2 (Nat.le_of_ble_eq_true rfl) (Nat.le_of_ble_eq_true rfl) (Nat.le_of_ble_eq_true rfl) (Nat.le_of_ble_eq_true rfl) (Nat.le_of_ble_eq_true rfl) (Nat.le_of_ble_eq_true rfl) d_LS_delete_34 d_LS_delete_37 d_LS_delete_38 d_LS_delete_40 d_LS_delete_43
      · replace h := itf c_21 h
        refine lv_iload_n hx hb d_LS_delete_24 rfl (lv_at hl 3 rfl) ?_
        refine lv_aload_n hx hb d_LS_delete_25 rfl (lv_at hl 0 rfl) ?_
        refine gflA_23 hx hb hg hown hK hP d_LS_delete_26 ?_
        refine lv_iload_n hx hb d_LS_delete_29 rfl (lv_at hl 2 rfl) ?_
        refine lv_isub hx hb d_LS_delete_30 ?_
        refine lv_icmp_le (tgt := 44) hx hb d_LS_delete_31 (by decide) (fun c_31 => ?_) (fun c_31 => ?_)
        · replace h := itp c_31 h
          refine lv_aload_n hx hb d_LS_delete_44 rfl (lv_at hl 0 rfl) ?_
          refine lv_iload_n hx hb d_LS_delete_45 rfl (lv_at hl 2 rfl) ?_
          refine lv_iload_n hx hb d_LS_delete_46 rfl (lv_at hl 3 rfl) ?_
          obtain ⟨σ_47, e_47, h⟩ := bd1_some h
          refine G_callv (A := A) (σ := σ) (w1 := ([(a, .inr (0, [.ref (A 0), .ref (B 0)]))] : va_W)) (w2 := (wR K B τ)) (va_runV (As := [.int x1, .int x2]) (rest := []) ⟨hx, hb, hml, hown, hts⟩ (c_Text_take l K A e_47) (cwV 2 hts (gd_V wd_733 wd_734 wd_735 wd_3 wd_736) rfl rfl rfl dv_Text_take ⟨Nat.le_of_ble_eq_true rfl, Nat.le_of_ble_eq_true rfl⟩) (R_pv_1 (A := A) hK (mid_P (w1 := ([(a, .inr (0, [.ref (A 0), .ref (B 0)]))] : va_W)) (w2 := (wR K B τ)) hP) (mid_D (w1 := ([(a, .inr (0, [.ref (A 0), .ref (B 0)]))] : va_W)) (w2 := (wR K B τ)) hD (fun _ _ h => wR_in h))) rfl rfl hl.1 rfl (lv_room (Nat.le_of_ble_eq_true rfl)) d_LS_delete_47 ⟨Nat.le_of_ble_eq_true rfl, Nat.le_of_ble_eq_true rfl⟩) hP hD hS (fun H locs hP hD hS => ?_)
          have hP : va_P K.1 vwCl (wL K a A B σ_47 τ) H := hP
          have hD : va_D (LF a A B) (wL K a A B σ_47 τ) := hD
          refine lv_aload_n hx hb d_LS_delete_50 rfl (lv_at hl 1 rfl) ?_
          refine gflS_10 hx hb hg hown hK hP d_LS_delete_51 ?_
          obtain ⟨σ_54, e_54, h⟩ := bd1_some h
          refine G_callv (A := A) (σ := σ_47) (w1 := ([(a, .inr (0, [.ref (A 0), .ref (B 0)]))] : va_W)) (w2 := (wR K B τ)) (va_runV (As := []) (rest := []) ⟨hx, hb, hml, hown, hts⟩ (c_Reading_touch l K A e_54) (cwV 0 hts (gd_V wd_697 wd_698 wd_699 wd_2 wd_700) rfl rfl rfl dv_Reading_touch ⟨Nat.le_of_ble_eq_true rfl, Nat.le_of_ble_eq_true rfl⟩) (R_pv_0 (A := A) hK (mid_P (w1 := ([(a, .inr (0, [.ref (A 0), .ref (B 0)]))] : va_W)) (w2 := (wR K B τ)) hP) (mid_D (w1 := ([(a, .inr (0, [.ref (A 0), .ref (B 0)]))] : va_W)) (w2 := (wR K B τ)) hD (fun _ _ h => wR_in h))) rfl rfl hl.1 rfl (lv_room (Nat.le_of_ble_eq_true rfl)) d_LS_delete_54 ⟨Nat.le_of_ble_eq_true rfl, Nat.le_of_ble_eq_true rfl⟩) hP hD hS (fun H locs hP hD hS => ?_)
          have hP : va_P K.1 vwCl (wL K a A B σ_54 τ) H := hP
          have hD : va_D (LF a A B) (wL K a A B σ_54 τ) := hD
          refine lv_aload_n hx hb d_LS_delete_57 rfl (lv_at hl 0 rfl) ?_
          refine gflA_23 hx hb hg hown hK hP d_LS_delete_58 ?_
          exact (kne (by decide) h).elim
        · replace h := itf c_31 h
          cases h
          exact T_throw (own := "LanguageServer") (X := "java/lang/IllegalArgumentException") (text := "not all of these places are in the text") hx hb hlt hown (by decide +kernel) (xat_IAE hg hLK.2.1 hLK.2.2) dx_IAE_0 dx_IAE_1 dx_IAE_2 dx_IAE_5 (hg _ wd_606) (hg _ wd_14) (hLK.2.1.2.2 (64, "not all of these places are in the text") (by decide)) (hl.1.trans hml.symm) hemp hlocks hS hFs (fun t hW hz hk => LB_of hLK hS hP hD hW hk) hS.2.2 (Nat.le_of_ble_eq_true rfl) (Nat.le_of_ble_eq_true rfl) (Nat.le_of_ble_eq_true rfl) (Nat.le_of_ble_eq_true rfl) (Nat.le_of_ble_eq_true rfl) (Nat.le_of_ble_eq_true rfl) d_LS_delete_34 d_LS_delete_37 d_LS_delete_38 d_LS_delete_40 d_LS_delete_43
def p_LanguageServer_text (σ τ : Sto) (x1 : Int32) : Option Lr :=
  (if x1 < 0 then
      some (3, 0, σ, τ)
    else
      (if x1 < (σ.1 1) then
        if inR x1 240 then some (0, σ.2.1 2 x1.toNatClampNeg, σ, τ) else none
      else
        some (3, 0, σ, τ)))
abbrev w_LS_text : List Cond := Cond.code y_LS_text b_LS_text 2 (some .int) :: Tg
abbrev r_LS_text : Room := { frames := 0, cells := 0, slots := 0, locals := 0 }
abbrev rt_LS_text : Room := { frames := 6, cells := 1, slots := 6, locals := 90 }
theorem dv_LS_text : y_LS_text.cls = "LanguageServer" ∧ y_LS_text.cls ≠ "java/lang/invoke/MethodHandle" ∧ y_LS_text.cls ≠ "java/lang/invoke/VarHandle" ∧ (parseMethodDescriptor y_LS_text.desc).map (fun d => d.parameters.length) = some 1 := by decide +kernel
set_option maxHeartbeats 4000000 in
set_option maxRecDepth 100000 in
theorem c_LS_text (l : Launch) (K : Kst) (a : Nat) (A B : Nat → Nat) {σ τ : Sto} {x1 : Int32} {rr : Int32} {ss tt : Sto} (h : p_LanguageServer_text σ τ x1 = some (0, rr, ss, tt)) : Met l y_LS_text w_LS_text r_LS_text (va_Pc [.ref a, .int x1] (LB K a A B σ τ)) (va_Qi (S := Unit) (fun v _ => v = rr) (fun _ t => LB K a A B ss tt t) (LF a A B)) 0 0 (LF a A B) := by
  refine Met.ofW (cc := b_LS_text) (maxL := 2) (ret := (some .int)) (by decide) rfl ?_
  intro p e s m args below meth c s₁ Bd hml hv
  obtain ⟨rfl, hP, hLK, hD⟩ := hv
  have hK := hLK.1
  have hx := Bd.exec
  have hb := Bd.bytes
  have hr := Bd.returns
  have hts := atoms_spec (ws := w_LS_text) Bd.pre
  have hg : ∀ w ∈ Tg, w.before _ s = true := fun w q => hts w (List.mem_cons_of_mem _ q)
  have hown : s.vm.findClass "LanguageServer" = some m.cls := findClass_of_methodNamed Bd.named
  have hlocks := Bd.notSynchronized
  have hS : va_S (LF a A B) s.heap s.heap [] := va_S.rf
  have hl := lv_entry ([.ref a, .int x1]) (n := 2) (Nat.le_of_ble_eq_true rfl)
  rw [lg_entry_eq]
  generalize (lg_sl ([.ref a, .int x1]) ++ List.replicate (2 - (lg_sl ([.ref a, .int x1])).length) Slot.unset).toArray = ls at hl ⊢
  have hl : lv_has ls 2 [(0, .ref a), (1, .int x1)] := hl
  generalize hargs : ([.ref a, .int x1] : List Value).toArray = args at hg hts ⊢
  have hRet : ∀ (v : Int32) (σ τ : Sto), some ((0, v, σ, τ) : Lr) = some (0, rr, ss, tt) → ∀ (H : Heap) (locs : List Loc), va_P K.1 vwCl (wL K a A B σ τ) H → va_D (LF a A B) (wL K a A B σ τ) → va_S (LF a A B) s.heap H locs → ∀ (pc : Nat) (ls : Array Slot), decode b_LS_text pc = .ok (.ireturn, 1) → W p l e (headSpec w_LS_text r_LS_text).room s m args below meth c H locs 0 0 (MQ below (va_Qi (S := Unit) (fun v _ => v = rr) (fun _ t => LB K a A B ss tt t) (LF a A B)) args s 0 0 (LF a A B)) (F0 m pc ls [.int v]) := by
    intro v σ τ h H locs hP hD hS pc ls hd
    cases h
    exact W.iret hx hb hr (fun t ht hW => ⟨⟨_, (), rfl, rfl, LB_of hLK hS hP hD hW (fun q _ => by rw [ht])⟩, hS.F ht⟩) hS.2.2 hd
  unfold p_LanguageServer_text at h
  refine lv_iload_n hx hb d_LS_text_0 rfl (lv_at hl 1 rfl) ?_
  refine lv_if_lt (tgt := 18) hx hb d_LS_text_1 (by decide) (fun c_1 => ?_) (fun c_1 => ?_)
  · replace h := itp c_1 h
    exact (kne (by decide) h).elim
  · replace h := itf c_1 h
    refine lv_iload_n hx hb d_LS_text_4 rfl (lv_at hl 1 rfl) ?_
    refine lv_aload_n hx hb d_LS_text_5 rfl (lv_at hl 0 rfl) ?_
    refine gflS_10 hx hb hg hown hK hP d_LS_text_6 ?_
    refine gflA_19 hx hb hg hown hK hP d_LS_text_9 ?_
    refine gflA_23 hx hb hg hown hK hP d_LS_text_12 ?_
    refine lv_icmp_lt (tgt := 28) hx hb d_LS_text_15 (by decide) (fun c_15 => ?_) (fun c_15 => ?_)
    · replace h := itp c_15 h
      refine lv_aload_n hx hb d_LS_text_28 rfl (lv_at hl 0 rfl) ?_
      refine gflS_10 hx hb hg hown hK hP d_LS_text_29 ?_
      refine gflA_19 hx hb hg hown hK hP d_LS_text_32 ?_
      refine gflA_74 hx hb hg hown hK hP d_LS_text_35 ?_
      refine lv_iload_n hx hb d_LS_text_38 rfl (lv_at hl 1 rfl) ?_
      obtain ⟨i_39, h⟩ := itn h
      refine ralA_2 hx hb hK hP i_39 d_LS_text_39 ?_
      exact hRet _ _ _ h _ _ hP hD hS _ _ d_LS_text_40
    · replace h := itf c_15 h
      exact (kne (by decide) h).elim
set_option maxHeartbeats 4000000 in
set_option maxRecDepth 100000 in
theorem ct_LS_text_3 (l : Launch) (hlt : l.stackTraces = false) (K : Kst) (a : Nat) (A B : Nat → Nat) {σ τ : Sto} {x1 : Int32} {rr : Int32} {ss tt : Sto} (h : p_LanguageServer_text σ τ x1 = some (3, rr, ss, tt)) : MetT l y_LS_text w_LS_text rt_LS_text (va_Pc [.ref a, .int x1] (LB K a A B σ τ)) "java/util/NoSuchElementException" (LB K a A B ss tt) (LF a A B) 1 6 (LF a A B) := by
  refine MetT.ofW (cc := b_LS_text) (maxL := 2) (ret := (some .int)) (by decide) rfl ?_
  intro p e s m args below meth c s₁ Bd hml hemp hv
  obtain ⟨rfl, hP, hLK, hD⟩ := hv
  have hK := hLK.1
  have hx := Bd.exec
  have hb := Bd.bytes
  have hr := Bd.returns
  have hts := atoms_spec (ws := w_LS_text) Bd.pre
  have hg : ∀ w ∈ Tg, w.before _ s = true := fun w q => hts w (List.mem_cons_of_mem _ q)
  have hown : s.vm.findClass "LanguageServer" = some m.cls := findClass_of_methodNamed Bd.named
  have hlocks := Bd.notSynchronized
  have hFs := noSt hP (F := LF a A B) (fun q h => L_in h)
  have hS : va_S (LF a A B) s.heap s.heap [] := va_S.rf
  have hl := lv_entry ([.ref a, .int x1]) (n := 2) (Nat.le_of_ble_eq_true rfl)
  rw [lg_entry_eq]
  generalize (lg_sl ([.ref a, .int x1]) ++ List.replicate (2 - (lg_sl ([.ref a, .int x1])).length) Slot.unset).toArray = ls at hl ⊢
  have hl : lv_has ls 2 [(0, .ref a), (1, .int x1)] := hl
  generalize hargs : ([.ref a, .int x1] : List Value).toArray = args at hg hts ⊢
  unfold p_LanguageServer_text at h
  refine lv_iload_n hx hb d_LS_text_0 rfl (lv_at hl 1 rfl) ?_
  refine lv_if_lt (tgt := 18) hx hb d_LS_text_1 (by decide) (fun c_1 => ?_) (fun c_1 => ?_)
  · replace h := itp c_1 h
    cases h
    exact T_throw (own := "LanguageServer") (X := "java/util/NoSuchElementException") (text := "no character at this place") hx hb hlt hown (by decide +kernel) (xat_NSE hg hLK.2.1 hLK.2.2) dx_NSE_0 dx_NSE_1 dx_NSE_2 dx_NSE_5 (hg _ wd_745) (hg _ wd_17) (hLK.2.1.2.2 (71, "no character at this place") (by decide)) (hl.1.trans hml.symm) hemp hlocks hS hFs (fun t hW hz hk => LB_of hLK hS hP hD hW hk) hS.2.2 (Nat.le_of_ble_eq_true rfl) (Nat.le_of_ble_eq_true rfl) (Nat.le_of_ble_eq_true rfl) (Nat.le_of_ble_eq_true rfl) (Nat.le_of_ble_eq_true rfl) (Nat.le_of_ble_eq_true rfl) d_LS_text_18 d_LS_text_21 d_LS_text_22 d_LS_text_24 d_LS_text_27
  · replace h := itf c_1 h
    refine lv_iload_n hx hb d_LS_text_4 rfl (lv_at hl 1 rfl) ?_
    refine lv_aload_n hx hb d_LS_text_5 rfl (lv_at hl 0 rfl) ?_
    refine gflS_10 hx hb hg hown hK hP d_LS_text_6 ?_
    refine gflA_19 hx hb hg hown hK hP d_LS_text_9 ?_
    refine gflA_23 hx hb hg hown hK hP d_LS_text_12 ?_
    refine lv_icmp_lt (tgt := 28) hx hb d_LS_text_15 (by decide) (fun c_15 => ?_) (fun c_15 => ?_)
    · replace h := itp c_15 h
      refine lv_aload_n hx hb d_LS_text_28 rfl (lv_at hl 0 rfl) ?_
      refine gflS_10 hx hb hg hown hK hP d_LS_text_29 ?_
      refine gflA_19 hx hb hg hown hK hP d_LS_text_32 ?_
      refine gflA_74 hx hb hg hown hK hP d_LS_text_35 ?_
      refine lv_iload_n hx hb d_LS_text_38 rfl (lv_at hl 1 rfl) ?_
      obtain ⟨i_39, h⟩ := itn h
      refine ralA_2 hx hb hK hP i_39 d_LS_text_39 ?_
      exact (kne (by decide) h).elim
    · replace h := itf c_15 h
      cases h
      exact T_throw (own := "LanguageServer") (X := "java/util/NoSuchElementException") (text := "no character at this place") hx hb hlt hown (by decide +kernel) (xat_NSE hg hLK.2.1 hLK.2.2) dx_NSE_0 dx_NSE_1 dx_NSE_2 dx_NSE_5 (hg _ wd_745) (hg _ wd_17) (hLK.2.1.2.2 (71, "no character at this place") (by decide)) (hl.1.trans hml.symm) hemp hlocks hS hFs (fun t hW hz hk => LB_of hLK hS hP hD hW hk) hS.2.2 (Nat.le_of_ble_eq_true rfl) (Nat.le_of_ble_eq_true rfl) (Nat.le_of_ble_eq_true rfl) (Nat.le_of_ble_eq_true rfl) (Nat.le_of_ble_eq_true rfl) (Nat.le_of_ble_eq_true rfl) d_LS_text_18 d_LS_text_21 d_LS_text_22 d_LS_text_24 d_LS_text_27
def p_LanguageServer_diagnostics (σ τ : Sto) : Option Lr :=
  bd1 (p_Reading_refresh σ) fun σ_4 =>
    bd1 (p_Complaints_total σ_4) fun v_14 =>
    some (0, v_14, σ_4, τ)
abbrev w_LS_diagnostics : List Cond := Cond.code y_LS_diagnostics b_LS_diagnostics 1 (some .int) :: Tg
abbrev r_LS_diagnostics : Room := { frames := 7, cells := 0, slots := 0, locals := 162 }
abbrev rt_LS_diagnostics : Room := { frames := 7, cells := 1, slots := 6, locals := 162 }
theorem dv_LS_diagnostics : y_LS_diagnostics.cls = "LanguageServer" ∧ y_LS_diagnostics.cls ≠ "java/lang/invoke/MethodHandle" ∧ y_LS_diagnostics.cls ≠ "java/lang/invoke/VarHandle" ∧ (parseMethodDescriptor y_LS_diagnostics.desc).map (fun d => d.parameters.length) = some 0 := by decide +kernel
set_option maxHeartbeats 4000000 in
set_option maxRecDepth 100000 in
theorem c_LS_diagnostics (l : Launch) (K : Kst) (a : Nat) (A B : Nat → Nat) {σ τ : Sto} {rr : Int32} {ss tt : Sto} (h : p_LanguageServer_diagnostics σ τ = some (0, rr, ss, tt)) : Met l y_LS_diagnostics w_LS_diagnostics r_LS_diagnostics (va_Pc [.ref a] (LB K a A B σ τ)) (va_Qi (S := Unit) (fun v _ => v = rr) (fun _ t => LB K a A B ss tt t) (LF a A B)) 0 0 (LF a A B) := by
  refine Met.ofW (cc := b_LS_diagnostics) (maxL := 1) (ret := (some .int)) (by decide) rfl ?_
  intro p e s m args below meth c s₁ Bd hml hv
  obtain ⟨rfl, hP, hLK, hD⟩ := hv
  have hK := hLK.1
  have hx := Bd.exec
  have hb := Bd.bytes
  have hr := Bd.returns
  have hts := atoms_spec (ws := w_LS_diagnostics) Bd.pre
  have hg : ∀ w ∈ Tg, w.before _ s = true := fun w q => hts w (List.mem_cons_of_mem _ q)
  have hown : s.vm.findClass "LanguageServer" = some m.cls := findClass_of_methodNamed Bd.named
  have hlocks := Bd.notSynchronized
  have hS : va_S (LF a A B) s.heap s.heap [] := va_S.rf
  have hl := lv_entry ([.ref a]) (n := 1) (Nat.le_of_ble_eq_true rfl)
  rw [lg_entry_eq]
  generalize (lg_sl ([.ref a]) ++ List.replicate (1 - (lg_sl ([.ref a])).length) Slot.unset).toArray = ls at hl ⊢
  have hl : lv_has ls 1 [(0, .ref a)] := hl
  generalize hargs : ([.ref a] : List Value).toArray = args at hg hts ⊢
  have hRet : ∀ (v : Int32) (σ τ : Sto), some ((0, v, σ, τ) : Lr) = some (0, rr, ss, tt) → ∀ (H : Heap) (locs : List Loc), va_P K.1 vwCl (wL K a A B σ τ) H → va_D (LF a A B) (wL K a A B σ τ) → va_S (LF a A B) s.heap H locs → ∀ (pc : Nat) (ls : Array Slot), decode b_LS_diagnostics pc = .ok (.ireturn, 1) → W p l e (headSpec w_LS_diagnostics r_LS_diagnostics).room s m args below meth c H locs 0 0 (MQ below (va_Qi (S := Unit) (fun v _ => v = rr) (fun _ t => LB K a A B ss tt t) (LF a A B)) args s 0 0 (LF a A B)) (F0 m pc ls [.int v]) := by
    intro v σ τ h H locs hP hD hS pc ls hd
    cases h
    exact W.iret hx hb hr (fun t ht hW => ⟨⟨_, (), rfl, rfl, LB_of hLK hS hP hD hW (fun q _ => by rw [ht])⟩, hS.F ht⟩) hS.2.2 hd
  unfold p_LanguageServer_diagnostics at h
  refine lv_aload_n hx hb d_LS_diagnostics_0 rfl (lv_at hl 0 rfl) ?_
  refine gflS_10 hx hb hg hown hK hP d_LS_diagnostics_1 ?_
  obtain ⟨σ_4, e_4, h⟩ := bd1_some h
  refine G_callv (A := A) (σ := σ) (w1 := ([(a, .inr (0, [.ref (A 0), .ref (B 0)]))] : va_W)) (w2 := (wR K B τ)) (va_runV (As := []) (rest := []) ⟨hx, hb, hml, hown, hts⟩ (c_Reading_refresh l K A e_4) (cwV 0 hts (gd_V wd_309 wd_310 wd_311 wd_2 wd_312) rfl rfl rfl dv_Reading_refresh ⟨Nat.le_of_ble_eq_true rfl, Nat.le_of_ble_eq_true rfl⟩) (R_pv_0 (A := A) hK (mid_P (w1 := ([(a, .inr (0, [.ref (A 0), .ref (B 0)]))] : va_W)) (w2 := (wR K B τ)) hP) (mid_D (w1 := ([(a, .inr (0, [.ref (A 0), .ref (B 0)]))] : va_W)) (w2 := (wR K B τ)) hD (fun _ _ h => wR_in h))) rfl rfl hl.1 rfl (lv_room (Nat.le_of_ble_eq_true rfl)) d_LS_diagnostics_4 ⟨Nat.le_of_ble_eq_true rfl, Nat.le_of_ble_eq_true rfl⟩) hP hD hS (fun H locs hP hD hS => ?_)
  have hP : va_P K.1 vwCl (wL K a A B σ_4 τ) H := hP
  have hD : va_D (LF a A B) (wL K a A B σ_4 τ) := hD
  refine lv_aload_n hx hb d_LS_diagnostics_7 rfl (lv_at hl 0 rfl) ?_
  refine gflS_10 hx hb hg hown hK hP d_LS_diagnostics_8 ?_
  refine gflA_81 hx hb hg hown hK hP d_LS_diagnostics_11 ?_
  obtain ⟨v_14, e_14, h⟩ := bd1_some h
  refine G_calli (A := A) (σ := σ_4) (w1 := ([(a, .inr (0, [.ref (A 0), .ref (B 0)]))] : va_W)) (w2 := (wR K B τ)) (va_runV (As := []) (rest := []) ⟨hx, hb, hml, hown, hts⟩ (c_Complaints_total l K A e_14) (cwV 0 hts (gd_V wd_583 wd_584 wd_585 wd_6 wd_586) rfl rfl rfl dv_Complaints_total ⟨Nat.le_of_ble_eq_true rfl, Nat.le_of_ble_eq_true rfl⟩) (R_pv_16 (A := A) hK (mid_P (w1 := ([(a, .inr (0, [.ref (A 0), .ref (B 0)]))] : va_W)) (w2 := (wR K B τ)) hP) (mid_D (w1 := ([(a, .inr (0, [.ref (A 0), .ref (B 0)]))] : va_W)) (w2 := (wR K B τ)) hD (fun _ _ h => wR_in h))) rfl rfl hl.1 rfl (lv_room (Nat.le_of_ble_eq_true rfl)) d_LS_diagnostics_14 ⟨Nat.le_of_ble_eq_true rfl, Nat.le_of_ble_eq_true rfl⟩) hP hD hS (fun H locs hP hD hS => ?_)
  have hP : va_P K.1 vwCl (wL K a A B σ_4 τ) H := hP
  have hD : va_D (LF a A B) (wL K a A B σ_4 τ) := hD
  exact hRet _ _ _ h _ _ hP hD hS _ _ d_LS_diagnostics_17
def p_LanguageServer_diagnostic (σ τ : Sto) (x1 : Int32) (x2 : Int32) : Option Lr :=
  bd1 (p_Reading_refresh σ) fun σ_4 =>
    (if x1 < 0 then
      some (3, 0, σ_4, τ)
    else
      bd1 (p_Complaints_total σ_4) fun v_19 =>
      (if x1 < v_19 then
        (if x2 = 0 then
          bd1 (p_Complaints_kindAt σ_4 x1) fun v_47 =>
          some (0, v_47, σ_4, τ)
        else
          (if x2 = 1 then
            bd1 (p_Complaints_placeAt σ_4 x1) fun v_71 =>
            some (0, v_71, σ_4, τ)
          else
            some (1, 0, σ_4, τ)))
      else
        some (3, 0, σ_4, τ)))
abbrev w_LS_diagnostic : List Cond := Cond.code y_LS_diagnostic b_LS_diagnostic 3 (some .int) :: Tg
abbrev r_LS_diagnostic : Room := { frames := 7, cells := 0, slots := 0, locals := 162 }
abbrev rt_LS_diagnostic : Room := { frames := 7, cells := 1, slots := 6, locals := 162 }
theorem dv_LS_diagnostic : y_LS_diagnostic.cls = "LanguageServer" ∧ y_LS_diagnostic.cls ≠ "java/lang/invoke/MethodHandle" ∧ y_LS_diagnostic.cls ≠ "java/lang/invoke/VarHandle" ∧ (parseMethodDescriptor y_LS_diagnostic.desc).map (fun d => d.parameters.length) = some 2 := by decide +kernel
set_option maxHeartbeats 4000000 in
set_option maxRecDepth 100000 in
theorem c_LS_diagnostic (l : Launch) (K : Kst) (a : Nat) (A B : Nat → Nat) {σ τ : Sto} {x1 : Int32} {x2 : Int32} {rr : Int32} {ss tt : Sto} (h : p_LanguageServer_diagnostic σ τ x1 x2 = some (0, rr, ss, tt)) : Met l y_LS_diagnostic w_LS_diagnostic r_LS_diagnostic (va_Pc [.ref a, .int x1, .int x2] (LB K a A B σ τ)) (va_Qi (S := Unit) (fun v _ => v = rr) (fun _ t => LB K a A B ss tt t) (LF a A B)) 0 0 (LF a A B) := by
  refine Met.ofW (cc := b_LS_diagnostic) (maxL := 3) (ret := (some .int)) (by decide) rfl ?_
  intro p e s m args below meth c s₁ Bd hml hv
  obtain ⟨rfl, hP, hLK, hD⟩ := hv
  have hK := hLK.1
  have hx := Bd.exec
  have hb := Bd.bytes
  have hr := Bd.returns
  have hts := atoms_spec (ws := w_LS_diagnostic) Bd.pre
  have hg : ∀ w ∈ Tg, w.before _ s = true := fun w q => hts w (List.mem_cons_of_mem _ q)
  have hown : s.vm.findClass "LanguageServer" = some m.cls := findClass_of_methodNamed Bd.named
  have hlocks := Bd.notSynchronized
  have hS : va_S (LF a A B) s.heap s.heap [] := va_S.rf
  have hl := lv_entry ([.ref a, .int x1, .int x2]) (n := 3) (Nat.le_of_ble_eq_true rfl)
  rw [lg_entry_eq]
  generalize (lg_sl ([.ref a, .int x1, .int x2]) ++ List.replicate (3 - (lg_sl ([.ref a, .int x1, .int x2])).length) Slot.unset).toArray = ls at hl ⊢
  have hl : lv_has ls 3 [(0, .ref a), (1, .int x1), (2, .int x2)] := hl
  generalize hargs : ([.ref a, .int x1, .int x2] : List Value).toArray = args at hg hts ⊢
  have hRet : ∀ (v : Int32) (σ τ : Sto), some ((0, v, σ, τ) : Lr) = some (0, rr, ss, tt) → ∀ (H : Heap) (locs : List Loc), va_P K.1 vwCl (wL K a A B σ τ) H → va_D (LF a A B) (wL K a A B σ τ) → va_S (LF a A B) s.heap H locs → ∀ (pc : Nat) (ls : Array Slot), decode b_LS_diagnostic pc = .ok (.ireturn, 1) → W p l e (headSpec w_LS_diagnostic r_LS_diagnostic).room s m args below meth c H locs 0 0 (MQ below (va_Qi (S := Unit) (fun v _ => v = rr) (fun _ t => LB K a A B ss tt t) (LF a A B)) args s 0 0 (LF a A B)) (F0 m pc ls [.int v]) := by
    intro v σ τ h H locs hP hD hS pc ls hd
    cases h
    exact W.iret hx hb hr (fun t ht hW => ⟨⟨_, (), rfl, rfl, LB_of hLK hS hP hD hW (fun q _ => by rw [ht])⟩, hS.F ht⟩) hS.2.2 hd
  unfold p_LanguageServer_diagnostic at h
  refine lv_aload_n hx hb d_LS_diagnostic_0 rfl (lv_at hl 0 rfl) ?_
  refine gflS_10 hx hb hg hown hK hP d_LS_diagnostic_1 ?_
  obtain ⟨σ_4, e_4, h⟩ := bd1_some h
  refine G_callv (A := A) (σ := σ) (w1 := ([(a, .inr (0, [.ref (A 0), .ref (B 0)]))] : va_W)) (w2 := (wR K B τ)) (va_runV (As := []) (rest := []) ⟨hx, hb, hml, hown, hts⟩ (c_Reading_refresh l K A e_4) (cwV 0 hts (gd_V wd_309 wd_310 wd_311 wd_2 wd_312) rfl rfl rfl dv_Reading_refresh ⟨Nat.le_of_ble_eq_true rfl, Nat.le_of_ble_eq_true rfl⟩) (R_pv_0 (A := A) hK (mid_P (w1 := ([(a, .inr (0, [.ref (A 0), .ref (B 0)]))] : va_W)) (w2 := (wR K B τ)) hP) (mid_D (w1 := ([(a, .inr (0, [.ref (A 0), .ref (B 0)]))] : va_W)) (w2 := (wR K B τ)) hD (fun _ _ h => wR_in h))) rfl rfl hl.1 rfl (lv_room (Nat.le_of_ble_eq_true rfl)) d_LS_diagnostic_4 ⟨Nat.le_of_ble_eq_true rfl, Nat.le_of_ble_eq_true rfl⟩) hP hD hS (fun H locs hP hD hS => ?_)
  have hP : va_P K.1 vwCl (wL K a A B σ_4 τ) H := hP
  have hD : va_D (LF a A B) (wL K a A B σ_4 τ) := hD
  refine lv_iload_n hx hb d_LS_diagnostic_7 rfl (lv_at hl 1 rfl) ?_
  refine lv_if_lt (tgt := 25) hx hb d_LS_diagnostic_8 (by decide) (fun c_8 => ?_) (fun c_8 => ?_)
  · replace h := itp c_8 h
    exact (kne (by decide) h).elim
  · replace h := itf c_8 h
    refine lv_iload_n hx hb d_LS_diagnostic_11 rfl (lv_at hl 1 rfl) ?_
    refine lv_aload_n hx hb d_LS_diagnostic_12 rfl (lv_at hl 0 rfl) ?_
    refine gflS_10 hx hb hg hown hK hP d_LS_diagnostic_13 ?_
    refine gflA_81 hx hb hg hown hK hP d_LS_diagnostic_16 ?_
    obtain ⟨v_19, e_19, h⟩ := bd1_some h
    refine G_calli (A := A) (σ := σ_4) (w1 := ([(a, .inr (0, [.ref (A 0), .ref (B 0)]))] : va_W)) (w2 := (wR K B τ)) (va_runV (As := []) (rest := [.int x1]) ⟨hx, hb, hml, hown, hts⟩ (c_Complaints_total l K A e_19) (cwV 0 hts (gd_V wd_583 wd_584 wd_585 wd_6 wd_586) rfl rfl rfl dv_Complaints_total ⟨Nat.le_of_ble_eq_true rfl, Nat.le_of_ble_eq_true rfl⟩) (R_pv_16 (A := A) hK (mid_P (w1 := ([(a, .inr (0, [.ref (A 0), .ref (B 0)]))] : va_W)) (w2 := (wR K B τ)) hP) (mid_D (w1 := ([(a, .inr (0, [.ref (A 0), .ref (B 0)]))] : va_W)) (w2 := (wR K B τ)) hD (fun _ _ h => wR_in h))) rfl rfl hl.1 rfl (lv_room (Nat.le_of_ble_eq_true rfl)) d_LS_diagnostic_19 ⟨Nat.le_of_ble_eq_true rfl, Nat.le_of_ble_eq_true rfl⟩) hP hD hS (fun H locs hP hD hS => ?_)
    have hP : va_P K.1 vwCl (wL K a A B σ_4 τ) H := hP
    have hD : va_D (LF a A B) (wL K a A B σ_4 τ) := hD
    refine lv_icmp_lt (tgt := 35) hx hb d_LS_diagnostic_22 (by decide) (fun c_22 => ?_) (fun c_22 => ?_)
    · replace h := itp c_22 h
      refine lv_iload_n hx hb d_LS_diagnostic_35 rfl (lv_at hl 2 rfl) ?_
      refine lv_if_ne (tgt := 51) hx hb d_LS_diagnostic_36 (by decide) (fun c_36 => ?_) (fun c_36 => ?_)
      · replace h := itf c_36 h
        refine lv_iload_n hx hb d_LS_diagnostic_51 rfl (lv_at hl 2 rfl) ?_
        refine lv_iconst (v := 1) hx hb d_LS_diagnostic_52 (by decide) ?_
        refine lv_icmp_ne (tgt := 75) hx hb d_LS_diagnostic_53 (by decide) (fun c_53 => ?_) (fun c_53 => ?_)
        · replace h := itf c_53 h
          exact (kne (by decide) h).elim
        · replace h := itp c_53 h
          refine lv_aload_n hx hb d_LS_diagnostic_56 rfl (lv_at hl 0 rfl) ?_
          refine gflS_10 hx hb hg hown hK hP d_LS_diagnostic_57 ?_
          refine gflA_81 hx hb hg hown hK hP d_LS_diagnostic_60 ?_
          refine lv_iload_n hx hb d_LS_diagnostic_63 rfl (lv_at hl 1 rfl) ?_
          refine lv_aload_n hx hb d_LS_diagnostic_64 rfl (lv_at hl 0 rfl) ?_
          refine gflS_10 hx hb hg hown hK hP d_LS_diagnostic_65 ?_
          refine gflA_97 hx hb hg hown hK hP d_LS_diagnostic_68 ?_
          obtain ⟨v_71, e_71, h⟩ := bd1_some h
          refine G_calli (A := A) (σ := σ_4) (w1 := ([(a, .inr (0, [.ref (A 0), .ref (B 0)]))] : va_W)) (w2 := (wR K B τ)) (va_runV (As := [.int x1, .ref (A 3)]) (rest := []) ⟨hx, hb, hml, hown, hts⟩ (c_Complaints_placeAt l K A e_71) (cwV 2 hts (gd_V wd_777 wd_778 wd_779 wd_6 wd_780) rfl rfl rfl dv_Complaints_placeAt ⟨Nat.le_of_ble_eq_true rfl, Nat.le_of_ble_eq_true rfl⟩) (R_pv_16 (A := A) hK (mid_P (w1 := ([(a, .inr (0, [.ref (A 0), .ref (B 0)]))] : va_W)) (w2 := (wR K B τ)) hP) (mid_D (w1 := ([(a, .inr (0, [.ref (A 0), .ref (B 0)]))] : va_W)) (w2 := (wR K B τ)) hD (fun _ _ h => wR_in h))) rfl rfl hl.1 rfl (lv_room (Nat.le_of_ble_eq_true rfl)) d_LS_diagnostic_71 ⟨Nat.le_of_ble_eq_true rfl, Nat.le_of_ble_eq_true rfl⟩) hP hD hS (fun H locs hP hD hS => ?_)
          have hP : va_P K.1 vwCl (wL K a A B σ_4 τ) H := hP
          have hD : va_D (LF a A B) (wL K a A B σ_4 τ) := hD
          exact hRet _ _ _ h _ _ hP hD hS _ _ d_LS_diagnostic_74
      · replace h := itp c_36 h
        refine lv_aload_n hx hb d_LS_diagnostic_39 rfl (lv_at hl 0 rfl) ?_
        refine gflS_10 hx hb hg hown hK hP d_LS_diagnostic_40 ?_
        refine gflA_81 hx hb hg hown hK hP d_LS_diagnostic_43 ?_
        refine lv_iload_n hx hb d_LS_diagnostic_46 rfl (lv_at hl 1 rfl) ?_
        obtain ⟨v_47, e_47, h⟩ := bd1_some h
        refine G_calli (A := A) (σ := σ_4) (w1 := ([(a, .inr (0, [.ref (A 0), .ref (B 0)]))] : va_W)) (w2 := (wR K B τ)) (va_runV (As := [.int x1]) (rest := []) ⟨hx, hb, hml, hown, hts⟩ (c_Complaints_kindAt l K A e_47) (cwV 1 hts (gd_V wd_769 wd_770 wd_771 wd_6 wd_772) rfl rfl rfl dv_Complaints_kindAt ⟨Nat.le_of_ble_eq_true rfl, Nat.le_of_ble_eq_true rfl⟩) (R_pv_16 (A := A) hK (mid_P (w1 := ([(a, .inr (0, [.ref (A 0), .ref (B 0)]))] : va_W)) (w2 := (wR K B τ)) hP) (mid_D (w1 := ([(a, .inr (0, [.ref (A 0), .ref (B 0)]))] : va_W)) (w2 := (wR K B τ)) hD (fun _ _ h => wR_in h))) rfl rfl hl.1 rfl (lv_room (Nat.le_of_ble_eq_true rfl)) d_LS_diagnostic_47 ⟨Nat.le_of_ble_eq_true rfl, Nat.le_of_ble_eq_true rfl⟩) hP hD hS (fun H locs hP hD hS => ?_)
        have hP : va_P K.1 vwCl (wL K a A B σ_4 τ) H := hP
        have hD : va_D (LF a A B) (wL K a A B σ_4 τ) := hD
        exact hRet _ _ _ h _ _ hP hD hS _ _ d_LS_diagnostic_50
    · replace h := itf c_22 h
      exact (kne (by decide) h).elim
set_option maxHeartbeats 4000000 in
set_option maxRecDepth 100000 in
theorem ct_LS_diagnostic_1 (l : Launch) (hlt : l.stackTraces = false) (K : Kst) (a : Nat) (A B : Nat → Nat) {σ τ : Sto} {x1 : Int32} {x2 : Int32} {rr : Int32} {ss tt : Sto} (h : p_LanguageServer_diagnostic σ τ x1 x2 = some (1, rr, ss, tt)) : MetT l y_LS_diagnostic w_LS_diagnostic rt_LS_diagnostic (va_Pc [.ref a, .int x1, .int x2] (LB K a A B σ τ)) "java/lang/IllegalArgumentException" (LB K a A B ss tt) (LF a A B) 1 6 (LF a A B) := by
  refine MetT.ofW (cc := b_LS_diagnostic) (maxL := 3) (ret := (some .int)) (by decide) rfl ?_
  intro p e s m args below meth c s₁ Bd hml hemp hv
  obtain ⟨rfl, hP, hLK, hD⟩ := hv
  have hK := hLK.1
  have hx := Bd.exec
  have hb := Bd.bytes
  have hr := Bd.returns
  have hts := atoms_spec (ws := w_LS_diagnostic) Bd.pre
  have hg : ∀ w ∈ Tg, w.before _ s = true := fun w q => hts w (List.mem_cons_of_mem _ q)
  have hown : s.vm.findClass "LanguageServer" = some m.cls := findClass_of_methodNamed Bd.named
  have hlocks := Bd.notSynchronized
  have hFs := noSt hP (F := LF a A B) (fun q h => L_in h)
  have hS : va_S (LF a A B) s.heap s.heap [] := va_S.rf
  have hl := lv_entry ([.ref a, .int x1, .int x2]) (n := 3) (Nat.le_of_ble_eq_true rfl)
  rw [lg_entry_eq]
  generalize (lg_sl ([.ref a, .int x1, .int x2]) ++ List.replicate (3 - (lg_sl ([.ref a, .int x1, .int x2])).length) Slot.unset).toArray = ls at hl ⊢
  have hl : lv_has ls 3 [(0, .ref a), (1, .int x1), (2, .int x2)] := hl
  generalize hargs : ([.ref a, .int x1, .int x2] : List Value).toArray = args at hg hts ⊢
  unfold p_LanguageServer_diagnostic at h
  refine lv_aload_n hx hb d_LS_diagnostic_0 rfl (lv_at hl 0 rfl) ?_
  refine gflS_10 hx hb hg hown hK hP d_LS_diagnostic_1 ?_
  obtain ⟨σ_4, e_4, h⟩ := bd1_some h
  refine G_callv (A := A) (σ := σ) (w1 := ([(a, .inr (0, [.ref (A 0), .ref (B 0)]))] : va_W)) (w2 := (wR K B τ)) (va_runV (As := []) (rest := []) ⟨hx, hb, hml, hown, hts⟩ (c_Reading_refresh l K A e_4) (cwV 0 hts (gd_V wd_309 wd_310 wd_311 wd_2 wd_312) rfl rfl rfl dv_Reading_refresh ⟨Nat.le_of_ble_eq_true rfl, Nat.le_of_ble_eq_true rfl⟩) (R_pv_0 (A := A) hK (mid_P (w1 := ([(a, .inr (0, [.ref (A 0), .ref (B 0)]))] : va_W)) (w2 := (wR K B τ)) hP) (mid_D (w1 := ([(a, .inr (0, [.ref (A 0), .ref (B 0)]))] : va_W)) (w2 := (wR K B τ)) hD (fun _ _ h => wR_in h))) rfl rfl hl.1 rfl (lv_room (Nat.le_of_ble_eq_true rfl)) d_LS_diagnostic_4 ⟨Nat.le_of_ble_eq_true rfl, Nat.le_of_ble_eq_true rfl⟩) hP hD hS (fun H locs hP hD hS => ?_)
  have hP : va_P K.1 vwCl (wL K a A B σ_4 τ) H := hP
  have hD : va_D (LF a A B) (wL K a A B σ_4 τ) := hD
  refine lv_iload_n hx hb d_LS_diagnostic_7 rfl (lv_at hl 1 rfl) ?_
  refine lv_if_lt (tgt := 25) hx hb d_LS_diagnostic_8 (by decide) (fun c_8 => ?_) (fun c_8 => ?_)
  · replace h := itp c_8 h
    exact (kne (by decide) h).elim
  · replace h := itf c_8 h
    refine lv_iload_n hx hb d_LS_diagnostic_11 rfl (lv_at hl 1 rfl) ?_
    refine lv_aload_n hx hb d_LS_diagnostic_12 rfl (lv_at hl 0 rfl) ?_
    refine gflS_10 hx hb hg hown hK hP d_LS_diagnostic_13 ?_
    refine gflA_81 hx hb hg hown hK hP d_LS_diagnostic_16 ?_
    obtain ⟨v_19, e_19, h⟩ := bd1_some h
    refine G_calli (A := A) (σ := σ_4) (w1 := ([(a, .inr (0, [.ref (A 0), .ref (B 0)]))] : va_W)) (w2 := (wR K B τ)) (va_runV (As := []) (rest := [.int x1]) ⟨hx, hb, hml, hown, hts⟩ (c_Complaints_total l K A e_19) (cwV 0 hts (gd_V wd_583 wd_584 wd_585 wd_6 wd_586) rfl rfl rfl dv_Complaints_total ⟨Nat.le_of_ble_eq_true rfl, Nat.le_of_ble_eq_true rfl⟩) (R_pv_16 (A := A) hK (mid_P (w1 := ([(a, .inr (0, [.ref (A 0), .ref (B 0)]))] : va_W)) (w2 := (wR K B τ)) hP) (mid_D (w1 := ([(a, .inr (0, [.ref (A 0), .ref (B 0)]))] : va_W)) (w2 := (wR K B τ)) hD (fun _ _ h => wR_in h))) rfl rfl hl.1 rfl (lv_room (Nat.le_of_ble_eq_true rfl)) d_LS_diagnostic_19 ⟨Nat.le_of_ble_eq_true rfl, Nat.le_of_ble_eq_true rfl⟩) hP hD hS (fun H locs hP hD hS => ?_)
    have hP : va_P K.1 vwCl (wL K a A B σ_4 τ) H := hP
    have hD : va_D (LF a A B) (wL K a A B σ_4 τ) := hD
    refine lv_icmp_lt (tgt := 35) hx hb d_LS_diagnostic_22 (by decide) (fun c_22 => ?_) (fun c_22 => ?_)
    · replace h := itp c_22 h
      refine lv_iload_n hx hb d_LS_diagnostic_35 rfl (lv_at hl 2 rfl) ?_
      refine lv_if_ne (tgt := 51) hx hb d_LS_diagnostic_36 (by decide) (fun c_36 => ?_) (fun c_36 => ?_)
      · replace h := itf c_36 h
        refine lv_iload_n hx hb d_LS_diagnostic_51 rfl (lv_at hl 2 rfl) ?_
        refine lv_iconst (v := 1) hx hb d_LS_diagnostic_52 (by decide) ?_
        refine lv_icmp_ne (tgt := 75) hx hb d_LS_diagnostic_53 (by decide) (fun c_53 => ?_) (fun c_53 => ?_)
        · replace h := itf c_53 h
          cases h
          exact T_throw (own := "LanguageServer") (X := "java/lang/IllegalArgumentException") (text := "a diagnostic has a kind (0) and a place (1)") hx hb hlt hown (by decide +kernel) (xat_IAE hg hLK.2.1 hLK.2.2) dx_IAE_0 dx_IAE_1 dx_IAE_2 dx_IAE_5 (hg _ wd_606) (hg _ wd_14) (hLK.2.1.2.2 (105, "a diagnostic has a kind (0) and a place (1)") (by decide)) (hl.1.trans hml.symm) hemp hlocks hS hFs (fun t hW hz hk => LB_of hLK hS hP hD hW hk) hS.2.2 (Nat.le_of_ble_eq_true rfl) (Nat.le_of_ble_eq_true rfl) (Nat.le_of_ble_eq_true rfl) (Nat.le_of_ble_eq_true rfl) (Nat.le_of_ble_eq_true rfl) (Nat.le_of_ble_eq_true rfl) d_LS_diagnostic_75 d_LS_diagnostic_78 d_LS_diagnostic_79 d_LS_diagnostic_81 d_LS_diagnostic_84
        · replace h := itp c_53 h
          refine lv_aload_n hx hb d_LS_diagnostic_56 rfl (lv_at hl 0 rfl) ?_
          refine gflS_10 hx hb hg hown hK hP d_LS_diagnostic_57 ?_
          refine gflA_81 hx hb hg hown hK hP d_LS_diagnostic_60 ?_
          refine lv_iload_n hx hb d_LS_diagnostic_63 rfl (lv_at hl 1 rfl) ?_
          refine lv_aload_n hx hb d_LS_diagnostic_64 rfl (lv_at hl 0 rfl) ?_
          refine gflS_10 hx hb hg hown hK hP d_LS_diagnostic_65 ?_
          refine gflA_97 hx hb hg hown hK hP d_LS_diagnostic_68 ?_
          obtain ⟨v_71, e_71, h⟩ := bd1_some h
          refine G_calli (A := A) (σ := σ_4) (w1 := ([(a, .inr (0, [.ref (A 0), .ref (B 0)]))] : va_W)) (w2 := (wR K B τ)) (va_runV (As := [.int x1, .ref (A 3)]) (rest := []) ⟨hx, hb, hml, hown, hts⟩ (c_Complaints_placeAt l K A e_71) (cwV 2 hts (gd_V wd_777 wd_778 wd_779 wd_6 wd_780) rfl rfl rfl dv_Complaints_placeAt ⟨Nat.le_of_ble_eq_true rfl, Nat.le_of_ble_eq_true rfl⟩) (R_pv_16 (A := A) hK (mid_P (w1 := ([(a, .inr (0, [.ref (A 0), .ref (B 0)]))] : va_W)) (w2 := (wR K B τ)) hP) (mid_D (w1 := ([(a, .inr (0, [.ref (A 0), .ref (B 0)]))] : va_W)) (w2 := (wR K B τ)) hD (fun _ _ h => wR_in h))) rfl rfl hl.1 rfl (lv_room (Nat.le_of_ble_eq_true rfl)) d_LS_diagnostic_71 ⟨Nat.le_of_ble_eq_true rfl, Nat.le_of_ble_eq_true rfl⟩) hP hD hS (fun H locs hP hD hS => ?_)
          have hP : va_P K.1 vwCl (wL K a A B σ_4 τ) H := hP
          have hD : va_D (LF a A B) (wL K a A B σ_4 τ) := hD
          exact (kne (by decide) h).elim
      · replace h := itp c_36 h
        refine lv_aload_n hx hb d_LS_diagnostic_39 rfl (lv_at hl 0 rfl) ?_
        refine gflS_10 hx hb hg hown hK hP d_LS_diagnostic_40 ?_
        refine gflA_81 hx hb hg hown hK hP d_LS_diagnostic_43 ?_
        refine lv_iload_n hx hb d_LS_diagnostic_46 rfl (lv_at hl 1 rfl) ?_
        obtain ⟨v_47, e_47, h⟩ := bd1_some h
        refine G_calli (A := A) (σ := σ_4) (w1 := ([(a, .inr (0, [.ref (A 0), .ref (B 0)]))] : va_W)) (w2 := (wR K B τ)) (va_runV (As := [.int x1]) (rest := []) ⟨hx, hb, hml, hown, hts⟩ (c_Complaints_kindAt l K A e_47) (cwV 1 hts (gd_V wd_769 wd_770 wd_771 wd_6 wd_772) rfl rfl rfl dv_Complaints_kindAt ⟨Nat.le_of_ble_eq_true rfl, Nat.le_of_ble_eq_true rfl⟩) (R_pv_16 (A := A) hK (mid_P (w1 := ([(a, .inr (0, [.ref (A 0), .ref (B 0)]))] : va_W)) (w2 := (wR K B τ)) hP) (mid_D (w1 := ([(a, .inr (0, [.ref (A 0), .ref (B 0)]))] : va_W)) (w2 := (wR K B τ)) hD (fun _ _ h => wR_in h))) rfl rfl hl.1 rfl (lv_room (Nat.le_of_ble_eq_true rfl)) d_LS_diagnostic_47 ⟨Nat.le_of_ble_eq_true rfl, Nat.le_of_ble_eq_true rfl⟩) hP hD hS (fun H locs hP hD hS => ?_)
        have hP : va_P K.1 vwCl (wL K a A B σ_4 τ) H := hP
        have hD : va_D (LF a A B) (wL K a A B σ_4 τ) := hD
        exact (kne (by decide) h).elim
    · replace h := itf c_22 h
      exact (kne (by decide) h).elim
set_option maxHeartbeats 4000000 in
set_option maxRecDepth 100000 in
theorem ct_LS_diagnostic_3 (l : Launch) (hlt : l.stackTraces = false) (K : Kst) (a : Nat) (A B : Nat → Nat) {σ τ : Sto} {x1 : Int32} {x2 : Int32} {rr : Int32} {ss tt : Sto} (h : p_LanguageServer_diagnostic σ τ x1 x2 = some (3, rr, ss, tt)) : MetT l y_LS_diagnostic w_LS_diagnostic rt_LS_diagnostic (va_Pc [.ref a, .int x1, .int x2] (LB K a A B σ τ)) "java/util/NoSuchElementException" (LB K a A B ss tt) (LF a A B) 1 6 (LF a A B) := by
  refine MetT.ofW (cc := b_LS_diagnostic) (maxL := 3) (ret := (some .int)) (by decide) rfl ?_
  intro p e s m args below meth c s₁ Bd hml hemp hv
  obtain ⟨rfl, hP, hLK, hD⟩ := hv
  have hK := hLK.1
  have hx := Bd.exec
  have hb := Bd.bytes
  have hr := Bd.returns
  have hts := atoms_spec (ws := w_LS_diagnostic) Bd.pre
  have hg : ∀ w ∈ Tg, w.before _ s = true := fun w q => hts w (List.mem_cons_of_mem _ q)
  have hown : s.vm.findClass "LanguageServer" = some m.cls := findClass_of_methodNamed Bd.named
  have hlocks := Bd.notSynchronized
  have hFs := noSt hP (F := LF a A B) (fun q h => L_in h)
  have hS : va_S (LF a A B) s.heap s.heap [] := va_S.rf
  have hl := lv_entry ([.ref a, .int x1, .int x2]) (n := 3) (Nat.le_of_ble_eq_true rfl)
  rw [lg_entry_eq]
  generalize (lg_sl ([.ref a, .int x1, .int x2]) ++ List.replicate (3 - (lg_sl ([.ref a, .int x1, .int x2])).length) Slot.unset).toArray = ls at hl ⊢
  have hl : lv_has ls 3 [(0, .ref a), (1, .int x1), (2, .int x2)] := hl
  generalize hargs : ([.ref a, .int x1, .int x2] : List Value).toArray = args at hg hts ⊢
  unfold p_LanguageServer_diagnostic at h
  refine lv_aload_n hx hb d_LS_diagnostic_0 rfl (lv_at hl 0 rfl) ?_
  refine gflS_10 hx hb hg hown hK hP d_LS_diagnostic_1 ?_
  obtain ⟨σ_4, e_4, h⟩ := bd1_some h
  refine G_callv (A := A) (σ := σ) (w1 := ([(a, .inr (0, [.ref (A 0), .ref (B 0)]))] : va_W)) (w2 := (wR K B τ)) (va_runV (As := []) (rest := []) ⟨hx, hb, hml, hown, hts⟩ (c_Reading_refresh l K A e_4) (cwV 0 hts (gd_V wd_309 wd_310 wd_311 wd_2 wd_312) rfl rfl rfl dv_Reading_refresh ⟨Nat.le_of_ble_eq_true rfl, Nat.le_of_ble_eq_true rfl⟩) (R_pv_0 (A := A) hK (mid_P (w1 := ([(a, .inr (0, [.ref (A 0), .ref (B 0)]))] : va_W)) (w2 := (wR K B τ)) hP) (mid_D (w1 := ([(a, .inr (0, [.ref (A 0), .ref (B 0)]))] : va_W)) (w2 := (wR K B τ)) hD (fun _ _ h => wR_in h))) rfl rfl hl.1 rfl (lv_room (Nat.le_of_ble_eq_true rfl)) d_LS_diagnostic_4 ⟨Nat.le_of_ble_eq_true rfl, Nat.le_of_ble_eq_true rfl⟩) hP hD hS (fun H locs hP hD hS => ?_)
  have hP : va_P K.1 vwCl (wL K a A B σ_4 τ) H := hP
  have hD : va_D (LF a A B) (wL K a A B σ_4 τ) := hD
  refine lv_iload_n hx hb d_LS_diagnostic_7 rfl (lv_at hl 1 rfl) ?_
  refine lv_if_lt (tgt := 25) hx hb d_LS_diagnostic_8 (by decide) (fun c_8 => ?_) (fun c_8 => ?_)
  · replace h := itp c_8 h
    cases h
    exact T_throw (own := "LanguageServer") (X := "java/util/NoSuchElementException") (text := "no diagnostic at this index") hx hb hlt hown (by decide +kernel) (xat_NSE hg hLK.2.1 hLK.2.2) dx_NSE_0 dx_NSE_1 dx_NSE_2 dx_NSE_5 (hg _ wd_745) (hg _ wd_17) (hLK.2.1.2.2 (91, "no diagnostic at this index") (by decide)) (hl.1.trans hml.symm) hemp hlocks hS hFs (fun t hW hz hk => LB_of hLK hS hP hD hW hk) hS.2.2 (Nat.le_of_ble_eq_true rfl) (Nat.le_of_ble_eq_true rfl) (Nat.le_of_ble_eq_true rfl) (Nat.le_of_ble_eq_true rfl) (Nat.le_of_ble_eq_true rfl) (Nat.le_of_ble_eq_true rfl) d_LS_diagnostic_25 d_LS_diagnostic_28 d_LS_diagnostic_29 d_LS_diagnostic_31 d_LS_diagnostic_34
  · replace h := itf c_8 h
    refine lv_iload_n hx hb d_LS_diagnostic_11 rfl (lv_at hl 1 rfl) ?_
    refine lv_aload_n hx hb d_LS_diagnostic_12 rfl (lv_at hl 0 rfl) ?_
    refine gflS_10 hx hb hg hown hK hP d_LS_diagnostic_13 ?_
    refine gflA_81 hx hb hg hown hK hP d_LS_diagnostic_16 ?_
    obtain ⟨v_19, e_19, h⟩ := bd1_some h
    refine G_calli (A := A) (σ := σ_4) (w1 := ([(a, .inr (0, [.ref (A 0), .ref (B 0)]))] : va_W)) (w2 := (wR K B τ)) (va_runV (As := []) (rest := [.int x1]) ⟨hx, hb, hml, hown, hts⟩ (c_Complaints_total l K A e_19) (cwV 0 hts (gd_V wd_583 wd_584 wd_585 wd_6 wd_586) rfl rfl rfl dv_Complaints_total ⟨Nat.le_of_ble_eq_true rfl, Nat.le_of_ble_eq_true rfl⟩) (R_pv_16 (A := A) hK (mid_P (w1 := ([(a, .inr (0, [.ref (A 0), .ref (B 0)]))] : va_W)) (w2 := (wR K B τ)) hP) (mid_D (w1 := ([(a, .inr (0, [.ref (A 0), .ref (B 0)]))] : va_W)) (w2 := (wR K B τ)) hD (fun _ _ h => wR_in h))) rfl rfl hl.1 rfl (lv_room (Nat.le_of_ble_eq_true rfl)) d_LS_diagnostic_19 ⟨Nat.le_of_ble_eq_true rfl, Nat.le_of_ble_eq_true rfl⟩) hP hD hS (fun H locs hP hD hS => ?_)
    have hP : va_P K.1 vwCl (wL K a A B σ_4 τ) H := hP
    have hD : va_D (LF a A B) (wL K a A B σ_4 τ) := hD
    refine lv_icmp_lt (tgt := 35) hx hb d_LS_diagnostic_22 (by decide) (fun c_22 => ?_) (fun c_22 => ?_)
    · replace h := itp c_22 h
      refine lv_iload_n hx hb d_LS_diagnostic_35 rfl (lv_at hl 2 rfl) ?_
      refine lv_if_ne (tgt := 51) hx hb d_LS_diagnostic_36 (by decide) (fun c_36 => ?_) (fun c_36 => ?_)
      · replace h := itf c_36 h
        refine lv_iload_n hx hb d_LS_diagnostic_51 rfl (lv_at hl 2 rfl) ?_
        refine lv_iconst (v := 1) hx hb d_LS_diagnostic_52 (by decide) ?_
        refine lv_icmp_ne (tgt := 75) hx hb d_LS_diagnostic_53 (by decide) (fun c_53 => ?_) (fun c_53 => ?_)
        · replace h := itf c_53 h
          exact (kne (by decide) h).elim
        · replace h := itp c_53 h
          refine lv_aload_n hx hb d_LS_diagnostic_56 rfl (lv_at hl 0 rfl) ?_
          refine gflS_10 hx hb hg hown hK hP d_LS_diagnostic_57 ?_
          refine gflA_81 hx hb hg hown hK hP d_LS_diagnostic_60 ?_
          refine lv_iload_n hx hb d_LS_diagnostic_63 rfl (lv_at hl 1 rfl) ?_
          refine lv_aload_n hx hb d_LS_diagnostic_64 rfl (lv_at hl 0 rfl) ?_
          refine gflS_10 hx hb hg hown hK hP d_LS_diagnostic_65 ?_
          refine gflA_97 hx hb hg hown hK hP d_LS_diagnostic_68 ?_
          obtain ⟨v_71, e_71, h⟩ := bd1_some h
          refine G_calli (A := A) (σ := σ_4) (w1 := ([(a, .inr (0, [.ref (A 0), .ref (B 0)]))] : va_W)) (w2 := (wR K B τ)) (va_runV (As := [.int x1, .ref (A 3)]) (rest := []) ⟨hx, hb, hml, hown, hts⟩ (c_Complaints_placeAt l K A e_71) (cwV 2 hts (gd_V wd_777 wd_778 wd_779 wd_6 wd_780) rfl rfl rfl dv_Complaints_placeAt ⟨Nat.le_of_ble_eq_true rfl, Nat.le_of_ble_eq_true rfl⟩) (R_pv_16 (A := A) hK (mid_P (w1 := ([(a, .inr (0, [.ref (A 0), .ref (B 0)]))] : va_W)) (w2 := (wR K B τ)) hP) (mid_D (w1 := ([(a, .inr (0, [.ref (A 0), .ref (B 0)]))] : va_W)) (w2 := (wR K B τ)) hD (fun _ _ h => wR_in h))) rfl rfl hl.1 rfl (lv_room (Nat.le_of_ble_eq_true rfl)) d_LS_diagnostic_71 ⟨Nat.le_of_ble_eq_true rfl, Nat.le_of_ble_eq_true rfl⟩) hP hD hS (fun H locs hP hD hS => ?_)
          have hP : va_P K.1 vwCl (wL K a A B σ_4 τ) H := hP
          have hD : va_D (LF a A B) (wL K a A B σ_4 τ) := hD
          exact (kne (by decide) h).elim
      · replace h := itp c_36 h
        refine lv_aload_n hx hb d_LS_diagnostic_39 rfl (lv_at hl 0 rfl) ?_
        refine gflS_10 hx hb hg hown hK hP d_LS_diagnostic_40 ?_
        refine gflA_81 hx hb hg hown hK hP d_LS_diagnostic_43 ?_
        refine lv_iload_n hx hb d_LS_diagnostic_46 rfl (lv_at hl 1 rfl) ?_
        obtain ⟨v_47, e_47, h⟩ := bd1_some h
        refine G_calli (A := A) (σ := σ_4) (w1 := ([(a, .inr (0, [.ref (A 0), .ref (B 0)]))] : va_W)) (w2 := (wR K B τ)) (va_runV (As := [.int x1]) (rest := []) ⟨hx, hb, hml, hown, hts⟩ (c_Complaints_kindAt l K A e_47) (cwV 1 hts (gd_V wd_769 wd_770 wd_771 wd_6 wd_772) rfl rfl rfl dv_Complaints_kindAt ⟨Nat.le_of_ble_eq_true rfl, Nat.le_of_ble_eq_true rfl⟩) (R_pv_16 (A := A) hK (mid_P (w1 := ([(a, .inr (0, [.ref (A 0), .ref (B 0)]))] : va_W)) (w2 := (wR K B τ)) hP) (mid_D (w1 := ([(a, .inr (0, [.ref (A 0), .ref (B 0)]))] : va_W)) (w2 := (wR K B τ)) hD (fun _ _ h => wR_in h))) rfl rfl hl.1 rfl (lv_room (Nat.le_of_ble_eq_true rfl)) d_LS_diagnostic_47 ⟨Nat.le_of_ble_eq_true rfl, Nat.le_of_ble_eq_true rfl⟩) hP hD hS (fun H locs hP hD hS => ?_)
        have hP : va_P K.1 vwCl (wL K a A B σ_4 τ) H := hP
        have hD : va_D (LF a A B) (wL K a A B σ_4 τ) := hD
        exact (kne (by decide) h).elim
    · replace h := itf c_22 h
      cases h
      exact T_throw (own := "LanguageServer") (X := "java/util/NoSuchElementException") (text := "no diagnostic at this index") hx hb hlt hown (by decide +kernel) (xat_NSE hg hLK.2.1 hLK.2.2) dx_NSE_0 dx_NSE_1 dx_NSE_2 dx_NSE_5 (hg _ wd_745) (hg _ wd_17) (hLK.2.1.2.2 (91, "no diagnostic at this index") (by decide)) (hl.1.trans hml.symm) hemp hlocks hS hFs (fun t hW hz hk => LB_of hLK hS hP hD hW hk) hS.2.2 (Nat.le_of_ble_eq_true rfl) (Nat.le_of_ble_eq_true rfl) (Nat.le_of_ble_eq_true rfl) (Nat.le_of_ble_eq_true rfl) (Nat.le_of_ble_eq_true rfl) (Nat.le_of_ble_eq_true rfl) d_LS_diagnostic_25 d_LS_diagnostic_28 d_LS_diagnostic_29 d_LS_diagnostic_31 d_LS_diagnostic_34
def p_LanguageServer_definition (σ τ : Sto) (x1 : Int32) : Option Lr :=
  bd1 (p_Reading_refresh σ) fun σ_4 =>
    bdx (p_LanguageServer_declarationFor σ_4 τ x1) fun v_19 σ_19 τ_19 =>
    if inR v_19 121 then some (0, σ_19.2.1 4 v_19.toNatClampNeg, σ_19, τ_19) else none
abbrev w_LS_definition : List Cond := Cond.code y_LS_definition b_LS_definition 2 (some .int) :: Tg
abbrev r_LS_definition : Room := { frames := 7, cells := 0, slots := 0, locals := 162 }
abbrev rt_LS_definition : Room := { frames := 7, cells := 1, slots := 6, locals := 162 }
theorem dv_LS_definition : y_LS_definition.cls = "LanguageServer" ∧ y_LS_definition.cls ≠ "java/lang/invoke/MethodHandle" ∧ y_LS_definition.cls ≠ "java/lang/invoke/VarHandle" ∧ (parseMethodDescriptor y_LS_definition.desc).map (fun d => d.parameters.length) = some 1 := by decide +kernel
set_option maxHeartbeats 4000000 in
set_option maxRecDepth 100000 in
theorem c_LS_definition (l : Launch) (K : Kst) (a : Nat) (A B : Nat → Nat) {σ τ : Sto} {x1 : Int32} {rr : Int32} {ss tt : Sto} (h : p_LanguageServer_definition σ τ x1 = some (0, rr, ss, tt)) : Met l y_LS_definition w_LS_definition r_LS_definition (va_Pc [.ref a, .int x1] (LB K a A B σ τ)) (va_Qi (S := Unit) (fun v _ => v = rr) (fun _ t => LB K a A B ss tt t) (LF a A B)) 0 0 (LF a A B) := by
  refine Met.ofW (cc := b_LS_definition) (maxL := 2) (ret := (some .int)) (by decide) rfl ?_
  intro p e s m args below meth c s₁ Bd hml hv
  obtain ⟨rfl, hP, hLK, hD⟩ := hv
  have hK := hLK.1
  have hx := Bd.exec
  have hb := Bd.bytes
  have hr := Bd.returns
  have hts := atoms_spec (ws := w_LS_definition) Bd.pre
  have hg : ∀ w ∈ Tg, w.before _ s = true := fun w q => hts w (List.mem_cons_of_mem _ q)
  have hown : s.vm.findClass "LanguageServer" = some m.cls := findClass_of_methodNamed Bd.named
  have hlocks := Bd.notSynchronized
  have hS : va_S (LF a A B) s.heap s.heap [] := va_S.rf
  have hl := lv_entry ([.ref a, .int x1]) (n := 2) (Nat.le_of_ble_eq_true rfl)
  rw [lg_entry_eq]
  generalize (lg_sl ([.ref a, .int x1]) ++ List.replicate (2 - (lg_sl ([.ref a, .int x1])).length) Slot.unset).toArray = ls at hl ⊢
  have hl : lv_has ls 2 [(0, .ref a), (1, .int x1)] := hl
  generalize hargs : ([.ref a, .int x1] : List Value).toArray = args at hg hts ⊢
  have hRet : ∀ (v : Int32) (σ τ : Sto), some ((0, v, σ, τ) : Lr) = some (0, rr, ss, tt) → ∀ (H : Heap) (locs : List Loc), va_P K.1 vwCl (wL K a A B σ τ) H → va_D (LF a A B) (wL K a A B σ τ) → va_S (LF a A B) s.heap H locs → ∀ (pc : Nat) (ls : Array Slot), decode b_LS_definition pc = .ok (.ireturn, 1) → W p l e (headSpec w_LS_definition r_LS_definition).room s m args below meth c H locs 0 0 (MQ below (va_Qi (S := Unit) (fun v _ => v = rr) (fun _ t => LB K a A B ss tt t) (LF a A B)) args s 0 0 (LF a A B)) (F0 m pc ls [.int v]) := by
    intro v σ τ h H locs hP hD hS pc ls hd
    cases h
    exact W.iret hx hb hr (fun t ht hW => ⟨⟨_, (), rfl, rfl, LB_of hLK hS hP hD hW (fun q _ => by rw [ht])⟩, hS.F ht⟩) hS.2.2 hd
  unfold p_LanguageServer_definition at h
  refine lv_aload_n hx hb d_LS_definition_0 rfl (lv_at hl 0 rfl) ?_
  refine gflS_10 hx hb hg hown hK hP d_LS_definition_1 ?_
  obtain ⟨σ_4, e_4, h⟩ := bd1_some h
  refine G_callv (A := A) (σ := σ) (w1 := ([(a, .inr (0, [.ref (A 0), .ref (B 0)]))] : va_W)) (w2 := (wR K B τ)) (va_runV (As := []) (rest := []) ⟨hx, hb, hml, hown, hts⟩ (c_Reading_refresh l K A e_4) (cwV 0 hts (gd_V wd_309 wd_310 wd_311 wd_2 wd_312) rfl rfl rfl dv_Reading_refresh ⟨Nat.le_of_ble_eq_true rfl, Nat.le_of_ble_eq_true rfl⟩) (R_pv_0 (A := A) hK (mid_P (w1 := ([(a, .inr (0, [.ref (A 0), .ref (B 0)]))] : va_W)) (w2 := (wR K B τ)) hP) (mid_D (w1 := ([(a, .inr (0, [.ref (A 0), .ref (B 0)]))] : va_W)) (w2 := (wR K B τ)) hD (fun _ _ h => wR_in h))) rfl rfl hl.1 rfl (lv_room (Nat.le_of_ble_eq_true rfl)) d_LS_definition_4 ⟨Nat.le_of_ble_eq_true rfl, Nat.le_of_ble_eq_true rfl⟩) hP hD hS (fun H locs hP hD hS => ?_)
  have hP : va_P K.1 vwCl (wL K a A B σ_4 τ) H := hP
  have hD : va_D (LF a A B) (wL K a A B σ_4 τ) := hD
  refine lv_aload_n hx hb d_LS_definition_7 rfl (lv_at hl 0 rfl) ?_
  refine gflS_10 hx hb hg hown hK hP d_LS_definition_8 ?_
  refine gflA_97 hx hb hg hown hK hP d_LS_definition_11 ?_
  refine gflA_107 hx hb hg hown hK hP d_LS_definition_14 ?_
  refine lv_aload_n hx hb d_LS_definition_17 rfl (lv_at hl 0 rfl) ?_
  refine lv_iload_n hx hb d_LS_definition_18 rfl (lv_at hl 1 rfl) ?_
  obtain ⟨v_19, σ_19, τ_19, e_19, h⟩ := bdx_0 h
  refine L_calli (va_runV (As := [.int x1]) (rest := [.ref (A 4)]) ⟨hx, hb, hml, hown, hts⟩ (c_LS_declarationFor l K a A B e_19) (cwV 1 hts (gd_V wd_789 wd_791 wp_41 wd_1 wd_792) rfl rfl rfl dv_LS_declarationFor ⟨Nat.le_of_ble_eq_true rfl, Nat.le_of_ble_eq_true rfl⟩) (L_pv hLK hS hP hD) rfl rfl hl.1 rfl (lv_room (Nat.le_of_ble_eq_true rfl)) d_LS_definition_19 ⟨Nat.le_of_ble_eq_true rfl, Nat.le_of_ble_eq_true rfl⟩) hS (fun H locs hP hD hS => ?_)
  obtain ⟨i_22, h⟩ := itn h
  refine ralA_4 hx hb hK hP i_22 d_LS_definition_22 ?_
  exact hRet _ _ _ h _ _ hP hD hS _ _ d_LS_definition_23
set_option maxHeartbeats 4000000 in
set_option maxRecDepth 100000 in
theorem ct_LS_definition_3 (l : Launch) (hlt : l.stackTraces = false) (K : Kst) (a : Nat) (A B : Nat → Nat) {σ τ : Sto} {x1 : Int32} {rr : Int32} {ss tt : Sto} (h : p_LanguageServer_definition σ τ x1 = some (3, rr, ss, tt)) : MetT l y_LS_definition w_LS_definition rt_LS_definition (va_Pc [.ref a, .int x1] (LB K a A B σ τ)) "java/util/NoSuchElementException" (LB K a A B ss tt) (LF a A B) 1 6 (LF a A B) := by
  refine MetT.ofW (cc := b_LS_definition) (maxL := 2) (ret := (some .int)) (by decide) rfl ?_
  intro p e s m args below meth c s₁ Bd hml hemp hv
  obtain ⟨rfl, hP, hLK, hD⟩ := hv
  have hK := hLK.1
  have hx := Bd.exec
  have hb := Bd.bytes
  have hr := Bd.returns
  have hts := atoms_spec (ws := w_LS_definition) Bd.pre
  have hg : ∀ w ∈ Tg, w.before _ s = true := fun w q => hts w (List.mem_cons_of_mem _ q)
  have hown : s.vm.findClass "LanguageServer" = some m.cls := findClass_of_methodNamed Bd.named
  have hlocks := Bd.notSynchronized
  have hFs := noSt hP (F := LF a A B) (fun q h => L_in h)
  have hS : va_S (LF a A B) s.heap s.heap [] := va_S.rf
  have hl := lv_entry ([.ref a, .int x1]) (n := 2) (Nat.le_of_ble_eq_true rfl)
  rw [lg_entry_eq]
  generalize (lg_sl ([.ref a, .int x1]) ++ List.replicate (2 - (lg_sl ([.ref a, .int x1])).length) Slot.unset).toArray = ls at hl ⊢
  have hl : lv_has ls 2 [(0, .ref a), (1, .int x1)] := hl
  generalize hargs : ([.ref a, .int x1] : List Value).toArray = args at hg hts ⊢
  unfold p_LanguageServer_definition at h
  refine lv_aload_n hx hb d_LS_definition_0 rfl (lv_at hl 0 rfl) ?_
  refine gflS_10 hx hb hg hown hK hP d_LS_definition_1 ?_
  obtain ⟨σ_4, e_4, h⟩ := bd1_some h
  refine G_callv (A := A) (σ := σ) (w1 := ([(a, .inr (0, [.ref (A 0), .ref (B 0)]))] : va_W)) (w2 := (wR K B τ)) (va_runV (As := []) (rest := []) ⟨hx, hb, hml, hown, hts⟩ (c_Reading_refresh l K A e_4) (cwV 0 hts (gd_V wd_309 wd_310 wd_311 wd_2 wd_312) rfl rfl rfl dv_Reading_refresh ⟨Nat.le_of_ble_eq_true rfl, Nat.le_of_ble_eq_true rfl⟩) (R_pv_0 (A := A) hK (mid_P (w1 := ([(a, .inr (0, [.ref (A 0), .ref (B 0)]))] : va_W)) (w2 := (wR K B τ)) hP) (mid_D (w1 := ([(a, .inr (0, [.ref (A 0), .ref (B 0)]))] : va_W)) (w2 := (wR K B τ)) hD (fun _ _ h => wR_in h))) rfl rfl hl.1 rfl (lv_room (Nat.le_of_ble_eq_true rfl)) d_LS_definition_4 ⟨Nat.le_of_ble_eq_true rfl, Nat.le_of_ble_eq_true rfl⟩) hP hD hS (fun H locs hP hD hS => ?_)
  have hP : va_P K.1 vwCl (wL K a A B σ_4 τ) H := hP
  have hD : va_D (LF a A B) (wL K a A B σ_4 τ) := hD
  refine lv_aload_n hx hb d_LS_definition_7 rfl (lv_at hl 0 rfl) ?_
  refine gflS_10 hx hb hg hown hK hP d_LS_definition_8 ?_
  refine gflA_97 hx hb hg hown hK hP d_LS_definition_11 ?_
  refine gflA_107 hx hb hg hown hK hP d_LS_definition_14 ?_
  refine lv_aload_n hx hb d_LS_definition_17 rfl (lv_at hl 0 rfl) ?_
  refine lv_iload_n hx hb d_LS_definition_18 rfl (lv_at hl 1 rfl) ?_
  rcases bdx_k (by decide) h with ⟨v_19, σ_19, τ_19, e_19, h⟩ | e_19
  · refine L_calli (va_runV (As := [.int x1]) (rest := [.ref (A 4)]) ⟨hx, hb, hml, hown, hts⟩ (c_LS_declarationFor l K a A B e_19) (cwV 1 hts (gd_V wd_789 wd_791 wp_41 wd_1 wd_792) rfl rfl rfl dv_LS_declarationFor ⟨Nat.le_of_ble_eq_true rfl, Nat.le_of_ble_eq_true rfl⟩) (L_pv hLK hS hP hD) rfl rfl hl.1 rfl (lv_room (Nat.le_of_ble_eq_true rfl)) d_LS_definition_19 ⟨Nat.le_of_ble_eq_true rfl, Nat.le_of_ble_eq_true rfl⟩) hS (fun H locs hP hD hS => ?_)
    obtain ⟨i_22, h⟩ := itn h
    refine ralA_4 hx hb hK hP i_22 d_LS_definition_22 ?_
    exact (kne (by decide) h).elim
  · exact T_out (T_runV (As := [.int x1]) (rest := [.ref (A 4)]) ⟨hx, hb, hml, hown, hts⟩ (ct_LS_declarationFor_3 l hlt K a A B e_19) (cwV 1 hts (gd_V wd_789 wd_791 wp_41 wd_1 wd_792) rfl rfl rfl dv_LS_declarationFor ⟨Nat.le_of_ble_eq_true rfl, Nat.le_of_ble_eq_true rfl⟩) (L_pv hLK hS hP hD) rfl rfl hl.1 rfl (lv_room (Nat.le_of_ble_eq_true rfl)) d_LS_definition_19 ⟨Nat.le_of_ble_eq_true rfl, Nat.le_of_ble_eq_true rfl⟩) rfl rfl rfl hemp hlocks hS (fun q _ h => h) rfl (fun t T9 _ _ hW hB hz hk u9 hu hv => LB_eq hu hv hB) (fun q h => h) hS.2.2 (Nat.le_of_ble_eq_true rfl) (Nat.le_of_ble_eq_true rfl)
