def p_LanguageServer_type (σ τ : Sto) (x1 : Int32) : Option Lr :=
  bd1 (p_Reading_refresh σ) fun σ_4 =>
    bdx (p_LanguageServer_declarationFor σ_4 τ x1) fun v_19 σ_19 τ_19 =>
    if inR v_19 121 then some (0, σ_19.2.1 12 v_19.toNatClampNeg, σ_19, τ_19) else none
abbrev w_LS_type : List Cond := Cond.code y_LS_type b_LS_type 2 (some .int) :: Tg
abbrev r_LS_type : Room := { frames := 7, cells := 0, slots := 0, locals := 162 }
abbrev rt_LS_type : Room := { frames := 7, cells := 1, slots := 6, locals := 162 }
theorem dv_LS_type : y_LS_type.cls = "LanguageServer" ∧ y_LS_type.cls ≠ "java/lang/invoke/MethodHandle" ∧ y_LS_type.cls ≠ "java/lang/invoke/VarHandle" ∧ (parseMethodDescriptor y_LS_type.desc).map (fun d => d.parameters.length) = some 1 := by decide +kernel
set_option maxHeartbeats 4000000 in
set_option maxRecDepth 100000 in
theorem c_LS_type (l : Launch) (K : Kst) (a : Nat) (A B : Nat → Nat) {σ τ : Sto} {x1 : Int32} {rr : Int32} {ss tt : Sto} (h : p_LanguageServer_type σ τ x1 = some (0, rr, ss, tt)) : Met l y_LS_type w_LS_type r_LS_type (va_Pc [.ref a, .int x1] (LB K a A B σ τ)) (va_Qi (S := Unit) (fun v _ => v = rr) (fun _ t => LB K a A B ss tt t) (LF a A B)) 0 0 (LF a A B) := by
  refine Met.ofW (cc := b_LS_type) (maxL := 2) (ret := (some .int)) (by decide) rfl ?_
  intro p e s m args below meth c s₁ Bd hml hv
  obtain ⟨rfl, hP, hLK, hD⟩ := hv
  have hK := hLK.1
  have hx := Bd.exec
  have hb := Bd.bytes
  have hr := Bd.returns
  have hts := atoms_spec (ws := w_LS_type) Bd.pre
  have hg : ∀ w ∈ Tg, w.before _ s = true := fun w q => hts w (List.mem_cons_of_mem _ q)
  have hown : s.vm.findClass "LanguageServer" = some m.cls := findClass_of_methodNamed Bd.named
  have hlocks := Bd.notSynchronized
  have hS : va_S (LF a A B) s.heap s.heap [] := va_S.rf
  have hl := lv_entry ([.ref a, .int x1]) (n := 2) (Nat.le_of_ble_eq_true rfl)
  rw [lg_entry_eq]
  generalize (lg_sl ([.ref a, .int x1]) ++ List.replicate (2 - (lg_sl ([.ref a, .int x1])).length) Slot.unset).toArray = ls at hl ⊢
  have hl : lv_has ls 2 [(0, .ref a), (1, .int x1)] := hl
  generalize hargs : ([.ref a, .int x1] : List Value).toArray = args at hg hts ⊢
  have hRet : ∀ (v : Int32) (σ τ : Sto), some ((0, v, σ, τ) : Lr) = some (0, rr, ss, tt) → ∀ (H : Heap) (locs : List Loc), va_P K.1 vwCl (wL K a A B σ τ) H → va_D (LF a A B) (wL K a A B σ τ) → va_S (LF a A B) s.heap H locs → ∀ (pc : Nat) (ls : Array Slot), decode b_LS_type pc = .ok (.ireturn, 1) → W p l e (headSpec w_LS_type r_LS_type).room s m args below meth c H locs 0 0 (MQ below (va_Qi (S := Unit) (fun v _ => v = rr) (fun _ t => LB K a A B ss tt t) (LF a A B)) args s 0 0 (LF a A B)) (F0 m pc ls [.int v]) := by
    intro v σ τ h H locs hP hD hS pc ls hd
    cases h
    exact W.iret hx hb hr (fun t ht hW => ⟨⟨_, (), rfl, rfl, LB_of hLK hS hP hD hW (fun q _ => by rw [ht])⟩, hS.F ht⟩) hS.2.2 hd
  unfold p_LanguageServer_type at h
  refine lv_aload_n hx hb d_LS_type_0 rfl (lv_at hl 0 rfl) ?_
  refine gflS_10 hx hb hg hown hK hP d_LS_type_1 ?_
  obtain ⟨σ_4, e_4, h⟩ := bd1_some h
  refine G_callv (A := A) (σ := σ) (w1 := ([(a, .inr (0, [.ref (A 0), .ref (B 0)]))] : va_W)) (w2 := (wR K B τ)) (va_runV (As := []) (rest := []) ⟨hx, hb, hml, hown, hts⟩ (c_Reading_refresh l K A e_4) (cwV 0 hts (gd_V wd_309 wd_310 wd_311 wd_2 wd_312) rfl rfl rfl dv_Reading_refresh ⟨Nat.le_of_ble_eq_true rfl, Nat.le_of_ble_eq_true rfl⟩) (R_pv_0 (A := A) hK (mid_P (w1 := ([(a, .inr (0, [.ref (A 0), .ref (B 0)]))] : va_W)) (w2 := (wR K B τ)) hP) (mid_D (w1 := ([(a, .inr (0, [.ref (A 0), .ref (B 0)]))] : va_W)) (w2 := (wR K B τ)) hD (fun _ _ h => wR_in h))) rfl rfl hl.1 rfl (lv_room (Nat.le_of_ble_eq_true rfl)) d_LS_type_4 ⟨Nat.le_of_ble_eq_true rfl, Nat.le_of_ble_eq_true rfl⟩) hP hD hS (fun H locs hP hD hS => ?_)
  have hP : va_P K.1 vwCl (wL K a A B σ_4 τ) H := hP
  have hD : va_D (LF a A B) (wL K a A B σ_4 τ) := hD
  refine lv_aload_n hx hb d_LS_type_7 rfl (lv_at hl 0 rfl) ?_
  refine gflS_10 hx hb hg hown hK hP d_LS_type_8 ?_
  refine gflA_115 hx hb hg hown hK hP d_LS_type_11 ?_
  refine gflA_119 hx hb hg hown hK hP d_LS_type_14 ?_
  refine lv_aload_n hx hb d_LS_type_17 rfl (lv_at hl 0 rfl) ?_
  refine lv_iload_n hx hb d_LS_type_18 rfl (lv_at hl 1 rfl) ?_
  obtain ⟨v_19, σ_19, τ_19, e_19, h⟩ := bdx_0 h
  refine L_calli (va_runV (As := [.int x1]) (rest := [.ref (A 12)]) ⟨hx, hb, hml, hown, hts⟩ (c_LS_declarationFor l K a A B e_19) (cwV 1 hts (gd_V wd_789 wd_791 wp_41 wd_1 wd_792) rfl rfl rfl dv_LS_declarationFor ⟨Nat.le_of_ble_eq_true rfl, Nat.le_of_ble_eq_true rfl⟩) (L_pv hLK hS hP hD) rfl rfl hl.1 rfl (lv_room (Nat.le_of_ble_eq_true rfl)) d_LS_type_19 ⟨Nat.le_of_ble_eq_true rfl, Nat.le_of_ble_eq_true rfl⟩) hS (fun H locs hP hD hS => ?_)
  obtain ⟨i_22, h⟩ := itn h
  refine ralA_12 hx hb hK hP i_22 d_LS_type_22 ?_
  exact hRet _ _ _ h _ _ hP hD hS _ _ d_LS_type_23
set_option maxHeartbeats 4000000 in
set_option maxRecDepth 100000 in
theorem ct_LS_type_3 (l : Launch) (hlt : l.stackTraces = false) (K : Kst) (a : Nat) (A B : Nat → Nat) {σ τ : Sto} {x1 : Int32} {rr : Int32} {ss tt : Sto} (h : p_LanguageServer_type σ τ x1 = some (3, rr, ss, tt)) : MetT l y_LS_type w_LS_type rt_LS_type (va_Pc [.ref a, .int x1] (LB K a A B σ τ)) "java/util/NoSuchElementException" (LB K a A B ss tt) (LF a A B) 1 6 (LF a A B) := by
  refine MetT.ofW (cc := b_LS_type) (maxL := 2) (ret := (some .int)) (by decide) rfl ?_
  intro p e s m args below meth c s₁ Bd hml hemp hv
  obtain ⟨rfl, hP, hLK, hD⟩ := hv
  have hK := hLK.1
  have hx := Bd.exec
  have hb := Bd.bytes
  have hr := Bd.returns
  have hts := atoms_spec (ws := w_LS_type) Bd.pre
  have hg : ∀ w ∈ Tg, w.before _ s = true := fun w q => hts w (List.mem_cons_of_mem _ q)
  have hown : s.vm.findClass "LanguageServer" = some m.cls := findClass_of_methodNamed Bd.named
  have hlocks := Bd.notSynchronized
  have hFs := noSt hP (F := LF a A B) (fun q h => L_in h)
  have hS : va_S (LF a A B) s.heap s.heap [] := va_S.rf
  have hl := lv_entry ([.ref a, .int x1]) (n := 2) (Nat.le_of_ble_eq_true rfl)
  rw [lg_entry_eq]
  generalize (lg_sl ([.ref a, .int x1]) ++ List.replicate (2 - (lg_sl ([.ref a, .int x1])).length) Slot.unset).toArray = ls at hl ⊢
  have hl : lv_has ls 2 [(0, .ref a), (1, .int x1)] := hl
  generalize hargs : ([.ref a, .int x1] : List Value).toArray = args at hg hts ⊢
  unfold p_LanguageServer_type at h
  refine lv_aload_n hx hb d_LS_type_0 rfl (lv_at hl 0 rfl) ?_
  refine gflS_10 hx hb hg hown hK hP d_LS_type_1 ?_
  obtain ⟨σ_4, e_4, h⟩ := bd1_some h
  refine G_callv (A := A) (σ := σ) (w1 := ([(a, .inr (0, [.ref (A 0), .ref (B 0)]))] : va_W)) (w2 := (wR K B τ)) (va_runV (As := []) (rest := []) ⟨hx, hb, hml, hown, hts⟩ (c_Reading_refresh l K A e_4) (cwV 0 hts (gd_V wd_309 wd_310 wd_311 wd_2 wd_312) rfl rfl rfl dv_Reading_refresh ⟨Nat.le_of_ble_eq_true rfl, Nat.le_of_ble_eq_true rfl⟩) (R_pv_0 (A := A) hK (mid_P (w1 := ([(a, .inr (0, [.ref (A 0), .ref (B 0)]))] : va_W)) (w2 := (wR K B τ)) hP) (mid_D (w1 := ([(a, .inr (0, [.ref (A 0), .ref (B 0)]))] : va_W)) (w2 := (wR K B τ)) hD (fun _ _ h => wR_in h))) rfl rfl hl.1 rfl (lv_room (Nat.le_of_ble_eq_true rfl)) d_LS_type_4 ⟨Nat.le_of_ble_eq_true rfl, Nat.le_of_ble_eq_true rfl⟩) hP hD hS (fun H locs hP hD hS => ?_)
  have hP : va_P K.1 vwCl (wL K a A B σ_4 τ) H := hP
  have hD : va_D (LF a A B) (wL K a A B σ_4 τ) := hD
  refine lv_aload_n hx hb d_LS_type_7 rfl (lv_at hl 0 rfl) ?_
  refine gflS_10 hx hb hg hown hK hP d_LS_type_8 ?_
  refine gflA_115 hx hb hg hown hK hP d_LS_type_11 ?_
  refine gflA_119 hx hb hg hown hK hP d_LS_type_14 ?_
  refine lv_aload_n hx hb d_LS_type_17 rfl (lv_at hl 0 rfl) ?_
  refine lv_iload_n hx hb d_LS_type_18 rfl (lv_at hl 1 rfl) ?_
  rcases bdx_k (by decide) h with ⟨v_19, σ_19, τ_19, e_19, h⟩ | e_19
  · refine L_calli (va_runV (As := [.int x1]) (rest := [.ref (A 12)]) ⟨hx, hb, hml, hown, hts⟩ (c_LS_declarationFor l K a A B e_19) (cwV 1 hts (gd_V wd_789 wd_791 wp_41 wd_1 wd_792) rfl rfl rfl dv_LS_declarationFor ⟨Nat.le_of_ble_eq_true rfl, Nat.le_of_ble_eq_true rfl⟩) (L_pv hLK hS hP hD) rfl rfl hl.1 rfl (lv_room (Nat.le_of_ble_eq_true rfl)) d_LS_type_19 ⟨Nat.le_of_ble_eq_true rfl, Nat.le_of_ble_eq_true rfl⟩) hS (fun H locs hP hD hS => ?_)
    obtain ⟨i_22, h⟩ := itn h
    refine ralA_12 hx hb hK hP i_22 d_LS_type_22 ?_
    exact (kne (by decide) h).elim
  · exact T_out (T_runV (As := [.int x1]) (rest := [.ref (A 12)]) ⟨hx, hb, hml, hown, hts⟩ (ct_LS_declarationFor_3 l hlt K a A B e_19) (cwV 1 hts (gd_V wd_789 wd_791 wp_41 wd_1 wd_792) rfl rfl rfl dv_LS_declarationFor ⟨Nat.le_of_ble_eq_true rfl, Nat.le_of_ble_eq_true rfl⟩) (L_pv hLK hS hP hD) rfl rfl hl.1 rfl (lv_room (Nat.le_of_ble_eq_true rfl)) d_LS_type_19 ⟨Nat.le_of_ble_eq_true rfl, Nat.le_of_ble_eq_true rfl⟩) rfl rfl rfl hemp hlocks hS (fun q _ h => h) rfl (fun t T9 _ _ hW hB hz hk u9 hu hv => LB_eq hu hv hB) (fun q h => h) hS.2.2 (Nat.le_of_ble_eq_true rfl) (Nat.le_of_ble_eq_true rfl)
def p_LanguageServer_references (σ τ : Sto) (x1 : Int32) : Option Lr :=
  bd1 (p_Reading_refresh σ) fun σ_4 =>
    bdx (p_LanguageServer_declarationFor σ_4 τ x1) fun v_13 σ_13 τ_13 =>
    bd1 (p_Reading_uses σ_13 v_13) fun v_16 =>
    some (0, v_16, σ_13, τ_13)
abbrev w_LS_references : List Cond := Cond.code y_LS_references b_LS_references 2 (some .int) :: Tg
abbrev r_LS_references : Room := { frames := 7, cells := 0, slots := 0, locals := 162 }
abbrev rt_LS_references : Room := { frames := 7, cells := 1, slots := 6, locals := 162 }
theorem dv_LS_references : y_LS_references.cls = "LanguageServer" ∧ y_LS_references.cls ≠ "java/lang/invoke/MethodHandle" ∧ y_LS_references.cls ≠ "java/lang/invoke/VarHandle" ∧ (parseMethodDescriptor y_LS_references.desc).map (fun d => d.parameters.length) = some 1 := by decide +kernel
set_option maxHeartbeats 4000000 in
set_option maxRecDepth 100000 in
theorem c_LS_references (l : Launch) (K : Kst) (a : Nat) (A B : Nat → Nat) {σ τ : Sto} {x1 : Int32} {rr : Int32} {ss tt : Sto} (h : p_LanguageServer_references σ τ x1 = some (0, rr, ss, tt)) : Met l y_LS_references w_LS_references r_LS_references (va_Pc [.ref a, .int x1] (LB K a A B σ τ)) (va_Qi (S := Unit) (fun v _ => v = rr) (fun _ t => LB K a A B ss tt t) (LF a A B)) 0 0 (LF a A B) := by
  refine Met.ofW (cc := b_LS_references) (maxL := 2) (ret := (some .int)) (by decide) rfl ?_
  intro p e s m args below meth c s₁ Bd hml hv
  obtain ⟨rfl, hP, hLK, hD⟩ := hv
  have hK := hLK.1
  have hx := Bd.exec
  have hb := Bd.bytes
  have hr := Bd.returns
  have hts := atoms_spec (ws := w_LS_references) Bd.pre
  have hg : ∀ w ∈ Tg, w.before _ s = true := fun w q => hts w (List.mem_cons_of_mem _ q)
  have hown : s.vm.findClass "LanguageServer" = some m.cls := findClass_of_methodNamed Bd.named
  have hlocks := Bd.notSynchronized
  have hS : va_S (LF a A B) s.heap s.heap [] := va_S.rf
  have hl := lv_entry ([.ref a, .int x1]) (n := 2) (Nat.le_of_ble_eq_true rfl)
  rw [lg_entry_eq]
  generalize (lg_sl ([.ref a, .int x1]) ++ List.replicate (2 - (lg_sl ([.ref a, .int x1])).length) Slot.unset).toArray = ls at hl ⊢
  have hl : lv_has ls 2 [(0, .ref a), (1, .int x1)] := hl
  generalize hargs : ([.ref a, .int x1] : List Value).toArray = args at hg hts ⊢
  have hRet : ∀ (v : Int32) (σ τ : Sto), some ((0, v, σ, τ) : Lr) = some (0, rr, ss, tt) → ∀ (H : Heap) (locs : List Loc), va_P K.1 vwCl (wL K a A B σ τ) H → va_D (LF a A B) (wL K a A B σ τ) → va_S (LF a A B) s.heap H locs → ∀ (pc : Nat) (ls : Array Slot), decode b_LS_references pc = .ok (.ireturn, 1) → W p l e (headSpec w_LS_references r_LS_references).room s m args below meth c H locs 0 0 (MQ below (va_Qi (S := Unit) (fun v _ => v = rr) (fun _ t => LB K a A B ss tt t) (LF a A B)) args s 0 0 (LF a A B)) (F0 m pc ls [.int v]) := by
    intro v σ τ h H locs hP hD hS pc ls hd
    cases h
    exact W.iret hx hb hr (fun t ht hW => ⟨⟨_, (), rfl, rfl, LB_of hLK hS hP hD hW (fun q _ => by rw [ht])⟩, hS.F ht⟩) hS.2.2 hd
  unfold p_LanguageServer_references at h
  refine lv_aload_n hx hb d_LS_references_0 rfl (lv_at hl 0 rfl) ?_
  refine gflS_10 hx hb hg hown hK hP d_LS_references_1 ?_
  obtain ⟨σ_4, e_4, h⟩ := bd1_some h
  refine G_callv (A := A) (σ := σ) (w1 := ([(a, .inr (0, [.ref (A 0), .ref (B 0)]))] : va_W)) (w2 := (wR K B τ)) (va_runV (As := []) (rest := []) ⟨hx, hb, hml, hown, hts⟩ (c_Reading_refresh l K A e_4) (cwV 0 hts (gd_V wd_309 wd_310 wd_311 wd_2 wd_312) rfl rfl rfl dv_Reading_refresh ⟨Nat.le_of_ble_eq_true rfl, Nat.le_of_ble_eq_true rfl⟩) (R_pv_0 (A := A) hK (mid_P (w1 := ([(a, .inr (0, [.ref (A 0), .ref (B 0)]))] : va_W)) (w2 := (wR K B τ)) hP) (mid_D (w1 := ([(a, .inr (0, [.ref (A 0), .ref (B 0)]))] : va_W)) (w2 := (wR K B τ)) hD (fun _ _ h => wR_in h))) rfl rfl hl.1 rfl (lv_room (Nat.le_of_ble_eq_true rfl)) d_LS_references_4 ⟨Nat.le_of_ble_eq_true rfl, Nat.le_of_ble_eq_true rfl⟩) hP hD hS (fun H locs hP hD hS => ?_)
  have hP : va_P K.1 vwCl (wL K a A B σ_4 τ) H := hP
  have hD : va_D (LF a A B) (wL K a A B σ_4 τ) := hD
  refine lv_aload_n hx hb d_LS_references_7 rfl (lv_at hl 0 rfl) ?_
  refine gflS_10 hx hb hg hown hK hP d_LS_references_8 ?_
  refine lv_aload_n hx hb d_LS_references_11 rfl (lv_at hl 0 rfl) ?_
  refine lv_iload_n hx hb d_LS_references_12 rfl (lv_at hl 1 rfl) ?_
  obtain ⟨v_13, σ_13, τ_13, e_13, h⟩ := bdx_0 h
  refine L_calli (va_runV (As := [.int x1]) (rest := [.ref (A 0)]) ⟨hx, hb, hml, hown, hts⟩ (c_LS_declarationFor l K a A B e_13) (cwV 1 hts (gd_V wd_789 wd_791 wp_41 wd_1 wd_792) rfl rfl rfl dv_LS_declarationFor ⟨Nat.le_of_ble_eq_true rfl, Nat.le_of_ble_eq_true rfl⟩) (L_pv hLK hS hP hD) rfl rfl hl.1 rfl (lv_room (Nat.le_of_ble_eq_true rfl)) d_LS_references_13 ⟨Nat.le_of_ble_eq_true rfl, Nat.le_of_ble_eq_true rfl⟩) hS (fun H locs hP hD hS => ?_)
  obtain ⟨v_16, e_16, h⟩ := bd1_some h
  refine G_calli (A := A) (σ := σ_13) (w1 := ([(a, .inr (0, [.ref (A 0), .ref (B 0)]))] : va_W)) (w2 := (wR K B τ_13)) (va_runV (As := [.int v_13]) (rest := []) ⟨hx, hb, hml, hown, hts⟩ (c_Reading_uses l K A e_16) (cwV 1 hts (gd_V wd_812 wd_813 wd_814 wd_2 wd_815) rfl rfl rfl dv_Reading_uses ⟨Nat.le_of_ble_eq_true rfl, Nat.le_of_ble_eq_true rfl⟩) (R_pv_0 (A := A) hK (mid_P (w1 := ([(a, .inr (0, [.ref (A 0), .ref (B 0)]))] : va_W)) (w2 := (wR K B τ_13)) hP) (mid_D (w1 := ([(a, .inr (0, [.ref (A 0), .ref (B 0)]))] : va_W)) (w2 := (wR K B τ_13)) hD (fun _ _ h => wR_in h))) rfl rfl hl.1 rfl (lv_room (Nat.le_of_ble_eq_true rfl)) d_LS_references_16 ⟨Nat.le_of_ble_eq_true rfl, Nat.le_of_ble_eq_true rfl⟩) hP hD hS (fun H locs hP hD hS => ?_)
  have hP : va_P K.1 vwCl (wL K a A B σ_13 τ_13) H := hP
  have hD : va_D (LF a A B) (wL K a A B σ_13 τ_13) := hD
  exact hRet _ _ _ h _ _ hP hD hS _ _ d_LS_references_19
set_option maxHeartbeats 4000000 in
set_option maxRecDepth 100000 in
theorem ct_LS_references_3 (l : Launch) (hlt : l.stackTraces = false) (K : Kst) (a : Nat) (A B : Nat → Nat) {σ τ : Sto} {x1 : Int32} {rr : Int32} {ss tt : Sto} (h : p_LanguageServer_references σ τ x1 = some (3, rr, ss, tt)) : MetT l y_LS_references w_LS_references rt_LS_references (va_Pc [.ref a, .int x1] (LB K a A B σ τ)) "java/util/NoSuchElementException" (LB K a A B ss tt) (LF a A B) 1 6 (LF a A B) := by
  refine MetT.ofW (cc := b_LS_references) (maxL := 2) (ret := (some .int)) (by decide) rfl ?_
  intro p e s m args below meth c s₁ Bd hml hemp hv
  obtain ⟨rfl, hP, hLK, hD⟩ := hv
  have hK := hLK.1
  have hx := Bd.exec
  have hb := Bd.bytes
  have hr := Bd.returns
  have hts := atoms_spec (ws := w_LS_references) Bd.pre
  have hg : ∀ w ∈ Tg, w.before _ s = true := fun w q => hts w (List.mem_cons_of_mem _ q)
  have hown : s.vm.findClass "LanguageServer" = some m.cls := findClass_of_methodNamed Bd.named
  have hlocks := Bd.notSynchronized
  have hFs := noSt hP (F := LF a A B) (fun q h => L_in h)
  have hS : va_S (LF a A B) s.heap s.heap [] := va_S.rf
  have hl := lv_entry ([.ref a, .int x1]) (n := 2) (Nat.le_of_ble_eq_true rfl)
  rw [lg_entry_eq]
  generalize (lg_sl ([.ref a, .int x1]) ++ List.replicate (2 - (lg_sl ([.ref a, .int x1])).length) Slot.unset).toArray = ls at hl ⊢
  have hl : lv_has ls 2 [(0, .ref a), (1, .int x1)] := hl
  generalize hargs : ([.ref a, .int x1] : List Value).toArray = args at hg hts ⊢
  unfold p_LanguageServer_references at h
  refine lv_aload_n hx hb d_LS_references_0 rfl (lv_at hl 0 rfl) ?_
  refine gflS_10 hx hb hg hown hK hP d_LS_references_1 ?_
  obtain ⟨σ_4, e_4, h⟩ := bd1_some h
  refine G_callv (A := A) (σ := σ) (w1 := ([(a, .inr (0, [.ref (A 0), .ref (B 0)]))] : va_W)) (w2 := (wR K B τ)) (va_runV (As := []) (rest := []) ⟨hx, hb, hml, hown, hts⟩ (c_Reading_refresh l K A e_4) (cwV 0 hts (gd_V wd_309 wd_310 wd_311 wd_2 wd_312) rfl rfl rfl dv_Reading_refresh ⟨Nat.le_of_ble_eq_true rfl, Nat.le_of_ble_eq_true rfl⟩) (R_pv_0 (A := A) hK (mid_P (w1 := ([(a, .inr (0, [.ref (A 0), .ref (B 0)]))] : va_W)) (w2 := (wR K B τ)) hP) (mid_D (w1 := ([(a, .inr (0, [.ref (A 0), .ref (B 0)]))] : va_W)) (w2 := (wR K B τ)) hD (fun _ _ h => wR_in h))) rfl rfl hl.1 rfl (lv_room (Nat.le_of_ble_eq_true rfl)) d_LS_references_4 ⟨Nat.le_of_ble_eq_true rfl, Nat.le_of_ble_eq_true rfl⟩) hP hD hS (fun H locs hP hD hS => ?_)
  have hP : va_P K.1 vwCl (wL K a A B σ_4 τ) H := hP
  have hD : va_D (LF a A B) (wL K a A B σ_4 τ) := hD
  refine lv_aload_n hx hb d_LS_references_7 rfl (lv_at hl 0 rfl) ?_
  refine gflS_10 hx hb hg hown hK hP d_LS_references_8 ?_
  refine lv_aload_n hx hb d_LS_references_11 rfl (lv_at hl 0 rfl) ?_
  refine lv_iload_n hx hb d_LS_references_12 rfl (lv_at hl 1 rfl) ?_
  rcases bdx_k (by decide) h with ⟨v_13, σ_13, τ_13, e_13, h⟩ | e_13
  · refine L_calli (va_runV (As := [.int x1]) (rest := [.ref (A 0)]) ⟨hx, hb, hml, hown, hts⟩ (c_LS_declarationFor l K a A B e_13) (cwV 1 hts (gd_V wd_789 wd_791 wp_41 wd_1 wd_792) rfl rfl rfl dv_LS_declarationFor ⟨Nat.le_of_ble_eq_true rfl, Nat.le_of_ble_eq_true rfl⟩) (L_pv hLK hS hP hD) rfl rfl hl.1 rfl (lv_room (Nat.le_of_ble_eq_true rfl)) d_LS_references_13 ⟨Nat.le_of_ble_eq_true rfl, Nat.le_of_ble_eq_true rfl⟩) hS (fun H locs hP hD hS => ?_)
    obtain ⟨v_16, e_16, h⟩ := bd1_some h
    refine G_calli (A := A) (σ := σ_13) (w1 := ([(a, .inr (0, [.ref (A 0), .ref (B 0)]))] : va_W)) (w2 := (wR K B τ_13)) (va_runV (As := [.int v_13]) (rest := []) ⟨hx, hb, hml, hown, hts⟩ (c_Reading_uses l K A e_16) (cwV 1 hts (gd_V wd_812 wd_813 wd_814 wd_2 wd_815) rfl rfl rfl dv_Reading_uses ⟨Nat.le_of_ble_eq_true rfl, Nat.le_of_ble_eq_true rfl⟩) (R_pv_0 (A := A) hK (mid_P (w1 := ([(a, .inr (0, [.ref (A 0), .ref (B 0)]))] : va_W)) (w2 := (wR K B τ_13)) hP) (mid_D (w1 := ([(a, .inr (0, [.ref (A 0), .ref (B 0)]))] : va_W)) (w2 := (wR K B τ_13)) hD (fun _ _ h => wR_in h))) rfl rfl hl.1 rfl (lv_room (Nat.le_of_ble_eq_true rfl)) d_LS_references_16 ⟨Nat.le_of_ble_eq_true rfl, Nat.le_of_ble_eq_true rfl⟩) hP hD hS (fun H locs hP hD hS => ?_)
    have hP : va_P K.1 vwCl (wL K a A B σ_13 τ_13) H := hP
    have hD : va_D (LF a A B) (wL K a A B σ_13 τ_13) := hD
    exact (kne (by decide) h).elim
  · exact T_out (T_runV (As := [.int x1]) (rest := [.ref (A 0)]) ⟨hx, hb, hml, hown, hts⟩ (ct_LS_declarationFor_3 l hlt K a A B e_13) (cwV 1 hts (gd_V wd_789 wd_791 wp_41 wd_1 wd_792) rfl rfl rfl dv_LS_declarationFor ⟨Nat.le_of_ble_eq_true rfl, Nat.le_of_ble_eq_true rfl⟩) (L_pv hLK hS hP hD) rfl rfl hl.1 rfl (lv_room (Nat.le_of_ble_eq_true rfl)) d_LS_references_13 ⟨Nat.le_of_ble_eq_true rfl, Nat.le_of_ble_eq_true rfl⟩) rfl rfl rfl hemp hlocks hS (fun q _ h => h) rfl (fun t T9 _ _ hW hB hz hk u9 hu hv => LB_eq hu hv hB) (fun q h => h) hS.2.2 (Nat.le_of_ble_eq_true rfl) (Nat.le_of_ble_eq_true rfl)
def p_LanguageServer_reference (σ τ : Sto) (x1 : Int32) (x2 : Int32) : Option Lr :=
  bd1 (p_Reading_refresh σ) fun σ_4 =>
    bdx (p_LanguageServer_declarationFor σ_4 τ x1) fun v_13 σ_13 τ_13 =>
    bd1 (p_Reading_useAt σ_13 v_13 x2) fun v_17 =>
    (if v_17 = (-1) then
      some (3, 0, σ_13, τ_13)
    else
      if inR v_17 121 then some (0, σ_13.2.1 4 v_17.toNatClampNeg, σ_13, τ_13) else none)
abbrev w_LS_reference : List Cond := Cond.code y_LS_reference b_LS_reference 4 (some .int) :: Tg
abbrev r_LS_reference : Room := { frames := 7, cells := 0, slots := 0, locals := 162 }
abbrev rt_LS_reference : Room := { frames := 7, cells := 1, slots := 6, locals := 162 }
theorem dv_LS_reference : y_LS_reference.cls = "LanguageServer" ∧ y_LS_reference.cls ≠ "java/lang/invoke/MethodHandle" ∧ y_LS_reference.cls ≠ "java/lang/invoke/VarHandle" ∧ (parseMethodDescriptor y_LS_reference.desc).map (fun d => d.parameters.length) = some 2 := by decide +kernel
set_option maxHeartbeats 4000000 in
set_option maxRecDepth 100000 in
theorem c_LS_reference (l : Launch) (K : Kst) (a : Nat) (A B : Nat → Nat) {σ τ : Sto} {x1 : Int32} {x2 : Int32} {rr : Int32} {ss tt : Sto} (h : p_LanguageServer_reference σ τ x1 x2 = some (0, rr, ss, tt)) : Met l y_LS_reference w_LS_reference r_LS_reference (va_Pc [.ref a, .int x1, .int x2] (LB K a A B σ τ)) (va_Qi (S := Unit) (fun v _ => v = rr) (fun _ t => LB K a A B ss tt t) (LF a A B)) 0 0 (LF a A B) := by
  refine Met.ofW (cc := b_LS_reference) (maxL := 4) (ret := (some .int)) (by decide) rfl ?_
  intro p e s m args below meth c s₁ Bd hml hv
  obtain ⟨rfl, hP, hLK, hD⟩ := hv
  have hK := hLK.1
  have hx := Bd.exec
  have hb := Bd.bytes
  have hr := Bd.returns
  have hts := atoms_spec (ws := w_LS_reference) Bd.pre
  have hg : ∀ w ∈ Tg, w.before _ s = true := fun w q => hts w (List.mem_cons_of_mem _ q)
  have hown : s.vm.findClass "LanguageServer" = some m.cls := findClass_of_methodNamed Bd.named
  have hlocks := Bd.notSynchronized
  have hS : va_S (LF a A B) s.heap s.heap [] := va_S.rf
  have hl := lv_entry ([.ref a, .int x1, .int x2]) (n := 4) (Nat.le_of_ble_eq_true rfl)
  rw [lg_entry_eq]
  generalize (lg_sl ([.ref a, .int x1, .int x2]) ++ List.replicate (4 - (lg_sl ([.ref a, .int x1, .int x2])).length) Slot.unset).toArray = ls at hl ⊢
  have hl : lv_has ls 4 [(0, .ref a), (1, .int x1), (2, .int x2)] := hl
  generalize hargs : ([.ref a, .int x1, .int x2] : List Value).toArray = args at hg hts ⊢
  have hRet : ∀ (v : Int32) (σ τ : Sto), some ((0, v, σ, τ) : Lr) = some (0, rr, ss, tt) → ∀ (H : Heap) (locs : List Loc), va_P K.1 vwCl (wL K a A B σ τ) H → va_D (LF a A B) (wL K a A B σ τ) → va_S (LF a A B) s.heap H locs → ∀ (pc : Nat) (ls : Array Slot), decode b_LS_reference pc = .ok (.ireturn, 1) → W p l e (headSpec w_LS_reference r_LS_reference).room s m args below meth c H locs 0 0 (MQ below (va_Qi (S := Unit) (fun v _ => v = rr) (fun _ t => LB K a A B ss tt t) (LF a A B)) args s 0 0 (LF a A B)) (F0 m pc ls [.int v]) := by
    intro v σ τ h H locs hP hD hS pc ls hd
    cases h
    exact W.iret hx hb hr (fun t ht hW => ⟨⟨_, (), rfl, rfl, LB_of hLK hS hP hD hW (fun q _ => by rw [ht])⟩, hS.F ht⟩) hS.2.2 hd
  unfold p_LanguageServer_reference at h
  refine lv_aload_n hx hb d_LS_reference_0 rfl (lv_at hl 0 rfl) ?_
  refine gflS_10 hx hb hg hown hK hP d_LS_reference_1 ?_
  obtain ⟨σ_4, e_4, h⟩ := bd1_some h
  refine G_callv (A := A) (σ := σ) (w1 := ([(a, .inr (0, [.ref (A 0), .ref (B 0)]))] : va_W)) (w2 := (wR K B τ)) (va_runV (As := []) (rest := []) ⟨hx, hb, hml, hown, hts⟩ (c_Reading_refresh l K A e_4) (cwV 0 hts (gd_V wd_309 wd_310 wd_311 wd_2 wd_312) rfl rfl rfl dv_Reading_refresh ⟨Nat.le_of_ble_eq_true rfl, Nat.le_of_ble_eq_true rfl⟩) (R_pv_0 (A := A) hK (mid_P (w1 := ([(a, .inr (0, [.ref (A 0), .ref (B 0)]))] : va_W)) (w2 := (wR K B τ)) hP) (mid_D (w1 := ([(a, .inr (0, [.ref (A 0), .ref (B 0)]))] : va_W)) (w2 := (wR K B τ)) hD (fun _ _ h => wR_in h))) rfl rfl hl.1 rfl (lv_room (Nat.le_of_ble_eq_true rfl)) d_LS_reference_4 ⟨Nat.le_of_ble_eq_true rfl, Nat.le_of_ble_eq_true rfl⟩) hP hD hS (fun H locs hP hD hS => ?_)
  have hP : va_P K.1 vwCl (wL K a A B σ_4 τ) H := hP
  have hD : va_D (LF a A B) (wL K a A B σ_4 τ) := hD
  refine lv_aload_n hx hb d_LS_reference_7 rfl (lv_at hl 0 rfl) ?_
  refine gflS_10 hx hb hg hown hK hP d_LS_reference_8 ?_
  refine lv_aload_n hx hb d_LS_reference_11 rfl (lv_at hl 0 rfl) ?_
  refine lv_iload_n hx hb d_LS_reference_12 rfl (lv_at hl 1 rfl) ?_
  obtain ⟨v_13, σ_13, τ_13, e_13, h⟩ := bdx_0 h
  refine L_calli (va_runV (As := [.int x1]) (rest := [.ref (A 0)]) ⟨hx, hb, hml, hown, hts⟩ (c_LS_declarationFor l K a A B e_13) (cwV 1 hts (gd_V wd_789 wd_791 wp_41 wd_1 wd_792) rfl rfl rfl dv_LS_declarationFor ⟨Nat.le_of_ble_eq_true rfl, Nat.le_of_ble_eq_true rfl⟩) (L_pv hLK hS hP hD) rfl rfl hl.1 rfl (lv_room (Nat.le_of_ble_eq_true rfl)) d_LS_reference_13 ⟨Nat.le_of_ble_eq_true rfl, Nat.le_of_ble_eq_true rfl⟩) hS (fun H locs hP hD hS => ?_)
  refine lv_iload_n hx hb d_LS_reference_16 rfl (lv_at hl 2 rfl) ?_
  obtain ⟨v_17, e_17, h⟩ := bd1_some h
  refine G_calli (A := A) (σ := σ_13) (w1 := ([(a, .inr (0, [.ref (A 0), .ref (B 0)]))] : va_W)) (w2 := (wR K B τ_13)) (va_runV (As := [.int v_13, .int x2]) (rest := []) ⟨hx, hb, hml, hown, hts⟩ (c_Reading_useAt l K A e_17) (cwV 2 hts (gd_V wd_823 wd_824 wd_825 wd_2 wd_826) rfl rfl rfl dv_Reading_useAt ⟨Nat.le_of_ble_eq_true rfl, Nat.le_of_ble_eq_true rfl⟩) (R_pv_0 (A := A) hK (mid_P (w1 := ([(a, .inr (0, [.ref (A 0), .ref (B 0)]))] : va_W)) (w2 := (wR K B τ_13)) hP) (mid_D (w1 := ([(a, .inr (0, [.ref (A 0), .ref (B 0)]))] : va_W)) (w2 := (wR K B τ_13)) hD (fun _ _ h => wR_in h))) rfl rfl hl.1 rfl (lv_room (Nat.le_of_ble_eq_true rfl)) d_LS_reference_17 ⟨Nat.le_of_ble_eq_true rfl, Nat.le_of_ble_eq_true rfl⟩) hP hD hS (fun H locs hP hD hS => ?_)
  have hP : va_P K.1 vwCl (wL K a A B σ_13 τ_13) H := hP
  have hD : va_D (LF a A B) (wL K a A B σ_13 τ_13) := hD
  refine lv_istore_n (lv' := [(3, .int v_17), (0, .ref a), (1, .int x1), (2, .int x2)]) hx hb d_LS_reference_20 rfl hl (by decide) rfl (fun ls hl => ?_)
  refine lv_iload_n hx hb d_LS_reference_21 rfl (lv_at hl 0 rfl) ?_
  refine lv_iconst (v := (-1)) hx hb d_LS_reference_22 (by decide) ?_
  refine lv_icmp_ne (tgt := 36) hx hb d_LS_reference_23 (by decide) (fun c_23 => ?_) (fun c_23 => ?_)
  · replace h := itf c_23 h
    refine lv_aload_n hx hb d_LS_reference_36 rfl (lv_at hl 1 rfl) ?_
    refine gflS_10 hx hb hg hown hK hP d_LS_reference_37 ?_
    refine gflA_97 hx hb hg hown hK hP d_LS_reference_40 ?_
    refine gflA_107 hx hb hg hown hK hP d_LS_reference_43 ?_
    refine lv_iload_n hx hb d_LS_reference_46 rfl (lv_at hl 0 rfl) ?_
    obtain ⟨i_47, h⟩ := itn h
    refine ralA_4 hx hb hK hP i_47 d_LS_reference_47 ?_
    exact hRet _ _ _ h _ _ hP hD hS _ _ d_LS_reference_48
  · replace h := itp c_23 h
    exact (kne (by decide) h).elim
set_option maxHeartbeats 4000000 in
set_option maxRecDepth 100000 in
theorem ct_LS_reference_3 (l : Launch) (hlt : l.stackTraces = false) (K : Kst) (a : Nat) (A B : Nat → Nat) {σ τ : Sto} {x1 : Int32} {x2 : Int32} {rr : Int32} {ss tt : Sto} (h : p_LanguageServer_reference σ τ x1 x2 = some (3, rr, ss, tt)) : MetT l y_LS_reference w_LS_reference rt_LS_reference (va_Pc [.ref a, .int x1, .int x2] (LB K a A B σ τ)) "java/util/NoSuchElementException" (LB K a A B ss tt) (LF a A B) 1 6 (LF a A B) := by
  refine MetT.ofW (cc := b_LS_reference) (maxL := 4) (ret := (some .int)) (by decide) rfl ?_
  intro p e s m args below meth c s₁ Bd hml hemp hv
  obtain ⟨rfl, hP, hLK, hD⟩ := hv
  have hK := hLK.1
  have hx := Bd.exec
  have hb := Bd.bytes
  have hr := Bd.returns
  have hts := atoms_spec (ws := w_LS_reference) Bd.pre
  have hg : ∀ w ∈ Tg, w.before _ s = true := fun w q => hts w (List.mem_cons_of_mem _ q)
  have hown : s.vm.findClass "LanguageServer" = some m.cls := findClass_of_methodNamed Bd.named
  have hlocks := Bd.notSynchronized
  have hFs := noSt hP (F := LF a A B) (fun q h => L_in h)
  have hS : va_S (LF a A B) s.heap s.heap [] := va_S.rf
  have hl := lv_entry ([.ref a, .int x1, .int x2]) (n := 4) (Nat.le_of_ble_eq_true rfl)
  rw [lg_entry_eq]
  generalize (lg_sl ([.ref a, .int x1, .int x2]) ++ List.replicate (4 - (lg_sl ([.ref a, .int x1, .int x2])).length) Slot.unset).toArray = ls at hl ⊢
  have hl : lv_has ls 4 [(0, .ref a), (1, .int x1), (2, .int x2)] := hl
  generalize hargs : ([.ref a, .int x1, .int x2] : List Value).toArray = args at hg hts ⊢
  unfold p_LanguageServer_reference at h
  refine lv_aload_n hx hb d_LS_reference_0 rfl (lv_at hl 0 rfl) ?_
  refine gflS_10 hx hb hg hown hK hP d_LS_reference_1 ?_
  obtain ⟨σ_4, e_4, h⟩ := bd1_some h
  refine G_callv (A := A) (σ := σ) (w1 := ([(a, .inr (0, [.ref (A 0), .ref (B 0)]))] : va_W)) (w2 := (wR K B τ)) (va_runV (As := []) (rest := []) ⟨hx, hb, hml, hown, hts⟩ (c_Reading_refresh l K A e_4) (cwV 0 hts (gd_V wd_309 wd_310 wd_311 wd_2 wd_312) rfl rfl rfl dv_Reading_refresh ⟨Nat.le_of_ble_eq_true rfl, Nat.le_of_ble_eq_true rfl⟩) (R_pv_0 (A := A) hK (mid_P (w1 := ([(a, .inr (0, [.ref (A 0), .ref (B 0)]))] : va_W)) (w2 := (wR K B τ)) hP) (mid_D (w1 := ([(a, .inr (0, [.ref (A 0), .ref (B 0)]))] : va_W)) (w2 := (wR K B τ)) hD (fun _ _ h => wR_in h))) rfl rfl hl.1 rfl (lv_room (Nat.le_of_ble_eq_true rfl)) d_LS_reference_4 ⟨Nat.le_of_ble_eq_true rfl, Nat.le_of_ble_eq_true rfl⟩) hP hD hS (fun H locs hP hD hS => ?_)
  have hP : va_P K.1 vwCl (wL K a A B σ_4 τ) H := hP
  have hD : va_D (LF a A B) (wL K a A B σ_4 τ) := hD
  refine lv_aload_n hx hb d_LS_reference_7 rfl (lv_at hl 0 rfl) ?_
  refine gflS_10 hx hb hg hown hK hP d_LS_reference_8 ?_
  refine lv_aload_n hx hb d_LS_reference_11 rfl (lv_at hl 0 rfl) ?_
  refine lv_iload_n hx hb d_LS_reference_12 rfl (lv_at hl 1 rfl) ?_
  rcases bdx_k (by decide) h with ⟨v_13, σ_13, τ_13, e_13, h⟩ | e_13
  · refine L_calli (va_runV (As := [.int x1]) (rest := [.ref (A 0)]) ⟨hx, hb, hml, hown, hts⟩ (c_LS_declarationFor l K a A B e_13) (cwV 1 hts (gd_V wd_789 wd_791 wp_41 wd_1 wd_792) rfl rfl rfl dv_LS_declarationFor ⟨Nat.le_of_ble_eq_true rfl, Nat.le_of_ble_eq_true rfl⟩) (L_pv hLK hS hP hD) rfl rfl hl.1 rfl (lv_room (Nat.le_of_ble_eq_true rfl)) d_LS_reference_13 ⟨Nat.le_of_ble_eq_true rfl, Nat.le_of_ble_eq_true rfl⟩) hS (fun H locs hP hD hS => ?_)
    refine lv_iload_n hx hb d_LS_reference_16 rfl (lv_at hl 2 rfl) ?_
    obtain ⟨v_17, e_17, h⟩ := bd1_some h
    refine G_calli (A := A) (σ := σ_13) (w1 := ([(a, .inr (0, [.ref (A 0), .ref (B 0)]))] : va_W)) (w2 := (wR K B τ_13)) (va_runV (As := [.int v_13, .int x2]) (rest := []) ⟨hx, hb, hml, hown, hts⟩ (c_Reading_useAt l K A e_17) (cwV 2 hts (gd_V wd_823 wd_824 wd_825 wd_2 wd_826) rfl rfl rfl dv_Reading_useAt ⟨Nat.le_of_ble_eq_true rfl, Nat.le_of_ble_eq_true rfl⟩) (R_pv_0 (A := A) hK (mid_P (w1 := ([(a, .inr (0, [.ref (A 0), .ref (B 0)]))] : va_W)) (w2 := (wR K B τ_13)) hP) (mid_D (w1 := ([(a, .inr (0, [.ref (A 0), .ref (B 0)]))] : va_W)) (w2 := (wR K B τ_13)) hD (fun _ _ h => wR_in h))) rfl rfl hl.1 rfl (lv_room (Nat.le_of_ble_eq_true rfl)) d_LS_reference_17 ⟨Nat.le_of_ble_eq_true rfl, Nat.le_of_ble_eq_true rfl⟩) hP hD hS (fun H locs hP hD hS => ?_)
    have hP : va_P K.1 vwCl (wL K a A B σ_13 τ_13) H := hP
    have hD : va_D (LF a A B) (wL K a A B σ_13 τ_13) := hD
    refine lv_istore_n (lv' := [(3, .int v_17), (0, .ref a), (1, .int x1), (2, .int x2)]) hx hb d_LS_reference_20 rfl hl (by decide) rfl (fun ls hl => ?_)
    refine lv_iload_n hx hb d_LS_reference_21 rfl (lv_at hl 0 rfl) ?_
    refine lv_iconst (v := (-1)) hx hb d_LS_reference_22 (by decide) ?_
    refine lv_icmp_ne (tgt := 36) hx hb d_LS_reference_23 (by decide) (fun c_23 => ?_) (fun c_23 => ?_)
    · replace h := itf c_23 h
      refine lv_aload_n hx hb d_LS_reference_36 rfl (lv_at hl 1 rfl) ?_
      refine gflS_10 hx hb hg hown hK hP d_LS_reference_37 ?_
      refine gflA_97 hx hb hg hown hK hP d_LS_reference_40 ?_
      refine gflA_107 hx hb hg hown hK hP d_LS_reference_43 ?_
      refine lv_iload_n hx hb d_LS_reference_46 rfl (lv_at hl 0 rfl) ?_
      obtain ⟨i_47, h⟩ := itn h
      refine ralA_4 hx hb hK hP i_47 d_LS_reference_47 ?_
      exact (kne (by decide) h).elim
    · replace h := itp c_23 h
      cases h
      exact T_throw (own := "LanguageServer") (X := "java/util/NoSuchElementException") (text := "no reference at this index") hx hb hlt hown (by decide +kernel) (xat_NSE hg hLK.2.1 hLK.2.2) dx_NSE_0 dx_NSE_1 dx_NSE_2 dx_NSE_5 (hg _ wd_745) (hg _ wd_17) (hLK.2.1.2.2 (131, "no reference at this index") (by decide)) (hl.1.trans hml.symm) hemp hlocks hS hFs (fun t hW hz hk => LB_of hLK hS hP hD hW hk) hS.2.2 (Nat.le_of_ble_eq_true rfl) (Nat.le_of_ble_eq_true rfl) (Nat.le_of_ble_eq_true rfl) (Nat.le_of_ble_eq_true rfl) (Nat.le_of_ble_eq_true rfl) (Nat.le_of_ble_eq_true rfl) d_LS_reference_26 d_LS_reference_29 d_LS_reference_30 d_LS_reference_32 d_LS_reference_35
  · exact T_out (T_runV (As := [.int x1]) (rest := [.ref (A 0)]) ⟨hx, hb, hml, hown, hts⟩ (ct_LS_declarationFor_3 l hlt K a A B e_13) (cwV 1 hts (gd_V wd_789 wd_791 wp_41 wd_1 wd_792) rfl rfl rfl dv_LS_declarationFor ⟨Nat.le_of_ble_eq_true rfl, Nat.le_of_ble_eq_true rfl⟩) (L_pv hLK hS hP hD) rfl rfl hl.1 rfl (lv_room (Nat.le_of_ble_eq_true rfl)) d_LS_reference_13 ⟨Nat.le_of_ble_eq_true rfl, Nat.le_of_ble_eq_true rfl⟩) rfl rfl rfl hemp hlocks hS (fun q _ h => h) rfl (fun t T9 _ _ hW hB hz hk u9 hu hv => LB_eq hu hv hB) (fun q h => h) hS.2.2 (Nat.le_of_ble_eq_true rfl) (Nat.le_of_ble_eq_true rfl)
def p_LanguageServer_members (σ τ : Sto) (x1 : Int32) : Option Lr :=
  bd1 (p_Reading_refresh σ) fun σ_4 =>
    bd1 (p_Outline_isClass σ_4 x1) fun v_15 =>
    (if v_15 = 0 then
      some (3, 0, σ_4, τ)
    else
      bd2 (p_Outline_listMembers σ_4 x1) fun v_39 σ_39 =>
      some (0, v_39, σ_39, τ))
abbrev w_LS_members : List Cond := Cond.code y_LS_members b_LS_members 2 (some .int) :: Tg
abbrev r_LS_members : Room := { frames := 7, cells := 0, slots := 0, locals := 162 }
abbrev rt_LS_members : Room := { frames := 7, cells := 1, slots := 6, locals := 162 }
theorem dv_LS_members : y_LS_members.cls = "LanguageServer" ∧ y_LS_members.cls ≠ "java/lang/invoke/MethodHandle" ∧ y_LS_members.cls ≠ "java/lang/invoke/VarHandle" ∧ (parseMethodDescriptor y_LS_members.desc).map (fun d => d.parameters.length) = some 1 := by decide +kernel
set_option maxHeartbeats 4000000 in
set_option maxRecDepth 100000 in
theorem c_LS_members (l : Launch) (K : Kst) (a : Nat) (A B : Nat → Nat) {σ τ : Sto} {x1 : Int32} {rr : Int32} {ss tt : Sto} (h : p_LanguageServer_members σ τ x1 = some (0, rr, ss, tt)) : Met l y_LS_members w_LS_members r_LS_members (va_Pc [.ref a, .int x1] (LB K a A B σ τ)) (va_Qi (S := Unit) (fun v _ => v = rr) (fun _ t => LB K a A B ss tt t) (LF a A B)) 0 0 (LF a A B) := by
  refine Met.ofW (cc := b_LS_members) (maxL := 2) (ret := (some .int)) (by decide) rfl ?_
  intro p e s m args below meth c s₁ Bd hml hv
  obtain ⟨rfl, hP, hLK, hD⟩ := hv
  have hK := hLK.1
  have hx := Bd.exec
  have hb := Bd.bytes
  have hr := Bd.returns
  have hts := atoms_spec (ws := w_LS_members) Bd.pre
  have hg : ∀ w ∈ Tg, w.before _ s = true := fun w q => hts w (List.mem_cons_of_mem _ q)
  have hown : s.vm.findClass "LanguageServer" = some m.cls := findClass_of_methodNamed Bd.named
  have hlocks := Bd.notSynchronized
  have hS : va_S (LF a A B) s.heap s.heap [] := va_S.rf
  have hl := lv_entry ([.ref a, .int x1]) (n := 2) (Nat.le_of_ble_eq_true rfl)
  rw [lg_entry_eq]
  generalize (lg_sl ([.ref a, .int x1]) ++ List.replicate (2 - (lg_sl ([.ref a, .int x1])).length) Slot.unset).toArray = ls at hl ⊢
  have hl : lv_has ls 2 [(0, .ref a), (1, .int x1)] := hl
  generalize hargs : ([.ref a, .int x1] : List Value).toArray = args at hg hts ⊢
  have hRet : ∀ (v : Int32) (σ τ : Sto), some ((0, v, σ, τ) : Lr) = some (0, rr, ss, tt) → ∀ (H : Heap) (locs : List Loc), va_P K.1 vwCl (wL K a A B σ τ) H → va_D (LF a A B) (wL K a A B σ τ) → va_S (LF a A B) s.heap H locs → ∀ (pc : Nat) (ls : Array Slot), decode b_LS_members pc = .ok (.ireturn, 1) → W p l e (headSpec w_LS_members r_LS_members).room s m args below meth c H locs 0 0 (MQ below (va_Qi (S := Unit) (fun v _ => v = rr) (fun _ t => LB K a A B ss tt t) (LF a A B)) args s 0 0 (LF a A B)) (F0 m pc ls [.int v]) := by
    intro v σ τ h H locs hP hD hS pc ls hd
    cases h
    exact W.iret hx hb hr (fun t ht hW => ⟨⟨_, (), rfl, rfl, LB_of hLK hS hP hD hW (fun q _ => by rw [ht])⟩, hS.F ht⟩) hS.2.2 hd
  unfold p_LanguageServer_members at h
  refine lv_aload_n hx hb d_LS_members_0 rfl (lv_at hl 0 rfl) ?_
  refine gflS_10 hx hb hg hown hK hP d_LS_members_1 ?_
  obtain ⟨σ_4, e_4, h⟩ := bd1_some h
  refine G_callv (A := A) (σ := σ) (w1 := ([(a, .inr (0, [.ref (A 0), .ref (B 0)]))] : va_W)) (w2 := (wR K B τ)) (va_runV (As := []) (rest := []) ⟨hx, hb, hml, hown, hts⟩ (c_Reading_refresh l K A e_4) (cwV 0 hts (gd_V wd_309 wd_310 wd_311 wd_2 wd_312) rfl rfl rfl dv_Reading_refresh ⟨Nat.le_of_ble_eq_true rfl, Nat.le_of_ble_eq_true rfl⟩) (R_pv_0 (A := A) hK (mid_P (w1 := ([(a, .inr (0, [.ref (A 0), .ref (B 0)]))] : va_W)) (w2 := (wR K B τ)) hP) (mid_D (w1 := ([(a, .inr (0, [.ref (A 0), .ref (B 0)]))] : va_W)) (w2 := (wR K B τ)) hD (fun _ _ h => wR_in h))) rfl rfl hl.1 rfl (lv_room (Nat.le_of_ble_eq_true rfl)) d_LS_members_4 ⟨Nat.le_of_ble_eq_true rfl, Nat.le_of_ble_eq_true rfl⟩) hP hD hS (fun H locs hP hD hS => ?_)
  have hP : va_P K.1 vwCl (wL K a A B σ_4 τ) H := hP
  have hD : va_D (LF a A B) (wL K a A B σ_4 τ) := hD
  refine lv_aload_n hx hb d_LS_members_7 rfl (lv_at hl 0 rfl) ?_
  refine gflS_10 hx hb hg hown hK hP d_LS_members_8 ?_
  refine gflA_115 hx hb hg hown hK hP d_LS_members_11 ?_
  refine lv_iload_n hx hb d_LS_members_14 rfl (lv_at hl 1 rfl) ?_
  obtain ⟨v_15, e_15, h⟩ := bd1_some h
  refine G_calli (A := A) (σ := σ_4) (w1 := ([(a, .inr (0, [.ref (A 0), .ref (B 0)]))] : va_W)) (w2 := (wR K B τ)) (va_runV (As := [.int x1]) (rest := []) ⟨hx, hb, hml, hown, hts⟩ (c_Outline_isClass l K A e_15) (cwV 1 hts (gd_V wd_835 wd_503 wd_504 wd_5 wd_505) rfl rfl rfl dv_Outline_isClass ⟨Nat.le_of_ble_eq_true rfl, Nat.le_of_ble_eq_true rfl⟩) (R_pv_8 (A := A) hK (mid_P (w1 := ([(a, .inr (0, [.ref (A 0), .ref (B 0)]))] : va_W)) (w2 := (wR K B τ)) hP) (mid_D (w1 := ([(a, .inr (0, [.ref (A 0), .ref (B 0)]))] : va_W)) (w2 := (wR K B τ)) hD (fun _ _ h => wR_in h))) rfl rfl hl.1 rfl (lv_room (Nat.le_of_ble_eq_true rfl)) d_LS_members_15 ⟨Nat.le_of_ble_eq_true rfl, Nat.le_of_ble_eq_true rfl⟩) hP hD hS (fun H locs hP hD hS => ?_)
  have hP : va_P K.1 vwCl (wL K a A B σ_4 τ) H := hP
  have hD : va_D (LF a A B) (wL K a A B σ_4 τ) := hD
  refine lv_if_ne (tgt := 31) hx hb d_LS_members_18 (by decide) (fun c_18 => ?_) (fun c_18 => ?_)
  · replace h := itf c_18 h
    refine lv_aload_n hx hb d_LS_members_31 rfl (lv_at hl 0 rfl) ?_
    refine gflS_10 hx hb hg hown hK hP d_LS_members_32 ?_
    refine gflA_115 hx hb hg hown hK hP d_LS_members_35 ?_
    refine lv_iload_n hx hb d_LS_members_38 rfl (lv_at hl 1 rfl) ?_
    obtain ⟨v_39, σ_39, e_39, h⟩ := bd2_some h
    refine G_calli (A := A) (σ := σ_4) (w1 := ([(a, .inr (0, [.ref (A 0), .ref (B 0)]))] : va_W)) (w2 := (wR K B τ)) (va_runV (As := [.int x1]) (rest := []) ⟨hx, hb, hml, hown, hts⟩ (c_Outline_listMembers l K A e_39) (cwV 1 hts (gd_V wd_837 wd_838 wd_839 wd_5 wd_840) rfl rfl rfl dv_Outline_listMembers ⟨Nat.le_of_ble_eq_true rfl, Nat.le_of_ble_eq_true rfl⟩) (R_pv_8 (A := A) hK (mid_P (w1 := ([(a, .inr (0, [.ref (A 0), .ref (B 0)]))] : va_W)) (w2 := (wR K B τ)) hP) (mid_D (w1 := ([(a, .inr (0, [.ref (A 0), .ref (B 0)]))] : va_W)) (w2 := (wR K B τ)) hD (fun _ _ h => wR_in h))) rfl rfl hl.1 rfl (lv_room (Nat.le_of_ble_eq_true rfl)) d_LS_members_39 ⟨Nat.le_of_ble_eq_true rfl, Nat.le_of_ble_eq_true rfl⟩) hP hD hS (fun H locs hP hD hS => ?_)
    have hP : va_P K.1 vwCl (wL K a A B σ_39 τ) H := hP
    have hD : va_D (LF a A B) (wL K a A B σ_39 τ) := hD
    exact hRet _ _ _ h _ _ hP hD hS _ _ d_LS_members_42
  · replace h := itp c_18 h
    exact (kne (by decide) h).elim
set_option maxHeartbeats 4000000 in
set_option maxRecDepth 100000 in
theorem ct_LS_members_3 (l : Launch) (hlt : l.stackTraces = false) (K : Kst) (a : Nat) (A B : Nat → Nat) {σ τ : Sto} {x1 : Int32} {rr : Int32} {ss tt : Sto} (h : p_LanguageServer_members σ τ x1 = some (3, rr, ss, tt)) : MetT l y_LS_members w_LS_members rt_LS_members (va_Pc [.ref a, .int x1] (LB K a A B σ τ)) "java/util/NoSuchElementException" (LB K a A B ss tt) (LF a A B) 1 6 (LF a A B) := by
  refine MetT.ofW (cc := b_LS_members) (maxL := 2) (ret := (some .int)) (by decide) rfl ?_
  intro p e s m args below meth c s₁ Bd hml hemp hv
  obtain ⟨rfl, hP, hLK, hD⟩ := hv
  have hK := hLK.1
  have hx := Bd.exec
  have hb := Bd.bytes
  have hr := Bd.returns
  have hts := atoms_spec (ws := w_LS_members) Bd.pre
  have hg : ∀ w ∈ Tg, w.before _ s = true := fun w q => hts w (List.mem_cons_of_mem _ q)
  have hown : s.vm.findClass "LanguageServer" = some m.cls := findClass_of_methodNamed Bd.named
  have hlocks := Bd.notSynchronized
  have hFs := noSt hP (F := LF a A B) (fun q h => L_in h)
  have hS : va_S (LF a A B) s.heap s.heap [] := va_S.rf
  have hl := lv_entry ([.ref a, .int x1]) (n := 2) (Nat.le_of_ble_eq_true rfl)
  rw [lg_entry_eq]
  generalize (lg_sl ([.ref a, .int x1]) ++ List.replicate (2 - (lg_sl ([.ref a, .int x1])).length) Slot.unset).toArray = ls at hl ⊢
  have hl : lv_has ls 2 [(0, .ref a), (1, .int x1)] := hl
  generalize hargs : ([.ref a, .int x1] : List Value).toArray = args at hg hts ⊢
  unfold p_LanguageServer_members at h
  refine lv_aload_n hx hb d_LS_members_0 rfl (lv_at hl 0 rfl) ?_
  refine gflS_10 hx hb hg hown hK hP d_LS_members_1 ?_
  obtain ⟨σ_4, e_4, h⟩ := bd1_some h
  refine G_callv (A := A) (σ := σ) (w1 := ([(a, .inr (0, [.ref (A 0), .ref (B 0)]))] : va_W)) (w2 := (wR K B τ)) (va_runV (As := []) (rest := []) ⟨hx, hb, hml, hown, hts⟩ (c_Reading_refresh l K A e_4) (cwV 0 hts (gd_V wd_309 wd_310 wd_311 wd_2 wd_312) rfl rfl rfl dv_Reading_refresh ⟨Nat.le_of_ble_eq_true rfl, Nat.le_of_ble_eq_true rfl⟩) (R_pv_0 (A := A) hK (mid_P (w1 := ([(a, .inr (0, [.ref (A 0), .ref (B 0)]))] : va_W)) (w2 := (wR K B τ)) hP) (mid_D (w1 := ([(a, .inr (0, [.ref (A 0), .ref (B 0)]))] : va_W)) (w2 := (wR K B τ)) hD (fun _ _ h => wR_in h))) rfl rfl hl.1 rfl (lv_room (Nat.le_of_ble_eq_true rfl)) d_LS_members_4 ⟨Nat.le_of_ble_eq_true rfl, Nat.le_of_ble_eq_true rfl⟩) hP hD hS (fun H locs hP hD hS => ?_)
  have hP : va_P K.1 vwCl (wL K a A B σ_4 τ) H := hP
  have hD : va_D (LF a A B) (wL K a A B σ_4 τ) := hD
  refine lv_aload_n hx hb d_LS_members_7 rfl (lv_at hl 0 rfl) ?_
  refine gflS_10 hx hb hg hown hK hP d_LS_members_8 ?_
  refine gflA_115 hx hb hg hown hK hP d_LS_members_11 ?_
  refine lv_iload_n hx hb d_LS_members_14 rfl (lv_at hl 1 rfl) ?_
  obtain ⟨v_15, e_15, h⟩ := bd1_some h
  refine G_calli (A := A) (σ := σ_4) (w1 := ([(a, .inr (0, [.ref (A 0), .ref (B 0)]))] : va_W)) (w2 := (wR K B τ)) (va_runV (As := [.int x1]) (rest := []) ⟨hx, hb, hml, hown, hts⟩ (c_Outline_isClass l K A e_15) (cwV 1 hts (gd_V wd_835 wd_503 wd_504 wd_5 wd_505) rfl rfl rfl dv_Outline_isClass ⟨Nat.le_of_ble_eq_true rfl, Nat.le_of_ble_eq_true rfl⟩) (R_pv_8 (A := A) hK (mid_P (w1 := ([(a, .inr (0, [.ref (A 0), .ref (B 0)]))] : va_W)) (w2 := (wR K B τ)) hP) (mid_D (w1 := ([(a, .inr (0, [.ref (A 0), .ref (B 0)]))] : va_W)) (w2 := (wR K B τ)) hD (fun _ _ h => wR_in h))) rfl rfl hl.1 rfl (lv_room (Nat.le_of_ble_eq_true rfl)) d_LS_members_15 ⟨Nat.le_of_ble_eq_true rfl, Nat.le_of_ble_eq_true rfl⟩) hP hD hS (fun H locs hP hD hS => ?_)
  have hP : va_P K.1 vwCl (wL K a A B σ_4 τ) H := hP
  have hD : va_D (LF a A B) (wL K a A B σ_4 τ) := hD
  refine lv_if_ne (tgt := 31) hx hb d_LS_members_18 (by decide) (fun c_18 => ?_) (fun c_18 => ?_)
  · replace h := itf c_18 h
    refine lv_aload_n hx hb d_LS_members_31 rfl (lv_at hl 0 rfl) ?_
    refine gflS_10 hx hb hg hown hK hP d_LS_members_32 ?_
    refine gflA_115 hx hb hg hown hK hP d_LS_members_35 ?_
    refine lv_iload_n hx hb d_LS_members_38 rfl (lv_at hl 1 rfl) ?_
    obtain ⟨v_39, σ_39, e_39, h⟩ := bd2_some h
    refine G_calli (A := A) (σ := σ_4) (w1 := ([(a, .inr (0, [.ref (A 0), .ref (B 0)]))] : va_W)) (w2 := (wR K B τ)) (va_runV (As := [.int x1]) (rest := []) ⟨hx, hb, hml, hown, hts⟩ (c_Outline_listMembers l K A e_39) (cwV 1 hts (gd_V wd_837 wd_838 wd_839 wd_5 wd_840) rfl rfl rfl dv_Outline_listMembers ⟨Nat.le_of_ble_eq_true rfl, Nat.le_of_ble_eq_true rfl⟩) (R_pv_8 (A := A) hK (mid_P (w1 := ([(a, .inr (0, [.ref (A 0), .ref (B 0)]))] : va_W)) (w2 := (wR K B τ)) hP) (mid_D (w1 := ([(a, .inr (0, [.ref (A 0), .ref (B 0)]))] : va_W)) (w2 := (wR K B τ)) hD (fun _ _ h => wR_in h))) rfl rfl hl.1 rfl (lv_room (Nat.le_of_ble_eq_true rfl)) d_LS_members_39 ⟨Nat.le_of_ble_eq_true rfl, Nat.le_of_ble_eq_true rfl⟩) hP hD hS (fun H locs hP hD hS => ?_)
    have hP : va_P K.1 vwCl (wL K a A B σ_39 τ) H := hP
    have hD : va_D (LF a A B) (wL K a A B σ_39 τ) := hD
    exact (kne (by decide) h).elim
  · replace h := itp c_18 h
    cases h
    exact T_throw (own := "LanguageServer") (X := "java/util/NoSuchElementException") (text := "no such class") hx hb hlt hown (by decide +kernel) (xat_NSE hg hLK.2.1 hLK.2.2) dx_NSE_0 dx_NSE_1 dx_NSE_2 dx_NSE_5 (hg _ wd_745) (hg _ wd_17) (hLK.2.1.2.2 (136, "no such class") (by decide)) (hl.1.trans hml.symm) hemp hlocks hS hFs (fun t hW hz hk => LB_of hLK hS hP hD hW hk) hS.2.2 (Nat.le_of_ble_eq_true rfl) (Nat.le_of_ble_eq_true rfl) (Nat.le_of_ble_eq_true rfl) (Nat.le_of_ble_eq_true rfl) (Nat.le_of_ble_eq_true rfl) (Nat.le_of_ble_eq_true rfl) d_LS_members_21 d_LS_members_24 d_LS_members_25 d_LS_members_27 d_LS_members_30
def p_LanguageServer_member (σ τ : Sto) (x1 : Int32) (x2 : Int32) : Option Lr :=
  bd1 (p_Reading_refresh σ) fun σ_4 =>
    bd1 (p_Outline_isClass σ_4 x1) fun v_15 =>
    (if v_15 = 0 then
      some (3, 0, σ_4, τ)
    else
      (if x2 < 0 then
        some (3, 0, σ_4, τ)
      else
        bd2 (p_Outline_listMembers σ_4 x1) fun v_44 σ_44 =>
        (if x2 < v_44 then
          if inR x2 121 then if inR (σ_44.2.1 15 x2.toNatClampNeg) 121 then some (0, σ_44.2.1 4 ((σ_44.2.1 15 x2.toNatClampNeg).toNatClampNeg), σ_44, τ) else none else none
        else
          some (3, 0, σ_44, τ))))
abbrev w_LS_member : List Cond := Cond.code y_LS_member b_LS_member 3 (some .int) :: Tg
abbrev r_LS_member : Room := { frames := 7, cells := 0, slots := 0, locals := 162 }
abbrev rt_LS_member : Room := { frames := 7, cells := 1, slots := 6, locals := 162 }
theorem dv_LS_member : y_LS_member.cls = "LanguageServer" ∧ y_LS_member.cls ≠ "java/lang/invoke/MethodHandle" ∧ y_LS_member.cls ≠ "java/lang/invoke/VarHandle" ∧ (parseMethodDescriptor y_LS_member.desc).map (fun d => d.parameters.length) = some 2 := by decide +kernel
set_option maxHeartbeats 4000000 in
set_option maxRecDepth 100000 in
theorem c_LS_member (l : Launch) (K : Kst) (a : Nat) (A B : Nat → Nat) {σ τ : Sto} {x1 : Int32} {x2 : Int32} {rr : Int32} {ss tt : Sto} (h : p_LanguageServer_member σ τ x1 x2 = some (0, rr, ss, tt)) : Met l y_LS_member w_LS_member r_LS_member (va_Pc [.ref a, .int x1, .int x2] (LB K a A B σ τ)) (va_Qi (S := Unit) (fun v _ => v = rr) (fun _ t => LB K a A B ss tt t) (LF a A B)) 0 0 (LF a A B) := by
  refine Met.ofW (cc := b_LS_member) (maxL := 3) (ret := (some .int)) (by decide) rfl ?_
  intro p e s m args below meth c s₁ Bd hml hv
  obtain ⟨rfl, hP, hLK, hD⟩ := hv
  have hK := hLK.1
  have hx := Bd.exec
  have hb := Bd.bytes
  have hr := Bd.returns
  have hts := atoms_spec (ws := w_LS_member) Bd.pre
  have hg : ∀ w ∈ Tg, w.before _ s = true := fun w q => hts w (List.mem_cons_of_mem _ q)
  have hown : s.vm.findClass "LanguageServer" = some m.cls := findClass_of_methodNamed Bd.named
  have hlocks := Bd.notSynchronized
  have hS : va_S (LF a A B) s.heap s.heap [] := va_S.rf
  have hl := lv_entry ([.ref a, .int x1, .int x2]) (n := 3) (Nat.le_of_ble_eq_true rfl)
  rw [lg_entry_eq]
  generalize (lg_sl ([.ref a, .int x1, .int x2]) ++ List.replicate (3 - (lg_sl ([.ref a, .int x1, .int x2])).length) Slot.unset).toArray = ls at hl ⊢
  have hl : lv_has ls 3 [(0, .ref a), (1, .int x1), (2, .int x2)] := hl
  generalize hargs : ([.ref a, .int x1, .int x2] : List Value).toArray = args at hg hts ⊢
  have hRet : ∀ (v : Int32) (σ τ : Sto), some ((0, v, σ, τ) : Lr) = some (0, rr, ss, tt) → ∀ (H : Heap) (locs : List Loc), va_P K.1 vwCl (wL K a A B σ τ) H → va_D (LF a A B) (wL K a A B σ τ) → va_S (LF a A B) s.heap H locs → ∀ (pc : Nat) (ls : Array Slot), decode b_LS_member pc = .ok (.ireturn, 1) → W p l e (headSpec w_LS_member r_LS_member).room s m args below meth c H locs 0 0 (MQ below (va_Qi (S := Unit) (fun v _ => v = rr) (fun _ t => LB K a A B ss tt t) (LF a A B)) args s 0 0 (LF a A B)) (F0 m pc ls [.int v]) := by
    intro v σ τ h H locs hP hD hS pc ls hd
    cases h
    exact W.iret hx hb hr (fun t ht hW => ⟨⟨_, (), rfl, rfl, LB_of hLK hS hP hD hW (fun q _ => by rw [ht])⟩, hS.F ht⟩) hS.2.2 hd
  unfold p_LanguageServer_member at h
  refine lv_aload_n hx hb d_LS_member_0 rfl (lv_at hl 0 rfl) ?_
  refine gflS_10 hx hb hg hown hK hP d_LS_member_1 ?_
  obtain ⟨σ_4, e_4, h⟩ := bd1_some h
  refine G_callv (A := A) (σ := σ) (w1 := ([(a, .inr (0, [.ref (A 0), .ref (B 0)]))] : va_W)) (w2 := (wR K B τ)) (va_runV (As := []) (rest := []) ⟨hx, hb, hml, hown, hts⟩ (c_Reading_refresh l K A e_4) (cwV 0 hts (gd_V wd_309 wd_310 wd_311 wd_2 wd_312) rfl rfl rfl dv_Reading_refresh ⟨Nat.le_of_ble_eq_true rfl, Nat.le_of_ble_eq_true rfl⟩) (R_pv_0 (A := A) hK (mid_P (w1 := ([(a, .inr (0, [.ref (A 0), .ref (B 0)]))] : va_W)) (w2 := (wR K B τ)) hP) (mid_D (w1 := ([(a, .inr (0, [.ref (A 0), .ref (B 0)]))] : va_W)) (w2 := (wR K B τ)) hD (fun _ _ h => wR_in h))) rfl rfl hl.1 rfl (lv_room (Nat.le_of_ble_eq_true rfl)) d_LS_member_4 ⟨Nat.le_of_ble_eq_true rfl, Nat.le_of_ble_eq_true rfl⟩) hP hD hS (fun H locs hP hD hS => ?_)
  have hP : va_P K.1 vwCl (wL K a A B σ_4 τ) H := hP
  have hD : va_D (LF a A B) (wL K a A B σ_4 τ) := hD
  refine lv_aload_n hx hb d_LS_member_7 rfl (lv_at hl 0 rfl) ?_
  refine gflS_10 hx hb hg hown hK hP d_LS_member_8 ?_
  refine gflA_115 hx hb hg hown hK hP d_LS_member_11 ?_
  refine lv_iload_n hx hb d_LS_member_14 rfl (lv_at hl 1 rfl) ?_
  obtain ⟨v_15, e_15, h⟩ := bd1_some h
  refine G_calli (A := A) (σ := σ_4) (w1 := ([(a, .inr (0, [.ref (A 0), .ref (B 0)]))] : va_W)) (w2 := (wR K B τ)) (va_runV (As := [.int x1]) (rest := []) ⟨hx, hb, hml, hown, hts⟩ (c_Outline_isClass l K A e_15) (cwV 1 hts (gd_V wd_835 wd_503 wd_504 wd_5 wd_505) rfl rfl rfl dv_Outline_isClass ⟨Nat.le_of_ble_eq_true rfl, Nat.le_of_ble_eq_true rfl⟩) (R_pv_8 (A := A) hK (mid_P (w1 := ([(a, .inr (0, [.ref (A 0), .ref (B 0)]))] : va_W)) (w2 := (wR K B τ)) hP) (mid_D (w1 := ([(a, .inr (0, [.ref (A 0), .ref (B 0)]))] : va_W)) (w2 := (wR K B τ)) hD (fun _ _ h => wR_in h))) rfl rfl hl.1 rfl (lv_room (Nat.le_of_ble_eq_true rfl)) d_LS_member_15 ⟨Nat.le_of_ble_eq_true rfl, Nat.le_of_ble_eq_true rfl⟩) hP hD hS (fun H locs hP hD hS => ?_)
  have hP : va_P K.1 vwCl (wL K a A B σ_4 τ) H := hP
  have hD : va_D (LF a A B) (wL K a A B σ_4 τ) := hD
  refine lv_if_ne (tgt := 31) hx hb d_LS_member_18 (by decide) (fun c_18 => ?_) (fun c_18 => ?_)
  · replace h := itf c_18 h
    refine lv_iload_n hx hb d_LS_member_31 rfl (lv_at hl 2 rfl) ?_
    refine lv_if_lt (tgt := 50) hx hb d_LS_member_32 (by decide) (fun c_32 => ?_) (fun c_32 => ?_)
    · replace h := itp c_32 h
      exact (kne (by decide) h).elim
    · replace h := itf c_32 h
      refine lv_iload_n hx hb d_LS_member_35 rfl (lv_at hl 2 rfl) ?_
      refine lv_aload_n hx hb d_LS_member_36 rfl (lv_at hl 0 rfl) ?_
      refine gflS_10 hx hb hg hown hK hP d_LS_member_37 ?_
      refine gflA_115 hx hb hg hown hK hP d_LS_member_40 ?_
      refine lv_iload_n hx hb d_LS_member_43 rfl (lv_at hl 1 rfl) ?_
      obtain ⟨v_44, σ_44, e_44, h⟩ := bd2_some h
      refine G_calli (A := A) (σ := σ_4) (w1 := ([(a, .inr (0, [.ref (A 0), .ref (B 0)]))] : va_W)) (w2 := (wR K B τ)) (va_runV (As := [.int x1]) (rest := [.int x2]) ⟨hx, hb, hml, hown, hts⟩ (c_Outline_listMembers l K A e_44) (cwV 1 hts (gd_V wd_837 wd_838 wd_839 wd_5 wd_840) rfl rfl rfl dv_Outline_listMembers ⟨Nat.le_of_ble_eq_true rfl, Nat.le_of_ble_eq_true rfl⟩) (R_pv_8 (A := A) hK (mid_P (w1 := ([(a, .inr (0, [.ref (A 0), .ref (B 0)]))] : va_W)) (w2 := (wR K B τ)) hP) (mid_D (w1 := ([(a, .inr (0, [.ref (A 0), .ref (B 0)]))] : va_W)) (w2 := (wR K B τ)) hD (fun _ _ h => wR_in h))) rfl rfl hl.1 rfl (lv_room (Nat.le_of_ble_eq_true rfl)) d_LS_member_44 ⟨Nat.le_of_ble_eq_true rfl, Nat.le_of_ble_eq_true rfl⟩) hP hD hS (fun H locs hP hD hS => ?_)
      have hP : va_P K.1 vwCl (wL K a A B σ_44 τ) H := hP
      have hD : va_D (LF a A B) (wL K a A B σ_44 τ) := hD
      refine lv_icmp_lt (tgt := 60) hx hb d_LS_member_47 (by decide) (fun c_47 => ?_) (fun c_47 => ?_)
      · replace h := itp c_47 h
        refine lv_aload_n hx hb d_LS_member_60 rfl (lv_at hl 0 rfl) ?_
        refine gflS_10 hx hb hg hown hK hP d_LS_member_61 ?_
        refine gflA_97 hx hb hg hown hK hP d_LS_member_64 ?_
        refine gflA_107 hx hb hg hown hK hP d_LS_member_67 ?_
        refine lv_aload_n hx hb d_LS_member_70 rfl (lv_at hl 0 rfl) ?_
        refine gflS_10 hx hb hg hown hK hP d_LS_member_71 ?_
        refine gflA_115 hx hb hg hown hK hP d_LS_member_74 ?_
        refine gflA_143 hx hb hg hown hK hP d_LS_member_77 ?_
        refine lv_iload_n hx hb d_LS_member_80 rfl (lv_at hl 2 rfl) ?_
        obtain ⟨i_81, h⟩ := itn h
        refine ralA_15 hx hb hK hP i_81 d_LS_member_81 ?_
        obtain ⟨i_82, h⟩ := itn h
        refine ralA_4 hx hb hK hP i_82 d_LS_member_82 ?_
        exact hRet _ _ _ h _ _ hP hD hS _ _ d_LS_member_83
      · replace h := itf c_47 h
        exact (kne (by decide) h).elim
  · replace h := itp c_18 h
    exact (kne (by decide) h).elim
set_option maxHeartbeats 4000000 in
set_option maxRecDepth 100000 in
theorem ct_LS_member_3 (l : Launch) (hlt : l.stackTraces = false) (K : Kst) (a : Nat) (A B : Nat → Nat) {σ τ : Sto} {x1 : Int32} {x2 : Int32} {rr : Int32} {ss tt : Sto} (h : p_LanguageServer_member σ τ x1 x2 = some (3, rr, ss, tt)) : MetT l y_LS_member w_LS_member rt_LS_member (va_Pc [.ref a, .int x1, .int x2] (LB K a A B σ τ)) "java/util/NoSuchElementException" (LB K a A B ss tt) (LF a A B) 1 6 (LF a A B) := by
  refine MetT.ofW (cc := b_LS_member) (maxL := 3) (ret := (some .int)) (by decide) rfl ?_
  intro p e s m args below meth c s₁ Bd hml hemp hv
  obtain ⟨rfl, hP, hLK, hD⟩ := hv
  have hK := hLK.1
  have hx := Bd.exec
  have hb := Bd.bytes
  have hr := Bd.returns
  have hts := atoms_spec (ws := w_LS_member) Bd.pre
  have hg : ∀ w ∈ Tg, w.before _ s = true := fun w q => hts w (List.mem_cons_of_mem _ q)
  have hown : s.vm.findClass "LanguageServer" = some m.cls := findClass_of_methodNamed Bd.named
  have hlocks := Bd.notSynchronized
  have hFs := noSt hP (F := LF a A B) (fun q h => L_in h)
  have hS : va_S (LF a A B) s.heap s.heap [] := va_S.rf
  have hl := lv_entry ([.ref a, .int x1, .int x2]) (n := 3) (Nat.le_of_ble_eq_true rfl)
  rw [lg_entry_eq]
  generalize (lg_sl ([.ref a, .int x1, .int x2]) ++ List.replicate (3 - (lg_sl ([.ref a, .int x1, .int x2])).length) Slot.unset).toArray = ls at hl ⊢
  have hl : lv_has ls 3 [(0, .ref a), (1, .int x1), (2, .int x2)] := hl
  generalize hargs : ([.ref a, .int x1, .int x2] : List Value).toArray = args at hg hts ⊢
  unfold p_LanguageServer_member at h
  refine lv_aload_n hx hb d_LS_member_0 rfl (lv_at hl 0 rfl) ?_
  refine gflS_10 hx hb hg hown hK hP d_LS_member_1 ?_
  obtain ⟨σ_4, e_4, h⟩ := bd1_some h
  refine G_callv (A := A) (σ := σ) (w1 := ([(a, .inr (0, [.ref (A 0), .ref (B 0)]))] : va_W)) (w2 := (wR K B τ)) (va_runV (As := []) (rest := []) ⟨hx, hb, hml, hown, hts⟩ (c_Reading_refresh l K A e_4) (cwV 0 hts (gd_V wd_309 wd_310 wd_311 wd_2 wd_312) rfl rfl rfl dv_Reading_refresh ⟨Nat.le_of_ble_eq_true rfl, Nat.le_of_ble_eq_true rfl⟩) (R_pv_0 (A := A) hK (mid_P (w1 := ([(a, .inr (0, [.ref (A 0), .ref (B 0)]))] : va_W)) (w2 := (wR K B τ)) hP) (mid_D (w1 := ([(a, .inr (0, [.ref (A 0), .ref (B 0)]))] : va_W)) (w2 := (wR K B τ)) hD (fun _ _ h => wR_in h))) rfl rfl hl.1 rfl (lv_room (Nat.le_of_ble_eq_true rfl)) d_LS_member_4 ⟨Nat.le_of_ble_eq_true rfl, Nat.le_of_ble_eq_true rfl⟩) hP hD hS (fun H locs hP hD hS => ?_)
  have hP : va_P K.1 vwCl (wL K a A B σ_4 τ) H := hP
  have hD : va_D (LF a A B) (wL K a A B σ_4 τ) := hD
  refine lv_aload_n hx hb d_LS_member_7 rfl (lv_at hl 0 rfl) ?_
  refine gflS_10 hx hb hg hown hK hP d_LS_member_8 ?_
  refine gflA_115 hx hb hg hown hK hP d_LS_member_11 ?_
  refine lv_iload_n hx hb d_LS_member_14 rfl (lv_at hl 1 rfl) ?_
  obtain ⟨v_15, e_15, h⟩ := bd1_some h
  refine G_calli (A := A) (σ := σ_4) (w1 := ([(a, .inr (0, [.ref (A 0), .ref (B 0)]))] : va_W)) (w2 := (wR K B τ)) (va_runV (As := [.int x1]) (rest := []) ⟨hx, hb, hml, hown, hts⟩ (c_Outline_isClass l K A e_15) (cwV 1 hts (gd_V wd_835 wd_503 wd_504 wd_5 wd_505) rfl rfl rfl dv_Outline_isClass ⟨Nat.le_of_ble_eq_true rfl, Nat.le_of_ble_eq_true rfl⟩) (R_pv_8 (A := A) hK (mid_P (w1 := ([(a, .inr (0, [.ref (A 0), .ref (B 0)]))] : va_W)) (w2 := (wR K B τ)) hP) (mid_D (w1 := ([(a, .inr (0, [.ref (A 0), .ref (B 0)]))] : va_W)) (w2 := (wR K B τ)) hD (fun _ _ h => wR_in h))) rfl rfl hl.1 rfl (lv_room (Nat.le_of_ble_eq_true rfl)) d_LS_member_15 ⟨Nat.le_of_ble_eq_true rfl, Nat.le_of_ble_eq_true rfl⟩) hP hD hS (fun H locs hP hD hS => ?_)
  have hP : va_P K.1 vwCl (wL K a A B σ_4 τ) H := hP
  have hD : va_D (LF a A B) (wL K a A B σ_4 τ) := hD
  refine lv_if_ne (tgt := 31) hx hb d_LS_member_18 (by decide) (fun c_18 => ?_) (fun c_18 => ?_)
  · replace h := itf c_18 h
    refine lv_iload_n hx hb d_LS_member_31 rfl (lv_at hl 2 rfl) ?_
    refine lv_if_lt (tgt := 50) hx hb d_LS_member_32 (by decide) (fun c_32 => ?_) (fun c_32 => ?_)
    · replace h := itp c_32 h
      cases h
      exact T_throw (own := "LanguageServer") (X := "java/util/NoSuchElementException") (text := "no member at this index") hx hb hlt hown (by decide +kernel) (xat_NSE hg hLK.2.1 hLK.2.2) dx_NSE_0 dx_NSE_1 dx_NSE_2 dx_NSE_5 (hg _ wd_745) (hg _ wd_17) (hLK.2.1.2.2 (141, "no member at this index") (by decide)) (hl.1.trans hml.symm) hemp hlocks hS hFs (fun t hW hz hk => LB_of hLK hS hP hD hW hk) hS.2.2 (Nat.le_of_ble_eq_true rfl) (Nat.le_of_ble_eq_true rfl) (Nat.le_of_ble_eq_true rfl) (Nat.le_of_ble_eq_true rfl) (Nat.le_of_ble_eq_true rfl) (Nat.le_of_ble_eq_true rfl) d_LS_member_50 d_LS_member_53 d_LS_member_54 d_LS_member_56 d_LS_member_59
    · replace h := itf c_32 h
      refine lv_iload_n hx hb d_LS_member_35 rfl (lv_at hl 2 rfl) ?_
      refine lv_aload_n hx hb d_LS_member_36 rfl (lv_at hl 0 rfl) ?_
      refine gflS_10 hx hb hg hown hK hP d_LS_member_37 ?_
      refine gflA_115 hx hb hg hown hK hP d_LS_member_40 ?_
      refine lv_iload_n hx hb d_LS_member_43 rfl (lv_at hl 1 rfl) ?_
      obtain ⟨v_44, σ_44, e_44, h⟩ := bd2_some h
      refine G_calli (A := A) (σ := σ_4) (w1 := ([(a, .inr (0, [.ref (A 0), .ref (B 0)]))] : va_W)) (w2 := (wR K B τ)) (va_runV (As := [.int x1]) (rest := [.int x2]) ⟨hx, hb, hml, hown, hts⟩ (c_Outline_listMembers l K A e_44) (cwV 1 hts (gd_V wd_837 wd_838 wd_839 wd_5 wd_840) rfl rfl rfl dv_Outline_listMembers ⟨Nat.le_of_ble_eq_true rfl, Nat.le_of_ble_eq_true rfl⟩) (R_pv_8 (A := A) hK (mid_P (w1 := ([(a, .inr (0, [.ref (A 0), .ref (B 0)]))] : va_W)) (w2 := (wR K B τ)) hP) (mid_D (w1 := ([(a, .inr (0, [.ref (A 0), .ref (B 0)]))] : va_W)) (w2 := (wR K B τ)) hD (fun _ _ h => wR_in h))) rfl rfl hl.1 rfl (lv_room (Nat.le_of_ble_eq_true rfl)) d_LS_member_44 ⟨Nat.le_of_ble_eq_true rfl, Nat.le_of_ble_eq_true rfl⟩) hP hD hS (fun H locs hP hD hS => ?_)
      have hP : va_P K.1 vwCl (wL K a A B σ_44 τ) H := hP
      have hD : va_D (LF a A B) (wL K a A B σ_44 τ) := hD
      refine lv_icmp_lt (tgt := 60) hx hb d_LS_member_47 (by decide) (fun c_47 => ?_) (fun c_47 => ?_)
      · replace h := itp c_47 h
        refine lv_aload_n hx hb d_LS_member_60 rfl (lv_at hl 0 rfl) ?_
        refine gflS_10 hx hb hg hown hK hP d_LS_member_61 ?_
        refine gflA_97 hx hb hg hown hK hP d_LS_member_64 ?_
        refine gflA_107 hx hb hg hown hK hP d_LS_member_67 ?_
        refine lv_aload_n hx hb d_LS_member_70 rfl (lv_at hl 0 rfl) ?_
        refine gflS_10 hx hb hg hown hK hP d_LS_member_71 ?_
        refine gflA_115 hx hb hg hown hK hP d_LS_member_74 ?_
        refine gflA_143 hx hb hg hown hK hP d_LS_member_77 ?_
        refine lv_iload_n hx hb d_LS_member_80 rfl (lv_at hl 2 rfl) ?_
        obtain ⟨i_81, h⟩ := itn h
        refine ralA_15 hx hb hK hP i_81 d_LS_member_81 ?_
        obtain ⟨i_82, h⟩ := itn h
        refine ralA_4 hx hb hK hP i_82 d_LS_member_82 ?_
        exact (kne (by decide) h).elim
      · replace h := itf c_47 h
        cases h
        exact T_throw (own := "LanguageServer") (X := "java/util/NoSuchElementException") (text := "no member at this index") hx hb hlt hown (by decide +kernel) (xat_NSE hg hLK.2.1 hLK.2.2) dx_NSE_0 dx_NSE_1 dx_NSE_2 dx_NSE_5 (hg _ wd_745) (hg _ wd_17) (hLK.2.1.2.2 (141, "no member at this index") (by decide)) (hl.1.trans hml.symm) hemp hlocks hS hFs (fun t hW hz hk => LB_of hLK hS hP hD hW hk) hS.2.2 (Nat.le_of_ble_eq_true rfl) (Nat.le_of_ble_eq_true rfl) (Nat.le_of_ble_eq_true rfl) (Nat.le_of_ble_eq_true rfl) (Nat.le_of_ble_eq_true rfl) (Nat.le_of_ble_eq_true rfl) d_LS_member_50 d_LS_member_53 d_LS_member_54 d_LS_member_56 d_LS_member_59
  · replace h := itp c_18 h
    cases h
    exact T_throw (own := "LanguageServer") (X := "java/util/NoSuchElementException") (text := "no such class") hx hb hlt hown (by decide +kernel) (xat_NSE hg hLK.2.1 hLK.2.2) dx_NSE_0 dx_NSE_1 dx_NSE_2 dx_NSE_5 (hg _ wd_745) (hg _ wd_17) (hLK.2.1.2.2 (136, "no such class") (by decide)) (hl.1.trans hml.symm) hemp hlocks hS hFs (fun t hW hz hk => LB_of hLK hS hP hD hW hk) hS.2.2 (Nat.le_of_ble_eq_true rfl) (Nat.le_of_ble_eq_true rfl) (Nat.le_of_ble_eq_true rfl) (Nat.le_of_ble_eq_true rfl) (Nat.le_of_ble_eq_true rfl) (Nat.le_of_ble_eq_true rfl) d_LS_member_21 d_LS_member_24 d_LS_member_25 d_LS_member_27 d_LS_member_30
def p_LanguageServer_rename (σ τ : Sto) (x1 : Int32) (x2 : Int64) (x4 : Int32) : Option Lr :=
  bd1 (p_Reading_refresh σ) fun σ_4 =>
    bdx (p_LanguageServer_declarationFor σ_4 τ x1) fun v_9 σ_9 τ_9 =>
    (if x4 < 1 then
      some (1, 0, σ_9, τ_9)
    else
      (if (8 : Int32) < x4 then
        some (1, 0, σ_9, τ_9)
      else
        bd1 (p_Tokens_isName x2 x4) fun v_30 =>
        (if v_30 = 0 then
          some (1, 0, σ_9, τ_9)
        else
          bd1 (p_Reading_uses σ_9 v_9) fun v_52 =>
          if inR v_9 121 then if inR v_9 121 then (if ((σ_9.1 1) + (v_52 * (x4 - ((σ_9.2.1 5 v_9.toNatClampNeg) - (σ_9.2.1 4 v_9.toNatClampNeg))))) ≤ 240 then
            bd1 (p_Reading_takeRenamed τ_9 σ_9 v_9 x2 x4) fun σ_134 =>
            bd1 (p_Reading_refresh σ_134) fun σ_141 =>
            bd1 (p_Reading_agreesWith σ_141 σ_9 v_9) fun v_154 =>
            (if v_154 = 0 then
              some (2, 0, σ_9, σ_141)
            else
              some (4, v_52, σ_9, σ_141))
          else
            some (2, 0, σ_9, τ_9)) else none else none)))
abbrev w_LS_rename : List Cond := Cond.code y_LS_rename b_LS_rename 9 (some .int) :: Tg
abbrev r_LS_rename : Room := { frames := 7, cells := 0, slots := 0, locals := 162 }
abbrev rt_LS_rename : Room := { frames := 7, cells := 1, slots := 6, locals := 162 }
theorem dv_LS_rename : y_LS_rename.cls = "LanguageServer" ∧ y_LS_rename.cls ≠ "java/lang/invoke/MethodHandle" ∧ y_LS_rename.cls ≠ "java/lang/invoke/VarHandle" ∧ (parseMethodDescriptor y_LS_rename.desc).map (fun d => d.parameters.length) = some 3 := by decide +kernel
set_option maxHeartbeats 4000000 in
set_option maxRecDepth 100000 in
theorem ct_LS_rename_1 (l : Launch) (hlt : l.stackTraces = false) (K : Kst) (a : Nat) (A B : Nat → Nat) {σ τ : Sto} {x1 : Int32} {x2 : Int64} {x4 : Int32} {rr : Int32} {ss tt : Sto} (h : p_LanguageServer_rename σ τ x1 x2 x4 = some (1, rr, ss, tt)) : MetT l y_LS_rename w_LS_rename rt_LS_rename (va_Pc [.ref a, .int x1, .long x2, .int x4] (LB K a A B σ τ)) "java/lang/IllegalArgumentException" (LB K a A B ss tt) (LF a A B) 1 6 (LF a A B) := by
  refine MetT.ofW (cc := b_LS_rename) (maxL := 9) (ret := (some .int)) (by decide) rfl ?_
  intro p e s m args below meth c s₁ Bd hml hemp hv
  obtain ⟨rfl, hP, hLK, hD⟩ := hv
  have hK := hLK.1
  have hx := Bd.exec
  have hb := Bd.bytes
  have hr := Bd.returns
  have hts := atoms_spec (ws := w_LS_rename) Bd.pre
  have hg : ∀ w ∈ Tg, w.before _ s = true := fun w q => hts w (List.mem_cons_of_mem _ q)
  have hown : s.vm.findClass "LanguageServer" = some m.cls := findClass_of_methodNamed Bd.named
  have hlocks := Bd.notSynchronized
  have hFs := noSt hP (F := LF a A B) (fun q h => L_in h)
  have hS : va_S (LF a A B) s.heap s.heap [] := va_S.rf
  have hl := lv_entry ([.ref a, .int x1, .long x2, .int x4]) (n := 9) (Nat.le_of_ble_eq_true rfl)
  rw [lg_entry_eq]
  generalize (lg_sl ([.ref a, .int x1, .long x2, .int x4]) ++ List.replicate (9 - (lg_sl ([.ref a, .int x1, .long x2, .int x4])).length) Slot.unset).toArray = ls at hl ⊢
  have hl : lv_has ls 9 [(0, .ref a), (1, .int x1), (2, .long x2), (4, .int x4)] := hl
  generalize hargs : ([.ref a, .int x1, .long x2, .int x4] : List Value).toArray = args at hg hts ⊢
  unfold p_LanguageServer_rename at h
  refine lv_aload_n hx hb d_LS_rename_0 rfl (lv_at hl 0 rfl) ?_
  refine gflS_10 hx hb hg hown hK hP d_LS_rename_1 ?_
  obtain ⟨σ_4, e_4, h⟩ := bd1_some h
  refine G_callv (A := A) (σ := σ) (w1 := ([(a, .inr (0, [.ref (A 0), .ref (B 0)]))] : va_W)) (w2 := (wR K B τ)) (va_runV (As := []) (rest := []) ⟨hx, hb, hml, hown, hts⟩ (c_Reading_refresh l K A e_4) (cwV 0 hts (gd_V wd_309 wd_310 wd_311 wd_2 wd_312) rfl rfl rfl dv_Reading_refresh ⟨Nat.le_of_ble_eq_true rfl, Nat.le_of_ble_eq_true rfl⟩) (R_pv_0 (A := A) hK (mid_P (w1 := ([(a, .inr (0, [.ref (A 0), .ref (B 0)]))] : va_W)) (w2 := (wR K B τ)) hP) (mid_D (w1 := ([(a, .inr (0, [.ref (A 0), .ref (B 0)]))] : va_W)) (w2 := (wR K B τ)) hD (fun _ _ h => wR_in h))) rfl rfl hl.1 rfl (lv_room (Nat.le_of_ble_eq_true rfl)) d_LS_rename_4 ⟨Nat.le_of_ble_eq_true rfl, Nat.le_of_ble_eq_true rfl⟩) hP hD hS (fun H locs hP hD hS => ?_)
  have hP : va_P K.1 vwCl (wL K a A B σ_4 τ) H := hP
  have hD : va_D (LF a A B) (wL K a A B σ_4 τ) := hD
  refine lv_aload_n hx hb d_LS_rename_7 rfl (lv_at hl 0 rfl) ?_
  refine lv_iload_n hx hb d_LS_rename_8 rfl (lv_at hl 1 rfl) ?_
  rcases bdx_k (by decide) h with ⟨v_9, σ_9, τ_9, e_9, h⟩ | e_9
  · refine L_calli (va_runV (As := [.int x1]) (rest := []) ⟨hx, hb, hml, hown, hts⟩ (c_LS_declarationFor l K a A B e_9) (cwV 1 hts (gd_V wd_789 wd_791 wp_41 wd_1 wd_792) rfl rfl rfl dv_LS_declarationFor ⟨Nat.le_of_ble_eq_true rfl, Nat.le_of_ble_eq_true rfl⟩) (L_pv hLK hS hP hD) rfl rfl hl.1 rfl (lv_room (Nat.le_of_ble_eq_true rfl)) d_LS_rename_9 ⟨Nat.le_of_ble_eq_true rfl, Nat.le_of_ble_eq_true rfl⟩) hS (fun H locs hP hD hS => ?_)
    refine lv_istore (lv' := [(5, .int v_9), (0, .ref a), (1, .int x1), (2, .long x2), (4, .int x4)]) hx hb d_LS_rename_12 hl (by decide) rfl (fun ls hl => ?_)
    refine lv_iload hx hb d_LS_rename_14 (lv_at hl 4 rfl) ?_
    refine lv_iconst (v := 1) hx hb d_LS_rename_16 (by decide) ?_
    refine lv_icmp_lt (tgt := 36) hx hb d_LS_rename_17 (by decide) (fun c_17 => ?_) (fun c_17 => ?_)
    · replace h := itp c_17 h
      cases h
      exact T_throw (own := "LanguageServer") (X := "java/lang/IllegalArgumentException") (text := "this is no name") hx hb hlt hown (by decide +kernel) (xat_IAE hg hLK.2.1 hLK.2.2) dx_IAE_0 dx_IAE_1 dx_IAE_2 dx_IAE_5 (hg _ wd_606) (hg _ wd_14) (hLK.2.1.2.2 (149, "this is no name") (by decide)) (hl.1.trans hml.symm) hemp hlocks hS hFs (fun t hW hz hk => LB_of hLK hS hP hD hW hk) hS.2.2 (Nat.le_of_ble_eq_true rfl) (Nat.le_of_ble_eq_true rfl) (Nat.le_of_ble_eq_true rfl) (Nat.le_of_ble_eq_true rfl) (Nat.le_of_ble_eq_true rfl) (Nat.le_of_ble_eq_true rfl) d_LS_rename_36 d_LS_rename_39 d_LS_rename_40 d_LS_rename_42 d_LS_rename_45
    · replace h := itf c_17 h
      refine lv_iload hx hb d_LS_rename_20 (lv_at hl 4 rfl) ?_
      refine lv_bipush (v := 8) hx hb d_LS_rename_22 (by decide) ?_
      refine lv_icmp_gt (tgt := 36) hx hb d_LS_rename_24 (by decide) (fun c_24 => ?_) (fun c_24 => ?_)
      · replace h := itp c_24 h
        cases h
        exact T_throw (own := "LanguageServer") (X := "java/lang/IllegalArgumentException") (text := "this is no name") hx hb hlt hown (by decide +kernel) (xat_IAE hg hLK.2.1 hLK.2.2) dx_IAE_0 dx_IAE_1 dx_IAE_2 dx_IAE_5 (hg _ wd_606) (hg _ wd_14) (hLK.2.1.2.2 (149, "this is no name") (by decide)) (hl.1.trans hml.symm) hemp hlocks hS hFs (fun t hW hz hk => LB_of hLK hS hP hD hW hk) hS.2.2 (Nat.le_of_ble_eq_true rfl) (Nat.le_of_ble_eq_true rfl) (Nat.le_of_ble_eq_true rfl) (Nat.le_of_ble_eq_true rfl) (Nat.le_of_ble_eq_true rfl) (Nat.le_of_ble_eq_true rfl) d_LS_rename_36 d_LS_rename_39 d_LS_rename_40 d_LS_rename_42 d_LS_rename_45
      · replace h := itf c_24 h
        refine lv_lload_n hx hb d_LS_rename_27 rfl (lv_at hl 3 rfl) ?_
        refine lv_iload hx hb d_LS_rename_28 (lv_at hl 4 rfl) ?_
        obtain ⟨v_30, e_30, h⟩ := bd1_some h
        refine R_cpi (va_runS (As := [.long x2, .int x4]) (rest := []) ⟨hx, hb, hml, hown, hts⟩ (c_Tokens_isName l e_30) (va_cwS 2 hts (gd_S wd_864 wd_865 wd_4 wd_866) rfl rfl rfl ds_Tokens_isName ⟨Nat.le_of_ble_eq_true rfl, Nat.le_of_ble_eq_true rfl⟩) (P_ps hK.2) rfl rfl hl.1 rfl (lv_room (Nat.le_of_ble_eq_true rfl)) d_LS_rename_30 ⟨Nat.le_of_ble_eq_true rfl, Nat.le_of_ble_eq_true rfl⟩) hP hD hS (fun H locs hP hD hS => ?_)
        refine lv_if_ne (tgt := 46) hx hb d_LS_rename_33 (by decide) (fun c_33 => ?_) (fun c_33 => ?_)
        · replace h := itf c_33 h
          refine lv_aload_n hx hb d_LS_rename_46 rfl (lv_at hl 1 rfl) ?_
          refine gflS_10 hx hb hg hown hK hP d_LS_rename_47 ?_
          refine lv_iload hx hb d_LS_rename_50 (lv_at hl 0 rfl) ?_
          obtain ⟨v_52, e_52, h⟩ := bd1_some h
          refine G_calli (A := A) (σ := σ_9) (w1 := ([(a, .inr (0, [.ref (A 0), .ref (B 0)]))] : va_W)) (w2 := (wR K B τ_9)) (va_runV (As := [.int v_9]) (rest := []) ⟨hx, hb, hml, hown, hts⟩ (c_Reading_uses l K A e_52) (cwV 1 hts (gd_V wd_812 wd_813 wd_814 wd_2 wd_815) rfl rfl rfl dv_Reading_uses ⟨Nat.le_of_ble_eq_true rfl, Nat.le_of_ble_eq_true rfl⟩) (R_pv_0 (A := A) hK (mid_P (w1 := ([(a, .inr (0, [.ref (A 0), .ref (B 0)]))] : va_W)) (w2 := (wR K B τ_9)) hP) (mid_D (w1 := ([(a, .inr (0, [.ref (A 0), .ref (B 0)]))] : va_W)) (w2 := (wR K B τ_9)) hD (fun _ _ h => wR_in h))) rfl rfl hl.1 rfl (lv_room (Nat.le_of_ble_eq_true rfl)) d_LS_rename_52 ⟨Nat.le_of_ble_eq_true rfl, Nat.le_of_ble_eq_true rfl⟩) hP hD hS (fun H locs hP hD hS => ?_)
          have hP : va_P K.1 vwCl (wL K a A B σ_9 τ_9) H := hP
          have hD : va_D (LF a A B) (wL K a A B σ_9 τ_9) := hD
          refine lv_istore (lv' := [(6, .int v_52), (5, .int v_9), (0, .ref a), (1, .int x1), (2, .long x2), (4, .int x4)]) hx hb d_LS_rename_55 hl (by decide) rfl (fun ls hl => ?_)
          refine lv_iload hx hb d_LS_rename_57 (lv_at hl 5 rfl) ?_
          refine lv_aload_n hx hb d_LS_rename_59 rfl (lv_at hl 2 rfl) ?_
          refine gflS_10 hx hb hg hown hK hP d_LS_rename_60 ?_
          refine gflA_97 hx hb hg hown hK hP d_LS_rename_63 ?_
          refine gflA_151 hx hb hg hown hK hP d_LS_rename_66 ?_
          refine lv_iload hx hb d_LS_rename_69 (lv_at hl 1 rfl) ?_
          obtain ⟨i_71, h⟩ := itn h
          refine ralA_5 hx hb hK hP i_71 d_LS_rename_71 ?_
          refine lv_aload_n hx hb d_LS_rename_72 rfl (lv_at hl 2 rfl) ?_
          refine gflS_10 hx hb hg hown hK hP d_LS_rename_73 ?_
          refine gflA_97 hx hb hg hown hK hP d_LS_rename_76 ?_
          refine gflA_107 hx hb hg hown hK hP d_LS_rename_79 ?_
          refine lv_iload hx hb d_LS_rename_82 (lv_at hl 1 rfl) ?_
          obtain ⟨i_84, h⟩ := itn h
          refine ralA_4 hx hb hK hP i_84 d_LS_rename_84 ?_
          refine lv_isub hx hb d_LS_rename_85 ?_
          refine lv_isub hx hb d_LS_rename_86 ?_
          refine lv_istore (lv' := [(7, .int (x4 - ((σ_9.2.1 5 v_9.toNatClampNeg) - (σ_9.2.1 4 v_9.toNatClampNeg)))), (6, .int v_52), (5, .int v_9), (0, .ref a), (1, .int x1), (2, .long x2), (4, .int x4)]) hx hb d_LS_rename_87 hl (by decide) rfl (fun ls hl => ?_)
          refine lv_aload_n hx hb d_LS_rename_89 rfl (lv_at hl 3 rfl) ?_
          refine gflS_10 hx hb hg hown hK hP d_LS_rename_90 ?_
          refine gflA_19 hx hb hg hown hK hP d_LS_rename_93 ?_
          refine gflA_23 hx hb hg hown hK hP d_LS_rename_96 ?_
          refine lv_iload hx hb d_LS_rename_99 (lv_at hl 1 rfl) ?_
          refine lv_iload hx hb d_LS_rename_101 (lv_at hl 0 rfl) ?_
          refine lv_imul hx hb d_LS_rename_103 ?_
          refine lv_iadd hx hb d_LS_rename_104 ?_
          refine lv_sipush (v := 240) hx hb d_LS_rename_105 (by decide) ?_
          refine lv_icmp_le (tgt := 121) hx hb d_LS_rename_108 (by decide) (fun c_108 => ?_) (fun c_108 => ?_)
          · replace h := itp c_108 h
            refine lv_aload_n hx hb d_LS_rename_121 rfl (lv_at hl 3 rfl) ?_
            refine gflS_16 hx hb hg hown hK hP d_LS_rename_122 ?_
            refine lv_aload_n hx hb d_LS_rename_125 rfl (lv_at hl 3 rfl) ?_
            refine gflS_10 hx hb hg hown hK hP d_LS_rename_126 ?_
            refine lv_iload hx hb d_LS_rename_129 (lv_at hl 2 rfl) ?_
            refine lv_lload_n hx hb d_LS_rename_131 rfl (lv_at hl 5 rfl) ?_
            refine lv_iload hx hb d_LS_rename_132 (lv_at hl 6 rfl) ?_
            obtain ⟨σ_134, e_134, h⟩ := bd1_some h
            refine L_rrv (va_runV (As := [.ref (A 0), .int v_9, .long x2, .int x4]) (rest := []) ⟨hx, hb, hml, hown, hts⟩ (c_Reading_takeRenamed l K B A e_134) (cwV 4 hts (gd_V wd_869 wd_870 wd_871 wd_2 wd_872) rfl rfl rfl dv_Reading_takeRenamed ⟨Nat.le_of_ble_eq_true rfl, Nat.le_of_ble_eq_true rfl⟩) (L_rrpv hK hP hD) rfl rfl hl.1 rfl (lv_room (Nat.le_of_ble_eq_true rfl)) d_LS_rename_134 ⟨Nat.le_of_ble_eq_true rfl, Nat.le_of_ble_eq_true rfl⟩) hP hD hS (fun H locs hP hD hS => ?_)
            refine lv_aload_n hx hb d_LS_rename_137 rfl (lv_at hl 3 rfl) ?_
            refine gflS_16 hx hb hg hown hK hP d_LS_rename_138 ?_
            obtain ⟨σ_141, e_141, h⟩ := bd1_some h
            refine G_callv (A := B) (σ := σ_134) (w1 := ((a, .inr (0, [.ref (A 0), .ref (B 0)])) :: wR K A σ_9 : va_W)) (w2 := ([] : va_W)) (va_runV (As := []) (rest := []) ⟨hx, hb, hml, hown, hts⟩ (c_Reading_refresh l K B e_141) (cwV 0 hts (gd_V wd_309 wd_310 wd_311 wd_2 wd_312) rfl rfl rfl dv_Reading_refresh ⟨Nat.le_of_ble_eq_true rfl, Nat.le_of_ble_eq_true rfl⟩) (R_pv_0 (A := B) hK (mid_P (w1 := ((a, .inr (0, [.ref (A 0), .ref (B 0)])) :: wR K A σ_9 : va_W)) (w2 := ([] : va_W)) hP) (mid_D (w1 := ((a, .inr (0, [.ref (A 0), .ref (B 0)])) :: wR K A σ_9 : va_W)) (w2 := ([] : va_W)) hD (fun _ _ h => wR_in h))) rfl rfl hl.1 rfl (lv_room (Nat.le_of_ble_eq_true rfl)) d_LS_rename_141 ⟨Nat.le_of_ble_eq_true rfl, Nat.le_of_ble_eq_true rfl⟩) hP hD hS (fun H locs hP hD hS => ?_)
            have hP : va_P K.1 vwCl (wL K a A B σ_9 σ_141) H := hP
            have hD : va_D (LF a A B) (wL K a A B σ_9 σ_141) := hD
            refine lv_aload_n hx hb d_LS_rename_144 rfl (lv_at hl 3 rfl) ?_
            refine gflS_16 hx hb hg hown hK hP d_LS_rename_145 ?_
            refine lv_aload_n hx hb d_LS_rename_148 rfl (lv_at hl 3 rfl) ?_
            refine gflS_10 hx hb hg hown hK hP d_LS_rename_149 ?_
            refine lv_iload hx hb d_LS_rename_152 (lv_at hl 2 rfl) ?_
            obtain ⟨v_154, e_154, h⟩ := bd1_some h
            refine L_rri (va_runV (As := [.ref (A 0), .int v_9]) (rest := []) ⟨hx, hb, hml, hown, hts⟩ (c_Reading_agreesWith l K B A e_154) (cwV 2 hts (gd_V wd_879 wd_880 wd_881 wd_2 wd_882) rfl rfl rfl dv_Reading_agreesWith ⟨Nat.le_of_ble_eq_true rfl, Nat.le_of_ble_eq_true rfl⟩) (L_rrpv hK hP hD) rfl rfl hl.1 rfl (lv_room (Nat.le_of_ble_eq_true rfl)) d_LS_rename_154 ⟨Nat.le_of_ble_eq_true rfl, Nat.le_of_ble_eq_true rfl⟩) hP hD hS (fun H locs hP hD hS => ?_)
            refine lv_if_ne (tgt := 170) hx hb d_LS_rename_157 (by decide) (fun c_157 => ?_) (fun c_157 => ?_)
            · replace h := itf c_157 h
              refine lv_aload_n hx hb d_LS_rename_170 rfl (lv_at hl 3 rfl) ?_
              refine gflS_10 hx hb hg hown hK hP d_LS_rename_171 ?_
              refine lv_astore (lv' := [(8, .ref (A 0)), (7, .int (x4 - ((σ_9.2.1 5 v_9.toNatClampNeg) - (σ_9.2.1 4 v_9.toNatClampNeg)))), (6, .int v_52), (5, .int v_9), (0, .ref a), (1, .int x1), (2, .long x2), (4, .int x4)]) hx hb d_LS_rename_174 hl (by decide) rfl (fun ls hl => ?_)
              refine lv_aload_n hx hb d_LS_rename_176 rfl (lv_at hl 4 rfl) ?_
              refine lv_aload_n hx hb d_LS_rename_177 rfl (lv_at hl 4 rfl) ?_
              refine gflS_16 hx hb hg hown hK hP d_LS_rename_178 ?_
              refine pfl_10 hx hb hg hown hK hP hD hS d_LS_rename_181 (fun H locs hP hD hS => ?_)
              refine lv_aload_n hx hb d_LS_rename_184 rfl (lv_at hl 4 rfl) ?_
              refine lv_aload hx hb d_LS_rename_185 (lv_at hl 0 rfl) ?_
              refine pfl_16 hx hb hg hown hK hP hD hS d_LS_rename_187 (fun H locs hP hD hS => ?_)
              refine lv_iload hx hb d_LS_rename_190 (lv_at hl 2 rfl) ?_
              exact (kne (by decide) h).elim
            · replace h := itp c_157 h
              exact (kne (by decide) h).elim
          · replace h := itf c_108 h
            exact (kne (by decide) h).elim
        · replace h := itp c_33 h
          cases h
          exact T_throw (own := "LanguageServer") (X := "java/lang/IllegalArgumentException") (text := "this is no name") hx hb hlt hown (by decide +kernel) (xat_IAE hg hLK.2.1 hLK.2.2) dx_IAE_0 dx_IAE_1 dx_IAE_2 dx_IAE_5 (hg _ wd_606) (hg _ wd_14) (hLK.2.1.2.2 (149, "this is no name") (by decide)) (hl.1.trans hml.symm) hemp hlocks hS hFs (fun t hW hz hk => LB_of hLK hS hP hD hW hk) hS.2.2 (Nat.le_of_ble_eq_true rfl) (Nat.le_of_ble_eq_true rfl) (Nat.le_of_ble_eq_true rfl) (Nat.le_of_ble_eq_true rfl) (Nat.le_of_ble_eq_true rfl) (Nat.le_of_ble_eq_true rfl) d_LS_rename_36 d_LS_rename_39 d_LS_rename_40 d_LS_rename_42 d_LS_rename_45
  · exact absurd (decl_codes e_9) (by decide)
set_option maxHeartbeats 4000000 in
set_option maxRecDepth 100000 in
theorem ct_LS_rename_2 (l : Launch) (hlt : l.stackTraces = false) (K : Kst) (a : Nat) (A B : Nat → Nat) {σ τ : Sto} {x1 : Int32} {x2 : Int64} {x4 : Int32} {rr : Int32} {ss tt : Sto} (h : p_LanguageServer_rename σ τ x1 x2 x4 = some (2, rr, ss, tt)) : MetT l y_LS_rename w_LS_rename rt_LS_rename (va_Pc [.ref a, .int x1, .long x2, .int x4] (LB K a A B σ τ)) "java/lang/IllegalStateException" (LB K a A B ss tt) (LF a A B) 1 6 (LF a A B) := by
  refine MetT.ofW (cc := b_LS_rename) (maxL := 9) (ret := (some .int)) (by decide) rfl ?_
  intro p e s m args below meth c s₁ Bd hml hemp hv
  obtain ⟨rfl, hP, hLK, hD⟩ := hv
  have hK := hLK.1
  have hx := Bd.exec
  have hb := Bd.bytes
  have hr := Bd.returns
  have hts := atoms_spec (ws := w_LS_rename) Bd.pre
  have hg : ∀ w ∈ Tg, w.before _ s = true := fun w q => hts w (List.mem_cons_of_mem _ q)
  have hown : s.vm.findClass "LanguageServer" = some m.cls := findClass_of_methodNamed Bd.named
  have hlocks := Bd.notSynchronized
  have hFs := noSt hP (F := LF a A B) (fun q h => L_in h)
  have hS : va_S (LF a A B) s.heap s.heap [] := va_S.rf
  have hl := lv_entry ([.ref a, .int x1, .long x2, .int x4]) (n := 9) (Nat.le_of_ble_eq_true rfl)
  rw [lg_entry_eq]
  generalize (lg_sl ([.ref a, .int x1, .long x2, .int x4]) ++ List.replicate (9 - (lg_sl ([.ref a, .int x1, .long x2, .int x4])).length) Slot.unset).toArray = ls at hl ⊢
  have hl : lv_has ls 9 [(0, .ref a), (1, .int x1), (2, .long x2), (4, .int x4)] := hl
  generalize hargs : ([.ref a, .int x1, .long x2, .int x4] : List Value).toArray = args at hg hts ⊢
  unfold p_LanguageServer_rename at h
  refine lv_aload_n hx hb d_LS_rename_0 rfl (lv_at hl 0 rfl) ?_
  refine gflS_10 hx hb hg hown hK hP d_LS_rename_1 ?_
  obtain ⟨σ_4, e_4, h⟩ := bd1_some h
  refine G_callv (A := A) (σ := σ) (w1 := ([(a, .inr (0, [.ref (A 0), .ref (B 0)]))] : va_W)) (w2 := (wR K B τ)) (va_runV (As := []) (rest := []) ⟨hx, hb, hml, hown, hts⟩ (c_Reading_refresh l K A e_4) (cwV 0 hts (gd_V wd_309 wd_310 wd_311 wd_2 wd_312) rfl rfl rfl dv_Reading_refresh ⟨Nat.le_of_ble_eq_true rfl, Nat.le_of_ble_eq_true rfl⟩) (R_pv_0 (A := A) hK (mid_P (w1 := ([(a, .inr (0, [.ref (A 0), .ref (B 0)]))] : va_W)) (w2 := (wR K B τ)) hP) (mid_D (w1 := ([(a, .inr (0, [.ref (A 0), .ref (B 0)]))] : va_W)) (w2 := (wR K B τ)) hD (fun _ _ h => wR_in h))) rfl rfl hl.1 rfl (lv_room (Nat.le_of_ble_eq_true rfl)) d_LS_rename_4 ⟨Nat.le_of_ble_eq_true rfl, Nat.le_of_ble_eq_true rfl⟩) hP hD hS (fun H locs hP hD hS => ?_)
  have hP : va_P K.1 vwCl (wL K a A B σ_4 τ) H := hP
  have hD : va_D (LF a A B) (wL K a A B σ_4 τ) := hD
  refine lv_aload_n hx hb d_LS_rename_7 rfl (lv_at hl 0 rfl) ?_
  refine lv_iload_n hx hb d_LS_rename_8 rfl (lv_at hl 1 rfl) ?_
  rcases bdx_k (by decide) h with ⟨v_9, σ_9, τ_9, e_9, h⟩ | e_9
  · refine L_calli (va_runV (As := [.int x1]) (rest := []) ⟨hx, hb, hml, hown, hts⟩ (c_LS_declarationFor l K a A B e_9) (cwV 1 hts (gd_V wd_789 wd_791 wp_41 wd_1 wd_792) rfl rfl rfl dv_LS_declarationFor ⟨Nat.le_of_ble_eq_true rfl, Nat.le_of_ble_eq_true rfl⟩) (L_pv hLK hS hP hD) rfl rfl hl.1 rfl (lv_room (Nat.le_of_ble_eq_true rfl)) d_LS_rename_9 ⟨Nat.le_of_ble_eq_true rfl, Nat.le_of_ble_eq_true rfl⟩) hS (fun H locs hP hD hS => ?_)
    refine lv_istore (lv' := [(5, .int v_9), (0, .ref a), (1, .int x1), (2, .long x2), (4, .int x4)]) hx hb d_LS_rename_12 hl (by decide) rfl (fun ls hl => ?_)
    refine lv_iload hx hb d_LS_rename_14 (lv_at hl 4 rfl) ?_
    refine lv_iconst (v := 1) hx hb d_LS_rename_16 (by decide) ?_
    refine lv_icmp_lt (tgt := 36) hx hb d_LS_rename_17 (by decide) (fun c_17 => ?_) (fun c_17 => ?_)
    · replace h := itp c_17 h
      exact (kne (by decide) h).elim
    · replace h := itf c_17 h
      refine lv_iload hx hb d_LS_rename_20 (lv_at hl 4 rfl) ?_
      refine lv_bipush (v := 8) hx hb d_LS_rename_22 (by decide) ?_
      refine lv_icmp_gt (tgt := 36) hx hb d_LS_rename_24 (by decide) (fun c_24 => ?_) (fun c_24 => ?_)
      · replace h := itp c_24 h
        exact (kne (by decide) h).elim
      · replace h := itf c_24 h
        refine lv_lload_n hx hb d_LS_rename_27 rfl (lv_at hl 3 rfl) ?_
        refine lv_iload hx hb d_LS_rename_28 (lv_at hl 4 rfl) ?_
        obtain ⟨v_30, e_30, h⟩ := bd1_some h
        refine R_cpi (va_runS (As := [.long x2, .int x4]) (rest := []) ⟨hx, hb, hml, hown, hts⟩ (c_Tokens_isName l e_30) (va_cwS 2 hts (gd_S wd_864 wd_865 wd_4 wd_866) rfl rfl rfl ds_Tokens_isName ⟨Nat.le_of_ble_eq_true rfl, Nat.le_of_ble_eq_true rfl⟩) (P_ps hK.2) rfl rfl hl.1 rfl (lv_room (Nat.le_of_ble_eq_true rfl)) d_LS_rename_30 ⟨Nat.le_of_ble_eq_true rfl, Nat.le_of_ble_eq_true rfl⟩) hP hD hS (fun H locs hP hD hS => ?_)
        refine lv_if_ne (tgt := 46) hx hb d_LS_rename_33 (by decide) (fun c_33 => ?_) (fun c_33 => ?_)
        · replace h := itf c_33 h
          refine lv_aload_n hx hb d_LS_rename_46 rfl (lv_at hl 1 rfl) ?_
          refine gflS_10 hx hb hg hown hK hP d_LS_rename_47 ?_
          refine lv_iload hx hb d_LS_rename_50 (lv_at hl 0 rfl) ?_
          obtain ⟨v_52, e_52, h⟩ := bd1_some h
          refine G_calli (A := A) (σ := σ_9) (w1 := ([(a, .inr (0, [.ref (A 0), .ref (B 0)]))] : va_W)) (w2 := (wR K B τ_9)) (va_runV (As := [.int v_9]) (rest := []) ⟨hx, hb, hml, hown, hts⟩ (c_Reading_uses l K A e_52) (cwV 1 hts (gd_V wd_812 wd_813 wd_814 wd_2 wd_815) rfl rfl rfl dv_Reading_uses ⟨Nat.le_of_ble_eq_true rfl, Nat.le_of_ble_eq_true rfl⟩) (R_pv_0 (A := A) hK (mid_P (w1 := ([(a, .inr (0, [.ref (A 0), .ref (B 0)]))] : va_W)) (w2 := (wR K B τ_9)) hP) (mid_D (w1 := ([(a, .inr (0, [.ref (A 0), .ref (B 0)]))] : va_W)) (w2 := (wR K B τ_9)) hD (fun _ _ h => wR_in h))) rfl rfl hl.1 rfl (lv_room (Nat.le_of_ble_eq_true rfl)) d_LS_rename_52 ⟨Nat.le_of_ble_eq_true rfl, Nat.le_of_ble_eq_true rfl⟩) hP hD hS (fun H locs hP hD hS => ?_)
          have hP : va_P K.1 vwCl (wL K a A B σ_9 τ_9) H := hP
          have hD : va_D (LF a A B) (wL K a A B σ_9 τ_9) := hD
          refine lv_istore (lv' := [(6, .int v_52), (5, .int v_9), (0, .ref a), (1, .int x1), (2, .long x2), (4, .int x4)]) hx hb d_LS_rename_55 hl (by decide) rfl (fun ls hl => ?_)
          refine lv_iload hx hb d_LS_rename_57 (lv_at hl 5 rfl) ?_
          refine lv_aload_n hx hb d_LS_rename_59 rfl (lv_at hl 2 rfl) ?_
          refine gflS_10 hx hb hg hown hK hP d_LS_rename_60 ?_
          refine gflA_97 hx hb hg hown hK hP d_LS_rename_63 ?_
          refine gflA_151 hx hb hg hown hK hP d_LS_rename_66 ?_
          refine lv_iload hx hb d_LS_rename_69 (lv_at hl 1 rfl) ?_
          obtain ⟨i_71, h⟩ := itn h
          refine ralA_5 hx hb hK hP i_71 d_LS_rename_71 ?_
          refine lv_aload_n hx hb d_LS_rename_72 rfl (lv_at hl 2 rfl) ?_
          refine gflS_10 hx hb hg hown hK hP d_LS_rename_73 ?_
          refine gflA_97 hx hb hg hown hK hP d_LS_rename_76 ?_
          refine gflA_107 hx hb hg hown hK hP d_LS_rename_79 ?_
          refine lv_iload hx hb d_LS_rename_82 (lv_at hl 1 rfl) ?_
          obtain ⟨i_84, h⟩ := itn h
          refine ralA_4 hx hb hK hP i_84 d_LS_rename_84 ?_
          refine lv_isub hx hb d_LS_rename_85 ?_
          refine lv_isub hx hb d_LS_rename_86 ?_
          refine lv_istore (lv' := [(7, .int (x4 - ((σ_9.2.1 5 v_9.toNatClampNeg) - (σ_9.2.1 4 v_9.toNatClampNeg)))), (6, .int v_52), (5, .int v_9), (0, .ref a), (1, .int x1), (2, .long x2), (4, .int x4)]) hx hb d_LS_rename_87 hl (by decide) rfl (fun ls hl => ?_)
          refine lv_aload_n hx hb d_LS_rename_89 rfl (lv_at hl 3 rfl) ?_
          refine gflS_10 hx hb hg hown hK hP d_LS_rename_90 ?_
          refine gflA_19 hx hb hg hown hK hP d_LS_rename_93 ?_
          refine gflA_23 hx hb hg hown hK hP d_LS_rename_96 ?_
          refine lv_iload hx hb d_LS_rename_99 (lv_at hl 1 rfl) ?_
          refine lv_iload hx hb d_LS_rename_101 (lv_at hl 0 rfl) ?_
          refine lv_imul hx hb d_LS_rename_103 ?_
          refine lv_iadd hx hb d_LS_rename_104 ?_
          refine lv_sipush (v := 240) hx hb d_LS_rename_105 (by decide) ?_
          refine lv_icmp_le (tgt := 121) hx hb d_LS_rename_108 (by decide) (fun c_108 => ?_) (fun c_108 => ?_)
          · replace h := itp c_108 h
            refine lv_aload_n hx hb d_LS_rename_121 rfl (lv_at hl 3 rfl) ?_
            refine gflS_16 hx hb hg hown hK hP d_LS_rename_122 ?_
            refine lv_aload_n hx hb d_LS_rename_125 rfl (lv_at hl 3 rfl) ?_
            refine gflS_10 hx hb hg hown hK hP d_LS_rename_126 ?_
            refine lv_iload hx hb d_LS_rename_129 (lv_at hl 2 rfl) ?_
            refine lv_lload_n hx hb d_LS_rename_131 rfl (lv_at hl 5 rfl) ?_
            refine lv_iload hx hb d_LS_rename_132 (lv_at hl 6 rfl) ?_
            obtain ⟨σ_134, e_134, h⟩ := bd1_some h
            refine L_rrv (va_runV (As := [.ref (A 0), .int v_9, .long x2, .int x4]) (rest := []) ⟨hx, hb, hml, hown, hts⟩ (c_Reading_takeRenamed l K B A e_134) (cwV 4 hts (gd_V wd_869 wd_870 wd_871 wd_2 wd_872) rfl rfl rfl dv_Reading_takeRenamed ⟨Nat.le_of_ble_eq_true rfl, Nat.le_of_ble_eq_true rfl⟩) (L_rrpv hK hP hD) rfl rfl hl.1 rfl (lv_room (Nat.le_of_ble_eq_true rfl)) d_LS_rename_134 ⟨Nat.le_of_ble_eq_true rfl, Nat.le_of_ble_eq_true rfl⟩) hP hD hS (fun H locs hP hD hS => ?_)
            refine lv_aload_n hx hb d_LS_rename_137 rfl (lv_at hl 3 rfl) ?_
            refine gflS_16 hx hb hg hown hK hP d_LS_rename_138 ?_
            obtain ⟨σ_141, e_141, h⟩ := bd1_some h
            refine G_callv (A := B) (σ := σ_134) (w1 := ((a, .inr (0, [.ref (A 0), .ref (B 0)])) :: wR K A σ_9 : va_W)) (w2 := ([] : va_W)) (va_runV (As := []) (rest := []) ⟨hx, hb, hml, hown, hts⟩ (c_Reading_refresh l K B e_141) (cwV 0 hts (gd_V wd_309 wd_310 wd_311 wd_2 wd_312) rfl rfl rfl dv_Reading_refresh ⟨Nat.le_of_ble_eq_true rfl, Nat.le_of_ble_eq_true rfl⟩) (R_pv_0 (A := B) hK (mid_P (w1 := ((a, .inr (0, [.ref (A 0), .ref (B 0)])) :: wR K A σ_9 : va_W)) (w2 := ([] : va_W)) hP) (mid_D (w1 := ((a, .inr (0, [.ref (A 0), .ref (B 0)])) :: wR K A σ_9 : va_W)) (w2 := ([] : va_W)) hD (fun _ _ h => wR_in h))) rfl rfl hl.1 rfl (lv_room (Nat.le_of_ble_eq_true rfl)) d_LS_rename_141 ⟨Nat.le_of_ble_eq_true rfl, Nat.le_of_ble_eq_true rfl⟩) hP hD hS (fun H locs hP hD hS => ?_)
            have hP : va_P K.1 vwCl (wL K a A B σ_9 σ_141) H := hP
            have hD : va_D (LF a A B) (wL K a A B σ_9 σ_141) := hD
            refine lv_aload_n hx hb d_LS_rename_144 rfl (lv_at hl 3 rfl) ?_
            refine gflS_16 hx hb hg hown hK hP d_LS_rename_145 ?_
            refine lv_aload_n hx hb d_LS_rename_148 rfl (lv_at hl 3 rfl) ?_
            refine gflS_10 hx hb hg hown hK hP d_LS_rename_149 ?_
            refine lv_iload hx hb d_LS_rename_152 (lv_at hl 2 rfl) ?_
            obtain ⟨v_154, e_154, h⟩ := bd1_some h
            refine L_rri (va_runV (As := [.ref (A 0), .int v_9]) (rest := []) ⟨hx, hb, hml, hown, hts⟩ (c_Reading_agreesWith l K B A e_154) (cwV 2 hts (gd_V wd_879 wd_880 wd_881 wd_2 wd_882) rfl rfl rfl dv_Reading_agreesWith ⟨Nat.le_of_ble_eq_true rfl, Nat.le_of_ble_eq_true rfl⟩) (L_rrpv hK hP hD) rfl rfl hl.1 rfl (lv_room (Nat.le_of_ble_eq_true rfl)) d_LS_rename_154 ⟨Nat.le_of_ble_eq_true rfl, Nat.le_of_ble_eq_true rfl⟩) hP hD hS (fun H locs hP hD hS => ?_)
            refine lv_if_ne (tgt := 170) hx hb d_LS_rename_157 (by decide) (fun c_157 => ?_) (fun c_157 => ?_)
            · replace h := itf c_157 h
              refine lv_aload_n hx hb d_LS_rename_170 rfl (lv_at hl 3 rfl) ?_
              refine gflS_10 hx hb hg hown hK hP d_LS_rename_171 ?_
              refine lv_astore (lv' := [(8, .ref (A 0)), (7, .int (x4 - ((σ_9.2.1 5 v_9.toNatClampNeg) - (σ_9.2.1 4 v_9.toNatClampNeg)))), (6, .int v_52), (5, .int v_9), (0, .ref a), (1, .int x1), (2, .long x2), (4, .int x4)]) hx hb d_LS_rename_174 hl (by decide) rfl (fun ls hl => ?_)
              refine lv_aload_n hx hb d_LS_rename_176 rfl (lv_at hl 4 rfl) ?_
              refine lv_aload_n hx hb d_LS_rename_177 rfl (lv_at hl 4 rfl) ?_
              refine gflS_16 hx hb hg hown hK hP d_LS_rename_178 ?_
              refine pfl_10 hx hb hg hown hK hP hD hS d_LS_rename_181 (fun H locs hP hD hS => ?_)
              refine lv_aload_n hx hb d_LS_rename_184 rfl (lv_at hl 4 rfl) ?_
              refine lv_aload hx hb d_LS_rename_185 (lv_at hl 0 rfl) ?_
              refine pfl_16 hx hb hg hown hK hP hD hS d_LS_rename_187 (fun H locs hP hD hS => ?_)
              refine lv_iload hx hb d_LS_rename_190 (lv_at hl 2 rfl) ?_
              exact (kne (by decide) h).elim
            · replace h := itp c_157 h
              cases h
              exact T_throw (own := "LanguageServer") (X := "java/lang/IllegalStateException") (text := "the name would mean something else") hx hb hlt hown (by decide +kernel) (xat_ISE hg hLK.2.1 hLK.2.2) dx_ISE_0 dx_ISE_1 dx_ISE_2 dx_ISE_5 (hg _ wd_674) (hg _ wd_15) (hLK.2.1.2.2 (162, "the name would mean something else") (by decide)) (hl.1.trans hml.symm) hemp hlocks hS hFs (fun t hW hz hk => LB_of hLK hS hP hD hW hk) hS.2.2 (Nat.le_of_ble_eq_true rfl) (Nat.le_of_ble_eq_true rfl) (Nat.le_of_ble_eq_true rfl) (Nat.le_of_ble_eq_true rfl) (Nat.le_of_ble_eq_true rfl) (Nat.le_of_ble_eq_true rfl) d_LS_rename_160 d_LS_rename_163 d_LS_rename_164 d_LS_rename_166 d_LS_rename_169
          · replace h := itf c_108 h
            cases h
            exact T_throw (own := "LanguageServer") (X := "java/lang/IllegalStateException") (text := "the text would be too long") hx hb hlt hown (by decide +kernel) (xat_ISE hg hLK.2.1 hLK.2.2) dx_ISE_0 dx_ISE_1 dx_ISE_2 dx_ISE_5 (hg _ wd_674) (hg _ wd_15) (hLK.2.1.2.2 (58, "the text would be too long") (by decide)) (hl.1.trans hml.symm) hemp hlocks hS hFs (fun t hW hz hk => LB_of hLK hS hP hD hW hk) hS.2.2 (Nat.le_of_ble_eq_true rfl) (Nat.le_of_ble_eq_true rfl) (Nat.le_of_ble_eq_true rfl) (Nat.le_of_ble_eq_true rfl) (Nat.le_of_ble_eq_true rfl) (Nat.le_of_ble_eq_true rfl) d_LS_rename_111 d_LS_rename_114 d_LS_rename_115 d_LS_rename_117 d_LS_rename_120
        · replace h := itp c_33 h
          exact (kne (by decide) h).elim
  · exact absurd (decl_codes e_9) (by decide)
set_option maxHeartbeats 4000000 in
set_option maxRecDepth 100000 in
theorem ct_LS_rename_3 (l : Launch) (hlt : l.stackTraces = false) (K : Kst) (a : Nat) (A B : Nat → Nat) {σ τ : Sto} {x1 : Int32} {x2 : Int64} {x4 : Int32} {rr : Int32} {ss tt : Sto} (h : p_LanguageServer_rename σ τ x1 x2 x4 = some (3, rr, ss, tt)) : MetT l y_LS_rename w_LS_rename rt_LS_rename (va_Pc [.ref a, .int x1, .long x2, .int x4] (LB K a A B σ τ)) "java/util/NoSuchElementException" (LB K a A B ss tt) (LF a A B) 1 6 (LF a A B) := by
  refine MetT.ofW (cc := b_LS_rename) (maxL := 9) (ret := (some .int)) (by decide) rfl ?_
  intro p e s m args below meth c s₁ Bd hml hemp hv
  obtain ⟨rfl, hP, hLK, hD⟩ := hv
  have hK := hLK.1
  have hx := Bd.exec
  have hb := Bd.bytes
  have hr := Bd.returns
  have hts := atoms_spec (ws := w_LS_rename) Bd.pre
  have hg : ∀ w ∈ Tg, w.before _ s = true := fun w q => hts w (List.mem_cons_of_mem _ q)
  have hown : s.vm.findClass "LanguageServer" = some m.cls := findClass_of_methodNamed Bd.named
  have hlocks := Bd.notSynchronized
  have hFs := noSt hP (F := LF a A B) (fun q h => L_in h)
  have hS : va_S (LF a A B) s.heap s.heap [] := va_S.rf
  have hl := lv_entry ([.ref a, .int x1, .long x2, .int x4]) (n := 9) (Nat.le_of_ble_eq_true rfl)
  rw [lg_entry_eq]
  generalize (lg_sl ([.ref a, .int x1, .long x2, .int x4]) ++ List.replicate (9 - (lg_sl ([.ref a, .int x1, .long x2, .int x4])).length) Slot.unset).toArray = ls at hl ⊢
  have hl : lv_has ls 9 [(0, .ref a), (1, .int x1), (2, .long x2), (4, .int x4)] := hl
  generalize hargs : ([.ref a, .int x1, .long x2, .int x4] : List Value).toArray = args at hg hts ⊢
  unfold p_LanguageServer_rename at h
  refine lv_aload_n hx hb d_LS_rename_0 rfl (lv_at hl 0 rfl) ?_
  refine gflS_10 hx hb hg hown hK hP d_LS_rename_1 ?_
  obtain ⟨σ_4, e_4, h⟩ := bd1_some h
  refine G_callv (A := A) (σ := σ) (w1 := ([(a, .inr (0, [.ref (A 0), .ref (B 0)]))] : va_W)) (w2 := (wR K B τ)) (va_runV (As := []) (rest := []) ⟨hx, hb, hml, hown, hts⟩ (c_Reading_refresh l K A e_4) (cwV 0 hts (gd_V wd_309 wd_310 wd_311 wd_2 wd_312) rfl rfl rfl dv_Reading_refresh ⟨Nat.le_of_ble_eq_true rfl, Nat.le_of_ble_eq_true rfl⟩) (R_pv_0 (A := A) hK (mid_P (w1 := ([(a, .inr (0, [.ref (A 0), .ref (B 0)]))] : va_W)) (w2 := (wR K B τ)) hP) (mid_D (w1 := ([(a, .inr (0, [.ref (A 0), .ref (B 0)]))] : va_W)) (w2 := (wR K B τ)) hD (fun _ _ h => wR_in h))) rfl rfl hl.1 rfl (lv_room (Nat.le_of_ble_eq_true rfl)) d_LS_rename_4 ⟨Nat.le_of_ble_eq_true rfl, Nat.le_of_ble_eq_true rfl⟩) hP hD hS (fun H locs hP hD hS => ?_)
  have hP : va_P K.1 vwCl (wL K a A B σ_4 τ) H := hP
  have hD : va_D (LF a A B) (wL K a A B σ_4 τ) := hD
  refine lv_aload_n hx hb d_LS_rename_7 rfl (lv_at hl 0 rfl) ?_
  refine lv_iload_n hx hb d_LS_rename_8 rfl (lv_at hl 1 rfl) ?_
  rcases bdx_k (by decide) h with ⟨v_9, σ_9, τ_9, e_9, h⟩ | e_9
  · refine L_calli (va_runV (As := [.int x1]) (rest := []) ⟨hx, hb, hml, hown, hts⟩ (c_LS_declarationFor l K a A B e_9) (cwV 1 hts (gd_V wd_789 wd_791 wp_41 wd_1 wd_792) rfl rfl rfl dv_LS_declarationFor ⟨Nat.le_of_ble_eq_true rfl, Nat.le_of_ble_eq_true rfl⟩) (L_pv hLK hS hP hD) rfl rfl hl.1 rfl (lv_room (Nat.le_of_ble_eq_true rfl)) d_LS_rename_9 ⟨Nat.le_of_ble_eq_true rfl, Nat.le_of_ble_eq_true rfl⟩) hS (fun H locs hP hD hS => ?_)
    refine lv_istore (lv' := [(5, .int v_9), (0, .ref a), (1, .int x1), (2, .long x2), (4, .int x4)]) hx hb d_LS_rename_12 hl (by decide) rfl (fun ls hl => ?_)
    refine lv_iload hx hb d_LS_rename_14 (lv_at hl 4 rfl) ?_
    refine lv_iconst (v := 1) hx hb d_LS_rename_16 (by decide) ?_
    refine lv_icmp_lt (tgt := 36) hx hb d_LS_rename_17 (by decide) (fun c_17 => ?_) (fun c_17 => ?_)
    · replace h := itp c_17 h
      exact (kne (by decide) h).elim
    · replace h := itf c_17 h
      refine lv_iload hx hb d_LS_rename_20 (lv_at hl 4 rfl) ?_
      refine lv_bipush (v := 8) hx hb d_LS_rename_22 (by decide) ?_
      refine lv_icmp_gt (tgt := 36) hx hb d_LS_rename_24 (by decide) (fun c_24 => ?_) (fun c_24 => ?_)
      · replace h := itp c_24 h
        exact (kne (by decide) h).elim
      · replace h := itf c_24 h
        refine lv_lload_n hx hb d_LS_rename_27 rfl (lv_at hl 3 rfl) ?_
        refine lv_iload hx hb d_LS_rename_28 (lv_at hl 4 rfl) ?_
        obtain ⟨v_30, e_30, h⟩ := bd1_some h
        refine R_cpi (va_runS (As := [.long x2, .int x4]) (rest := []) ⟨hx, hb, hml, hown, hts⟩ (c_Tokens_isName l e_30) (va_cwS 2 hts (gd_S wd_864 wd_865 wd_4 wd_866) rfl rfl rfl ds_Tokens_isName ⟨Nat.le_of_ble_eq_true rfl, Nat.le_of_ble_eq_true rfl⟩) (P_ps hK.2) rfl rfl hl.1 rfl (lv_room (Nat.le_of_ble_eq_true rfl)) d_LS_rename_30 ⟨Nat.le_of_ble_eq_true rfl, Nat.le_of_ble_eq_true rfl⟩) hP hD hS (fun H locs hP hD hS => ?_)
        refine lv_if_ne (tgt := 46) hx hb d_LS_rename_33 (by decide) (fun c_33 => ?_) (fun c_33 => ?_)
        · replace h := itf c_33 h
          refine lv_aload_n hx hb d_LS_rename_46 rfl (lv_at hl 1 rfl) ?_
          refine gflS_10 hx hb hg hown hK hP d_LS_rename_47 ?_
          refine lv_iload hx hb d_LS_rename_50 (lv_at hl 0 rfl) ?_
          obtain ⟨v_52, e_52, h⟩ := bd1_some h
          refine G_calli (A := A) (σ := σ_9) (w1 := ([(a, .inr (0, [.ref (A 0), .ref (B 0)]))] : va_W)) (w2 := (wR K B τ_9)) (va_runV (As := [.int v_9]) (rest := []) ⟨hx, hb, hml, hown, hts⟩ (c_Reading_uses l K A e_52) (cwV 1 hts (gd_V wd_812 wd_813 wd_814 wd_2 wd_815) rfl rfl rfl dv_Reading_uses ⟨Nat.le_of_ble_eq_true rfl, Nat.le_of_ble_eq_true rfl⟩) (R_pv_0 (A := A) hK (mid_P (w1 := ([(a, .inr (0, [.ref (A 0), .ref (B 0)]))] : va_W)) (w2 := (wR K B τ_9)) hP) (mid_D (w1 := ([(a, .inr (0, [.ref (A 0), .ref (B 0)]))] : va_W)) (w2 := (wR K B τ_9)) hD (fun _ _ h => wR_in h))) rfl rfl hl.1 rfl (lv_room (Nat.le_of_ble_eq_true rfl)) d_LS_rename_52 ⟨Nat.le_of_ble_eq_true rfl, Nat.le_of_ble_eq_true rfl⟩) hP hD hS (fun H locs hP hD hS => ?_)
          have hP : va_P K.1 vwCl (wL K a A B σ_9 τ_9) H := hP
          have hD : va_D (LF a A B) (wL K a A B σ_9 τ_9) := hD
          refine lv_istore (lv' := [(6, .int v_52), (5, .int v_9), (0, .ref a), (1, .int x1), (2, .long x2), (4, .int x4)]) hx hb d_LS_rename_55 hl (by decide) rfl (fun ls hl => ?_)
          refine lv_iload hx hb d_LS_rename_57 (lv_at hl 5 rfl) ?_
          refine lv_aload_n hx hb d_LS_rename_59 rfl (lv_at hl 2 rfl) ?_
          refine gflS_10 hx hb hg hown hK hP d_LS_rename_60 ?_
          refine gflA_97 hx hb hg hown hK hP d_LS_rename_63 ?_
          refine gflA_151 hx hb hg hown hK hP d_LS_rename_66 ?_
          refine lv_iload hx hb d_LS_rename_69 (lv_at hl 1 rfl) ?_
          obtain ⟨i_71, h⟩ := itn h
          refine ralA_5 hx hb hK hP i_71 d_LS_rename_71 ?_
          refine lv_aload_n hx hb d_LS_rename_72 rfl (lv_at hl 2 rfl) ?_
          refine gflS_10 hx hb hg hown hK hP d_LS_rename_73 ?_
          refine gflA_97 hx hb hg hown hK hP d_LS_rename_76 ?_
          refine gflA_107 hx hb hg hown hK hP d_LS_rename_79 ?_
          refine lv_iload hx hb d_LS_rename_82 (lv_at hl 1 rfl) ?_
          obtain ⟨i_84, h⟩ := itn h
          refine ralA_4 hx hb hK hP i_84 d_LS_rename_84 ?_
          refine lv_isub hx hb d_LS_rename_85 ?_
          refine lv_isub hx hb d_LS_rename_86 ?_
          refine lv_istore (lv' := [(7, .int (x4 - ((σ_9.2.1 5 v_9.toNatClampNeg) - (σ_9.2.1 4 v_9.toNatClampNeg)))), (6, .int v_52), (5, .int v_9), (0, .ref a), (1, .int x1), (2, .long x2), (4, .int x4)]) hx hb d_LS_rename_87 hl (by decide) rfl (fun ls hl => ?_)
          refine lv_aload_n hx hb d_LS_rename_89 rfl (lv_at hl 3 rfl) ?_
          refine gflS_10 hx hb hg hown hK hP d_LS_rename_90 ?_
          refine gflA_19 hx hb hg hown hK hP d_LS_rename_93 ?_
          refine gflA_23 hx hb hg hown hK hP d_LS_rename_96 ?_
          refine lv_iload hx hb d_LS_rename_99 (lv_at hl 1 rfl) ?_
          refine lv_iload hx hb d_LS_rename_101 (lv_at hl 0 rfl) ?_
          refine lv_imul hx hb d_LS_rename_103 ?_
          refine lv_iadd hx hb d_LS_rename_104 ?_
          refine lv_sipush (v := 240) hx hb d_LS_rename_105 (by decide) ?_
          refine lv_icmp_le (tgt := 121) hx hb d_LS_rename_108 (by decide) (fun c_108 => ?_) (fun c_108 => ?_)
          · replace h := itp c_108 h
            refine lv_aload_n hx hb d_LS_rename_121 rfl (lv_at hl 3 rfl) ?_
            refine gflS_16 hx hb hg hown hK hP d_LS_rename_122 ?_
            refine lv_aload_n hx hb d_LS_rename_125 rfl (lv_at hl 3 rfl) ?_
            refine gflS_10 hx hb hg hown hK hP d_LS_rename_126 ?_
            refine lv_iload hx hb d_LS_rename_129 (lv_at hl 2 rfl) ?_
            refine lv_lload_n hx hb d_LS_rename_131 rfl (lv_at hl 5 rfl) ?_
            refine lv_iload hx hb d_LS_rename_132 (lv_at hl 6 rfl) ?_
            obtain ⟨σ_134, e_134, h⟩ := bd1_some h
            refine L_rrv (va_runV (As := [.ref (A 0), .int v_9, .long x2, .int x4]) (rest := []) ⟨hx, hb, hml, hown, hts⟩ (c_Reading_takeRenamed l K B A e_134) (cwV 4 hts (gd_V wd_869 wd_870 wd_871 wd_2 wd_872) rfl rfl rfl dv_Reading_takeRenamed ⟨Nat.le_of_ble_eq_true rfl, Nat.le_of_ble_eq_true rfl⟩) (L_rrpv hK hP hD) rfl rfl hl.1 rfl (lv_room (Nat.le_of_ble_eq_true rfl)) d_LS_rename_134 ⟨Nat.le_of_ble_eq_true rfl, Nat.le_of_ble_eq_true rfl⟩) hP hD hS (fun H locs hP hD hS => ?_)
            refine lv_aload_n hx hb d_LS_rename_137 rfl (lv_at hl 3 rfl) ?_
            refine gflS_16 hx hb hg hown hK hP d_LS_rename_138 ?_
            obtain ⟨σ_141, e_141, h⟩ := bd1_some h
            refine G_callv (A := B) (σ := σ_134) (w1 := ((a, .inr (0, [.ref (A 0), .ref (B 0)])) :: wR K A σ_9 : va_W)) (w2 := ([] : va_W)) (va_runV (As := []) (rest := []) ⟨hx, hb, hml, hown, hts⟩ (c_Reading_refresh l K B e_141) (cwV 0 hts (gd_V wd_309 wd_310 wd_311 wd_2 wd_312) rfl rfl rfl dv_Reading_refresh ⟨Nat.le_of_ble_eq_true rfl, Nat.le_of_ble_eq_true rfl⟩) (R_pv_0 (A := B) hK (mid_P (w1 := ((a, .inr (0, [.ref (A 0), .ref (B 0)])) :: wR K A σ_9 : va_W)) (w2 := ([] : va_W)) hP) (mid_D (w1 := ((a, .inr (0, [.ref (A 0), .ref (B 0)])) :: wR K A σ_9 : va_W)) (w2 := ([] : va_W)) hD (fun _ _ h => wR_in h))) rfl rfl hl.1 rfl (lv_room (Nat.le_of_ble_eq_true rfl)) d_LS_rename_141 ⟨Nat.le_of_ble_eq_true rfl, Nat.le_of_ble_eq_true rfl⟩) hP hD hS (fun H locs hP hD hS => ?_)
            have hP : va_P K.1 vwCl (wL K a A B σ_9 σ_141) H := hP
            have hD : va_D (LF a A B) (wL K a A B σ_9 σ_141) := hD
            refine lv_aload_n hx hb d_LS_rename_144 rfl (lv_at hl 3 rfl) ?_
            refine gflS_16 hx hb hg hown hK hP d_LS_rename_145 ?_
            refine lv_aload_n hx hb d_LS_rename_148 rfl (lv_at hl 3 rfl) ?_
            refine gflS_10 hx hb hg hown hK hP d_LS_rename_149 ?_
            refine lv_iload hx hb d_LS_rename_152 (lv_at hl 2 rfl) ?_
            obtain ⟨v_154, e_154, h⟩ := bd1_some h
            refine L_rri (va_runV (As := [.ref (A 0), .int v_9]) (rest := []) ⟨hx, hb, hml, hown, hts⟩ (c_Reading_agreesWith l K B A e_154) (cwV 2 hts (gd_V wd_879 wd_880 wd_881 wd_2 wd_882) rfl rfl rfl dv_Reading_agreesWith ⟨Nat.le_of_ble_eq_true rfl, Nat.le_of_ble_eq_true rfl⟩) (L_rrpv hK hP hD) rfl rfl hl.1 rfl (lv_room (Nat.le_of_ble_eq_true rfl)) d_LS_rename_154 ⟨Nat.le_of_ble_eq_true rfl, Nat.le_of_ble_eq_true rfl⟩) hP hD hS (fun H locs hP hD hS => ?_)
            refine lv_if_ne (tgt := 170) hx hb d_LS_rename_157 (by decide) (fun c_157 => ?_) (fun c_157 => ?_)
            · replace h := itf c_157 h
              refine lv_aload_n hx hb d_LS_rename_170 rfl (lv_at hl 3 rfl) ?_
              refine gflS_10 hx hb hg hown hK hP d_LS_rename_171 ?_
              refine lv_astore (lv' := [(8, .ref (A 0)), (7, .int (x4 - ((σ_9.2.1 5 v_9.toNatClampNeg) - (σ_9.2.1 4 v_9.toNatClampNeg)))), (6, .int v_52), (5, .int v_9), (0, .ref a), (1, .int x1), (2, .long x2), (4, .int x4)]) hx hb d_LS_rename_174 hl (by decide) rfl (fun ls hl => ?_)
              refine lv_aload_n hx hb d_LS_rename_176 rfl (lv_at hl 4 rfl) ?_
              refine lv_aload_n hx hb d_LS_rename_177 rfl (lv_at hl 4 rfl) ?_
              refine gflS_16 hx hb hg hown hK hP d_LS_rename_178 ?_
              refine pfl_10 hx hb hg hown hK hP hD hS d_LS_rename_181 (fun H locs hP hD hS => ?_)
              refine lv_aload_n hx hb d_LS_rename_184 rfl (lv_at hl 4 rfl) ?_
              refine lv_aload hx hb d_LS_rename_185 (lv_at hl 0 rfl) ?_
              refine pfl_16 hx hb hg hown hK hP hD hS d_LS_rename_187 (fun H locs hP hD hS => ?_)
              refine lv_iload hx hb d_LS_rename_190 (lv_at hl 2 rfl) ?_
              exact (kne (by decide) h).elim
            · replace h := itp c_157 h
              exact (kne (by decide) h).elim
          · replace h := itf c_108 h
            exact (kne (by decide) h).elim
        · replace h := itp c_33 h
          exact (kne (by decide) h).elim
  · exact T_out (T_runV (As := [.int x1]) (rest := []) ⟨hx, hb, hml, hown, hts⟩ (ct_LS_declarationFor_3 l hlt K a A B e_9) (cwV 1 hts (gd_V wd_789 wd_791 wp_41 wd_1 wd_792) rfl rfl rfl dv_LS_declarationFor ⟨Nat.le_of_ble_eq_true rfl, Nat.le_of_ble_eq_true rfl⟩) (L_pv hLK hS hP hD) rfl rfl hl.1 rfl (lv_room (Nat.le_of_ble_eq_true rfl)) d_LS_rename_9 ⟨Nat.le_of_ble_eq_true rfl, Nat.le_of_ble_eq_true rfl⟩) rfl rfl rfl hemp hlocks hS (fun q _ h => h) rfl (fun t T9 _ _ hW hB hz hk u9 hu hv => LB_eq hu hv hB) (fun q h => h) hS.2.2 (Nat.le_of_ble_eq_true rfl) (Nat.le_of_ble_eq_true rfl)
set_option maxHeartbeats 4000000 in
set_option maxRecDepth 100000 in
theorem c_LS_rename (l : Launch) (K : Kst) (a : Nat) (A B : Nat → Nat) {σ τ : Sto} {x1 : Int32} {x2 : Int64} {x4 : Int32} {rr : Int32} {ss tt : Sto} (h : p_LanguageServer_rename σ τ x1 x2 x4 = some (4, rr, ss, tt)) : Met l y_LS_rename w_LS_rename r_LS_rename (va_Pc [.ref a, .int x1, .long x2, .int x4] (LB K a A B σ τ)) (va_Qi (S := Unit) (fun v _ => v = rr) (fun _ t => LB K a B A tt ss t) (LF a A B)) 0 0 (LF a A B) := by
  refine Met.ofW (cc := b_LS_rename) (maxL := 9) (ret := (some .int)) (by decide) rfl ?_
  intro p e s m args below meth c s₁ Bd hml hv
  obtain ⟨rfl, hP, hLK, hD⟩ := hv
  have hK := hLK.1
  have hx := Bd.exec
  have hb := Bd.bytes
  have hr := Bd.returns
  have hts := atoms_spec (ws := w_LS_rename) Bd.pre
  have hg : ∀ w ∈ Tg, w.before _ s = true := fun w q => hts w (List.mem_cons_of_mem _ q)
  have hown : s.vm.findClass "LanguageServer" = some m.cls := findClass_of_methodNamed Bd.named
  have hlocks := Bd.notSynchronized
  have hS : va_S (LF a A B) s.heap s.heap [] := va_S.rf
  have hl := lv_entry ([.ref a, .int x1, .long x2, .int x4]) (n := 9) (Nat.le_of_ble_eq_true rfl)
  rw [lg_entry_eq]
  generalize (lg_sl ([.ref a, .int x1, .long x2, .int x4]) ++ List.replicate (9 - (lg_sl ([.ref a, .int x1, .long x2, .int x4])).length) Slot.unset).toArray = ls at hl ⊢
  have hl : lv_has ls 9 [(0, .ref a), (1, .int x1), (2, .long x2), (4, .int x4)] := hl
  generalize hargs : ([.ref a, .int x1, .long x2, .int x4] : List Value).toArray = args at hg hts ⊢
  have hRet : ∀ (v : Int32) (σ τ : Sto), some ((4, v, σ, τ) : Lr) = some (4, rr, ss, tt) → ∀ (H : Heap) (locs : List Loc), va_P K.1 vwCl (wLx K a (B 0) (A 0) A B σ τ) H → va_D (LF a A B) (wLx K a (B 0) (A 0) A B σ τ) → va_S (LF a A B) s.heap H locs → ∀ (pc : Nat) (ls : Array Slot), decode b_LS_rename pc = .ok (.ireturn, 1) → W p l e (headSpec w_LS_rename r_LS_rename).room s m args below meth c H locs 0 0 (MQ below (va_Qi (S := Unit) (fun v _ => v = rr) (fun _ t => LB K a B A tt ss t) (LF a A B)) args s 0 0 (LF a A B)) (F0 m pc ls [.int v]) := by
    intro v σ τ h H locs hP hD hS pc ls hd
    cases h
    exact W.iret hx hb hr (fun t ht hW => ⟨⟨_, (), rfl, rfl, LB_sw hLK hS hP hD hW ht⟩, hS.F ht⟩) hS.2.2 hd
  unfold p_LanguageServer_rename at h
  refine lv_aload_n hx hb d_LS_rename_0 rfl (lv_at hl 0 rfl) ?_
  refine gflS_10 hx hb hg hown hK hP d_LS_rename_1 ?_
  obtain ⟨σ_4, e_4, h⟩ := bd1_some h
  refine G_callv (A := A) (σ := σ) (w1 := ([(a, .inr (0, [.ref (A 0), .ref (B 0)]))] : va_W)) (w2 := (wR K B τ)) (va_runV (As := []) (rest := []) ⟨hx, hb, hml, hown, hts⟩ (c_Reading_refresh l K A e_4) (cwV 0 hts (gd_V wd_309 wd_310 wd_311 wd_2 wd_312) rfl rfl rfl dv_Reading_refresh ⟨Nat.le_of_ble_eq_true rfl, Nat.le_of_ble_eq_true rfl⟩) (R_pv_0 (A := A) hK (mid_P (w1 := ([(a, .inr (0, [.ref (A 0), .ref (B 0)]))] : va_W)) (w2 := (wR K B τ)) hP) (mid_D (w1 := ([(a, .inr (0, [.ref (A 0), .ref (B 0)]))] : va_W)) (w2 := (wR K B τ)) hD (fun _ _ h => wR_in h))) rfl rfl hl.1 rfl (lv_room (Nat.le_of_ble_eq_true rfl)) d_LS_rename_4 ⟨Nat.le_of_ble_eq_true rfl, Nat.le_of_ble_eq_true rfl⟩) hP hD hS (fun H locs hP hD hS => ?_)
  have hP : va_P K.1 vwCl (wL K a A B σ_4 τ) H := hP
  have hD : va_D (LF a A B) (wL K a A B σ_4 τ) := hD
  refine lv_aload_n hx hb d_LS_rename_7 rfl (lv_at hl 0 rfl) ?_
  refine lv_iload_n hx hb d_LS_rename_8 rfl (lv_at hl 1 rfl) ?_
  rcases bdx_k (by decide) h with ⟨v_9, σ_9, τ_9, e_9, h⟩ | e_9
  · refine L_calli (va_runV (As := [.int x1]) (rest := []) ⟨hx, hb, hml, hown, hts⟩ (c_LS_declarationFor l K a A B e_9) (cwV 1 hts (gd_V wd_789 wd_791 wp_41 wd_1 wd_792) rfl rfl rfl dv_LS_declarationFor ⟨Nat.le_of_ble_eq_true rfl, Nat.le_of_ble_eq_true rfl⟩) (L_pv hLK hS hP hD) rfl rfl hl.1 rfl (lv_room (Nat.le_of_ble_eq_true rfl)) d_LS_rename_9 ⟨Nat.le_of_ble_eq_true rfl, Nat.le_of_ble_eq_true rfl⟩) hS (fun H locs hP hD hS => ?_)
    refine lv_istore (lv' := [(5, .int v_9), (0, .ref a), (1, .int x1), (2, .long x2), (4, .int x4)]) hx hb d_LS_rename_12 hl (by decide) rfl (fun ls hl => ?_)
    refine lv_iload hx hb d_LS_rename_14 (lv_at hl 4 rfl) ?_
    refine lv_iconst (v := 1) hx hb d_LS_rename_16 (by decide) ?_
    refine lv_icmp_lt (tgt := 36) hx hb d_LS_rename_17 (by decide) (fun c_17 => ?_) (fun c_17 => ?_)
    · replace h := itp c_17 h
      exact (kne (by decide) h).elim
    · replace h := itf c_17 h
      refine lv_iload hx hb d_LS_rename_20 (lv_at hl 4 rfl) ?_
      refine lv_bipush (v := 8) hx hb d_LS_rename_22 (by decide) ?_
      refine lv_icmp_gt (tgt := 36) hx hb d_LS_rename_24 (by decide) (fun c_24 => ?_) (fun c_24 => ?_)
      · replace h := itp c_24 h
        exact (kne (by decide) h).elim
      · replace h := itf c_24 h
        refine lv_lload_n hx hb d_LS_rename_27 rfl (lv_at hl 3 rfl) ?_
        refine lv_iload hx hb d_LS_rename_28 (lv_at hl 4 rfl) ?_
        obtain ⟨v_30, e_30, h⟩ := bd1_some h
        refine R_cpi (va_runS (As := [.long x2, .int x4]) (rest := []) ⟨hx, hb, hml, hown, hts⟩ (c_Tokens_isName l e_30) (va_cwS 2 hts (gd_S wd_864 wd_865 wd_4 wd_866) rfl rfl rfl ds_Tokens_isName ⟨Nat.le_of_ble_eq_true rfl, Nat.le_of_ble_eq_true rfl⟩) (P_ps hK.2) rfl rfl hl.1 rfl (lv_room (Nat.le_of_ble_eq_true rfl)) d_LS_rename_30 ⟨Nat.le_of_ble_eq_true rfl, Nat.le_of_ble_eq_true rfl⟩) hP hD hS (fun H locs hP hD hS => ?_)
        refine lv_if_ne (tgt := 46) hx hb d_LS_rename_33 (by decide) (fun c_33 => ?_) (fun c_33 => ?_)
        · replace h := itf c_33 h
          refine lv_aload_n hx hb d_LS_rename_46 rfl (lv_at hl 1 rfl) ?_
          refine gflS_10 hx hb hg hown hK hP d_LS_rename_47 ?_
          refine lv_iload hx hb d_LS_rename_50 (lv_at hl 0 rfl) ?_
          obtain ⟨v_52, e_52, h⟩ := bd1_some h
          refine G_calli (A := A) (σ := σ_9) (w1 := ([(a, .inr (0, [.ref (A 0), .ref (B 0)]))] : va_W)) (w2 := (wR K B τ_9)) (va_runV (As := [.int v_9]) (rest := []) ⟨hx, hb, hml, hown, hts⟩ (c_Reading_uses l K A e_52) (cwV 1 hts (gd_V wd_812 wd_813 wd_814 wd_2 wd_815) rfl rfl rfl dv_Reading_uses ⟨Nat.le_of_ble_eq_true rfl, Nat.le_of_ble_eq_true rfl⟩) (R_pv_0 (A := A) hK (mid_P (w1 := ([(a, .inr (0, [.ref (A 0), .ref (B 0)]))] : va_W)) (w2 := (wR K B τ_9)) hP) (mid_D (w1 := ([(a, .inr (0, [.ref (A 0), .ref (B 0)]))] : va_W)) (w2 := (wR K B τ_9)) hD (fun _ _ h => wR_in h))) rfl rfl hl.1 rfl (lv_room (Nat.le_of_ble_eq_true rfl)) d_LS_rename_52 ⟨Nat.le_of_ble_eq_true rfl, Nat.le_of_ble_eq_true rfl⟩) hP hD hS (fun H locs hP hD hS => ?_)
          have hP : va_P K.1 vwCl (wL K a A B σ_9 τ_9) H := hP
          have hD : va_D (LF a A B) (wL K a A B σ_9 τ_9) := hD
          refine lv_istore (lv' := [(6, .int v_52), (5, .int v_9), (0, .ref a), (1, .int x1), (2, .long x2), (4, .int x4)]) hx hb d_LS_rename_55 hl (by decide) rfl (fun ls hl => ?_)
          refine lv_iload hx hb d_LS_rename_57 (lv_at hl 5 rfl) ?_
          refine lv_aload_n hx hb d_LS_rename_59 rfl (lv_at hl 2 rfl) ?_
          refine gflS_10 hx hb hg hown hK hP d_LS_rename_60 ?_
          refine gflA_97 hx hb hg hown hK hP d_LS_rename_63 ?_
          refine gflA_151 hx hb hg hown hK hP d_LS_rename_66 ?_
          refine lv_iload hx hb d_LS_rename_69 (lv_at hl 1 rfl) ?_
          obtain ⟨i_71, h⟩ := itn h
          refine ralA_5 hx hb hK hP i_71 d_LS_rename_71 ?_
          refine lv_aload_n hx hb d_LS_rename_72 rfl (lv_at hl 2 rfl) ?_
          refine gflS_10 hx hb hg hown hK hP d_LS_rename_73 ?_
          refine gflA_97 hx hb hg hown hK hP d_LS_rename_76 ?_
          refine gflA_107 hx hb hg hown hK hP d_LS_rename_79 ?_
          refine lv_iload hx hb d_LS_rename_82 (lv_at hl 1 rfl) ?_
          obtain ⟨i_84, h⟩ := itn h
          refine ralA_4 hx hb hK hP i_84 d_LS_rename_84 ?_
          refine lv_isub hx hb d_LS_rename_85 ?_
          refine lv_isub hx hb d_LS_rename_86 ?_
          refine lv_istore (lv' := [(7, .int (x4 - ((σ_9.2.1 5 v_9.toNatClampNeg) - (σ_9.2.1 4 v_9.toNatClampNeg)))), (6, .int v_52), (5, .int v_9), (0, .ref a), (1, .int x1), (2, .long x2), (4, .int x4)]) hx hb d_LS_rename_87 hl (by decide) rfl (fun ls hl => ?_)
          refine lv_aload_n hx hb d_LS_rename_89 rfl (lv_at hl 3 rfl) ?_
          refine gflS_10 hx hb hg hown hK hP d_LS_rename_90 ?_
          refine gflA_19 hx hb hg hown hK hP d_LS_rename_93 ?_
          refine gflA_23 hx hb hg hown hK hP d_LS_rename_96 ?_
          refine lv_iload hx hb d_LS_rename_99 (lv_at hl 1 rfl) ?_
          refine lv_iload hx hb d_LS_rename_101 (lv_at hl 0 rfl) ?_
          refine lv_imul hx hb d_LS_rename_103 ?_
          refine lv_iadd hx hb d_LS_rename_104 ?_
          refine lv_sipush (v := 240) hx hb d_LS_rename_105 (by decide) ?_
          refine lv_icmp_le (tgt := 121) hx hb d_LS_rename_108 (by decide) (fun c_108 => ?_) (fun c_108 => ?_)
          · replace h := itp c_108 h
            refine lv_aload_n hx hb d_LS_rename_121 rfl (lv_at hl 3 rfl) ?_
            refine gflS_16 hx hb hg hown hK hP d_LS_rename_122 ?_
            refine lv_aload_n hx hb d_LS_rename_125 rfl (lv_at hl 3 rfl) ?_
            refine gflS_10 hx hb hg hown hK hP d_LS_rename_126 ?_
            refine lv_iload hx hb d_LS_rename_129 (lv_at hl 2 rfl) ?_
            refine lv_lload_n hx hb d_LS_rename_131 rfl (lv_at hl 5 rfl) ?_
            refine lv_iload hx hb d_LS_rename_132 (lv_at hl 6 rfl) ?_
            obtain ⟨σ_134, e_134, h⟩ := bd1_some h
            refine L_rrv (va_runV (As := [.ref (A 0), .int v_9, .long x2, .int x4]) (rest := []) ⟨hx, hb, hml, hown, hts⟩ (c_Reading_takeRenamed l K B A e_134) (cwV 4 hts (gd_V wd_869 wd_870 wd_871 wd_2 wd_872) rfl rfl rfl dv_Reading_takeRenamed ⟨Nat.le_of_ble_eq_true rfl, Nat.le_of_ble_eq_true rfl⟩) (L_rrpv hK hP hD) rfl rfl hl.1 rfl (lv_room (Nat.le_of_ble_eq_true rfl)) d_LS_rename_134 ⟨Nat.le_of_ble_eq_true rfl, Nat.le_of_ble_eq_true rfl⟩) hP hD hS (fun H locs hP hD hS => ?_)
            refine lv_aload_n hx hb d_LS_rename_137 rfl (lv_at hl 3 rfl) ?_
            refine gflS_16 hx hb hg hown hK hP d_LS_rename_138 ?_
            obtain ⟨σ_141, e_141, h⟩ := bd1_some h
            refine G_callv (A := B) (σ := σ_134) (w1 := ((a, .inr (0, [.ref (A 0), .ref (B 0)])) :: wR K A σ_9 : va_W)) (w2 := ([] : va_W)) (va_runV (As := []) (rest := []) ⟨hx, hb, hml, hown, hts⟩ (c_Reading_refresh l K B e_141) (cwV 0 hts (gd_V wd_309 wd_310 wd_311 wd_2 wd_312) rfl rfl rfl dv_Reading_refresh ⟨Nat.le_of_ble_eq_true rfl, Nat.le_of_ble_eq_true rfl⟩) (R_pv_0 (A := B) hK (mid_P (w1 := ((a, .inr (0, [.ref (A 0), .ref (B 0)])) :: wR K A σ_9 : va_W)) (w2 := ([] : va_W)) hP) (mid_D (w1 := ((a, .inr (0, [.ref (A 0), .ref (B 0)])) :: wR K A σ_9 : va_W)) (w2 := ([] : va_W)) hD (fun _ _ h => wR_in h))) rfl rfl hl.1 rfl (lv_room (Nat.le_of_ble_eq_true rfl)) d_LS_rename_141 ⟨Nat.le_of_ble_eq_true rfl, Nat.le_of_ble_eq_true rfl⟩) hP hD hS (fun H locs hP hD hS => ?_)
            have hP : va_P K.1 vwCl (wL K a A B σ_9 σ_141) H := hP
            have hD : va_D (LF a A B) (wL K a A B σ_9 σ_141) := hD
            refine lv_aload_n hx hb d_LS_rename_144 rfl (lv_at hl 3 rfl) ?_
            refine gflS_16 hx hb hg hown hK hP d_LS_rename_145 ?_
            refine lv_aload_n hx hb d_LS_rename_148 rfl (lv_at hl 3 rfl) ?_
            refine gflS_10 hx hb hg hown hK hP d_LS_rename_149 ?_
            refine lv_iload hx hb d_LS_rename_152 (lv_at hl 2 rfl) ?_
            obtain ⟨v_154, e_154, h⟩ := bd1_some h
            refine L_rri (va_runV (As := [.ref (A 0), .int v_9]) (rest := []) ⟨hx, hb, hml, hown, hts⟩ (c_Reading_agreesWith l K B A e_154) (cwV 2 hts (gd_V wd_879 wd_880 wd_881 wd_2 wd_882) rfl rfl rfl dv_Reading_agreesWith ⟨Nat.le_of_ble_eq_true rfl, Nat.le_of_ble_eq_true rfl⟩) (L_rrpv hK hP hD) rfl rfl hl.1 rfl (lv_room (Nat.le_of_ble_eq_true rfl)) d_LS_rename_154 ⟨Nat.le_of_ble_eq_true rfl, Nat.le_of_ble_eq_true rfl⟩) hP hD hS (fun H locs hP hD hS => ?_)
            refine lv_if_ne (tgt := 170) hx hb d_LS_rename_157 (by decide) (fun c_157 => ?_) (fun c_157 => ?_)
            · replace h := itf c_157 h
              refine lv_aload_n hx hb d_LS_rename_170 rfl (lv_at hl 3 rfl) ?_
              refine gflS_10 hx hb hg hown hK hP d_LS_rename_171 ?_
              refine lv_astore (lv' := [(8, .ref (A 0)), (7, .int (x4 - ((σ_9.2.1 5 v_9.toNatClampNeg) - (σ_9.2.1 4 v_9.toNatClampNeg)))), (6, .int v_52), (5, .int v_9), (0, .ref a), (1, .int x1), (2, .long x2), (4, .int x4)]) hx hb d_LS_rename_174 hl (by decide) rfl (fun ls hl => ?_)
              refine lv_aload_n hx hb d_LS_rename_176 rfl (lv_at hl 4 rfl) ?_
              refine lv_aload_n hx hb d_LS_rename_177 rfl (lv_at hl 4 rfl) ?_
              refine gflS_16 hx hb hg hown hK hP d_LS_rename_178 ?_
              refine pfl_10 hx hb hg hown hK hP hD hS d_LS_rename_181 (fun H locs hP hD hS => ?_)
              refine lv_aload_n hx hb d_LS_rename_184 rfl (lv_at hl 4 rfl) ?_
              refine lv_aload hx hb d_LS_rename_185 (lv_at hl 0 rfl) ?_
              refine pfl_16 hx hb hg hown hK hP hD hS d_LS_rename_187 (fun H locs hP hD hS => ?_)
              refine lv_iload hx hb d_LS_rename_190 (lv_at hl 2 rfl) ?_
              exact hRet _ _ _ h _ _ hP hD hS _ _ d_LS_rename_192
            · replace h := itp c_157 h
              exact (kne (by decide) h).elim
          · replace h := itf c_108 h
            exact (kne (by decide) h).elim
        · replace h := itp c_33 h
          exact (kne (by decide) h).elim
  · exact absurd (decl_codes e_9) (by decide)
def p_LanguageServer_count (σ τ : Sto) (x1 : Int32) : Option Lr :=
  bd1 (p_Reading_refresh σ) fun σ_4 =>
    (if x1 = 0 then
      some (0, σ_4.1 4, σ_4, τ)
    else
      (if x1 = 1 then
        some (0, σ_4.1 3, σ_4, τ)
      else
        (if x1 = 2 then
          some (0, σ_4.1 1, σ_4, τ)
        else
          some (1, 0, σ_4, τ))))
abbrev w_LS_count : List Cond := Cond.code y_LS_count b_LS_count 2 (some .int) :: Tg
abbrev r_LS_count : Room := { frames := 7, cells := 0, slots := 0, locals := 162 }
abbrev rt_LS_count : Room := { frames := 7, cells := 1, slots := 6, locals := 162 }
theorem dv_LS_count : y_LS_count.cls = "LanguageServer" ∧ y_LS_count.cls ≠ "java/lang/invoke/MethodHandle" ∧ y_LS_count.cls ≠ "java/lang/invoke/VarHandle" ∧ (parseMethodDescriptor y_LS_count.desc).map (fun d => d.parameters.length) = some 1 := by decide +kernel
set_option maxHeartbeats 4000000 in
set_option maxRecDepth 100000 in
theorem c_LS_count (l : Launch) (K : Kst) (a : Nat) (A B : Nat → Nat) {σ τ : Sto} {x1 : Int32} {rr : Int32} {ss tt : Sto} (h : p_LanguageServer_count σ τ x1 = some (0, rr, ss, tt)) : Met l y_LS_count w_LS_count r_LS_count (va_Pc [.ref a, .int x1] (LB K a A B σ τ)) (va_Qi (S := Unit) (fun v _ => v = rr) (fun _ t => LB K a A B ss tt t) (LF a A B)) 0 0 (LF a A B) := by
  refine Met.ofW (cc := b_LS_count) (maxL := 2) (ret := (some .int)) (by decide) rfl ?_
  intro p e s m args below meth c s₁ Bd hml hv
  obtain ⟨rfl, hP, hLK, hD⟩ := hv
  have hK := hLK.1
  have hx := Bd.exec
  have hb := Bd.bytes
  have hr := Bd.returns
  have hts := atoms_spec (ws := w_LS_count) Bd.pre
  have hg : ∀ w ∈ Tg, w.before _ s = true := fun w q => hts w (List.mem_cons_of_mem _ q)
  have hown : s.vm.findClass "LanguageServer" = some m.cls := findClass_of_methodNamed Bd.named
  have hlocks := Bd.notSynchronized
  have hS : va_S (LF a A B) s.heap s.heap [] := va_S.rf
  have hl := lv_entry ([.ref a, .int x1]) (n := 2) (Nat.le_of_ble_eq_true rfl)
  rw [lg_entry_eq]
  generalize (lg_sl ([.ref a, .int x1]) ++ List.replicate (2 - (lg_sl ([.ref a, .int x1])).length) Slot.unset).toArray = ls at hl ⊢
  have hl : lv_has ls 2 [(0, .ref a), (1, .int x1)] := hl
  generalize hargs : ([.ref a, .int x1] : List Value).toArray = args at hg hts ⊢
  have hRet : ∀ (v : Int32) (σ τ : Sto), some ((0, v, σ, τ) : Lr) = some (0, rr, ss, tt) → ∀ (H : Heap) (locs : List Loc), va_P K.1 vwCl (wL K a A B σ τ) H → va_D (LF a A B) (wL K a A B σ τ) → va_S (LF a A B) s.heap H locs → ∀ (pc : Nat) (ls : Array Slot), decode b_LS_count pc = .ok (.ireturn, 1) → W p l e (headSpec w_LS_count r_LS_count).room s m args below meth c H locs 0 0 (MQ below (va_Qi (S := Unit) (fun v _ => v = rr) (fun _ t => LB K a A B ss tt t) (LF a A B)) args s 0 0 (LF a A B)) (F0 m pc ls [.int v]) := by
    intro v σ τ h H locs hP hD hS pc ls hd
    cases h
    exact W.iret hx hb hr (fun t ht hW => ⟨⟨_, (), rfl, rfl, LB_of hLK hS hP hD hW (fun q _ => by rw [ht])⟩, hS.F ht⟩) hS.2.2 hd
  unfold p_LanguageServer_count at h
  refine lv_aload_n hx hb d_LS_count_0 rfl (lv_at hl 0 rfl) ?_
  refine gflS_10 hx hb hg hown hK hP d_LS_count_1 ?_
  obtain ⟨σ_4, e_4, h⟩ := bd1_some h
  refine G_callv (A := A) (σ := σ) (w1 := ([(a, .inr (0, [.ref (A 0), .ref (B 0)]))] : va_W)) (w2 := (wR K B τ)) (va_runV (As := []) (rest := []) ⟨hx, hb, hml, hown, hts⟩ (c_Reading_refresh l K A e_4) (cwV 0 hts (gd_V wd_309 wd_310 wd_311 wd_2 wd_312) rfl rfl rfl dv_Reading_refresh ⟨Nat.le_of_ble_eq_true rfl, Nat.le_of_ble_eq_true rfl⟩) (R_pv_0 (A := A) hK (mid_P (w1 := ([(a, .inr (0, [.ref (A 0), .ref (B 0)]))] : va_W)) (w2 := (wR K B τ)) hP) (mid_D (w1 := ([(a, .inr (0, [.ref (A 0), .ref (B 0)]))] : va_W)) (w2 := (wR K B τ)) hD (fun _ _ h => wR_in h))) rfl rfl hl.1 rfl (lv_room (Nat.le_of_ble_eq_true rfl)) d_LS_count_4 ⟨Nat.le_of_ble_eq_true rfl, Nat.le_of_ble_eq_true rfl⟩) hP hD hS (fun H locs hP hD hS => ?_)
  have hP : va_P K.1 vwCl (wL K a A B σ_4 τ) H := hP
  have hD : va_D (LF a A B) (wL K a A B σ_4 τ) := hD
  refine lv_iload_n hx hb d_LS_count_7 rfl (lv_at hl 1 rfl) ?_
  refine lv_if_ne (tgt := 22) hx hb d_LS_count_8 (by decide) (fun c_8 => ?_) (fun c_8 => ?_)
  · replace h := itf c_8 h
    refine lv_iload_n hx hb d_LS_count_22 rfl (lv_at hl 1 rfl) ?_
    refine lv_iconst (v := 1) hx hb d_LS_count_23 (by decide) ?_
    refine lv_icmp_ne (tgt := 38) hx hb d_LS_count_24 (by decide) (fun c_24 => ?_) (fun c_24 => ?_)
    · replace h := itf c_24 h
      refine lv_iload_n hx hb d_LS_count_38 rfl (lv_at hl 1 rfl) ?_
      refine lv_iconst (v := 2) hx hb d_LS_count_39 (by decide) ?_
      refine lv_icmp_ne (tgt := 54) hx hb d_LS_count_40 (by decide) (fun c_40 => ?_) (fun c_40 => ?_)
      · replace h := itf c_40 h
        exact (kne (by decide) h).elim
      · replace h := itp c_40 h
        refine lv_aload_n hx hb d_LS_count_43 rfl (lv_at hl 0 rfl) ?_
        refine gflS_10 hx hb hg hown hK hP d_LS_count_44 ?_
        refine gflA_19 hx hb hg hown hK hP d_LS_count_47 ?_
        refine gflA_23 hx hb hg hown hK hP d_LS_count_50 ?_
        exact hRet _ _ _ h _ _ hP hD hS _ _ d_LS_count_53
    · replace h := itp c_24 h
      refine lv_aload_n hx hb d_LS_count_27 rfl (lv_at hl 0 rfl) ?_
      refine gflS_10 hx hb hg hown hK hP d_LS_count_28 ?_
      refine gflA_115 hx hb hg hown hK hP d_LS_count_31 ?_
      refine gflA_167 hx hb hg hown hK hP d_LS_count_34 ?_
      exact hRet _ _ _ h _ _ hP hD hS _ _ d_LS_count_37
  · replace h := itp c_8 h
    refine lv_aload_n hx hb d_LS_count_11 rfl (lv_at hl 0 rfl) ?_
    refine gflS_10 hx hb hg hown hK hP d_LS_count_12 ?_
    refine gflA_115 hx hb hg hown hK hP d_LS_count_15 ?_
    refine gflA_164 hx hb hg hown hK hP d_LS_count_18 ?_
    exact hRet _ _ _ h _ _ hP hD hS _ _ d_LS_count_21
set_option maxHeartbeats 4000000 in
set_option maxRecDepth 100000 in
theorem ct_LS_count_1 (l : Launch) (hlt : l.stackTraces = false) (K : Kst) (a : Nat) (A B : Nat → Nat) {σ τ : Sto} {x1 : Int32} {rr : Int32} {ss tt : Sto} (h : p_LanguageServer_count σ τ x1 = some (1, rr, ss, tt)) : MetT l y_LS_count w_LS_count rt_LS_count (va_Pc [.ref a, .int x1] (LB K a A B σ τ)) "java/lang/IllegalArgumentException" (LB K a A B ss tt) (LF a A B) 1 6 (LF a A B) := by
  refine MetT.ofW (cc := b_LS_count) (maxL := 2) (ret := (some .int)) (by decide) rfl ?_
  intro p e s m args below meth c s₁ Bd hml hemp hv
  obtain ⟨rfl, hP, hLK, hD⟩ := hv
  have hK := hLK.1
  have hx := Bd.exec
  have hb := Bd.bytes
  have hr := Bd.returns
  have hts := atoms_spec (ws := w_LS_count) Bd.pre
  have hg : ∀ w ∈ Tg, w.before _ s = true := fun w q => hts w (List.mem_cons_of_mem _ q)
  have hown : s.vm.findClass "LanguageServer" = some m.cls := findClass_of_methodNamed Bd.named
  have hlocks := Bd.notSynchronized
  have hFs := noSt hP (F := LF a A B) (fun q h => L_in h)
  have hS : va_S (LF a A B) s.heap s.heap [] := va_S.rf
  have hl := lv_entry ([.ref a, .int x1]) (n := 2) (Nat.le_of_ble_eq_true rfl)
  rw [lg_entry_eq]
  generalize (lg_sl ([.ref a, .int x1]) ++ List.replicate (2 - (lg_sl ([.ref a, .int x1])).length) Slot.unset).toArray = ls at hl ⊢
  have hl : lv_has ls 2 [(0, .ref a), (1, .int x1)] := hl
  generalize hargs : ([.ref a, .int x1] : List Value).toArray = args at hg hts ⊢
  unfold p_LanguageServer_count at h
  refine lv_aload_n hx hb d_LS_count_0 rfl (lv_at hl 0 rfl) ?_
  refine gflS_10 hx hb hg hown hK hP d_LS_count_1 ?_
  obtain ⟨σ_4, e_4, h⟩ := bd1_some h
  refine G_callv (A := A) (σ := σ) (w1 := ([(a, .inr (0, [.ref (A 0), .ref (B 0)]))] : va_W)) (w2 := (wR K B τ)) (va_runV (As := []) (rest := []) ⟨hx, hb, hml, hown, hts⟩ (c_Reading_refresh l K A e_4) (cwV 0 hts (gd_V wd_309 wd_310 wd_311 wd_2 wd_312) rfl rfl rfl dv_Reading_refresh ⟨Nat.le_of_ble_eq_true rfl, Nat.le_of_ble_eq_true rfl⟩) (R_pv_0 (A := A) hK (mid_P (w1 := ([(a, .inr (0, [.ref (A 0), .ref (B 0)]))] : va_W)) (w2 := (wR K B τ)) hP) (mid_D (w1 := ([(a, .inr (0, [.ref (A 0), .ref (B 0)]))] : va_W)) (w2 := (wR K B τ)) hD (fun _ _ h => wR_in h))) rfl rfl hl.1 rfl (lv_room (Nat.le_of_ble_eq_true rfl)) d_LS_count_4 ⟨Nat.le_of_ble_eq_true rfl, Nat.le_of_ble_eq_true rfl⟩) hP hD hS (fun H locs hP hD hS => ?_)
  have hP : va_P K.1 vwCl (wL K a A B σ_4 τ) H := hP
  have hD : va_D (LF a A B) (wL K a A B σ_4 τ) := hD
  refine lv_iload_n hx hb d_LS_count_7 rfl (lv_at hl 1 rfl) ?_
  refine lv_if_ne (tgt := 22) hx hb d_LS_count_8 (by decide) (fun c_8 => ?_) (fun c_8 => ?_)
  · replace h := itf c_8 h
    refine lv_iload_n hx hb d_LS_count_22 rfl (lv_at hl 1 rfl) ?_
    refine lv_iconst (v := 1) hx hb d_LS_count_23 (by decide) ?_
    refine lv_icmp_ne (tgt := 38) hx hb d_LS_count_24 (by decide) (fun c_24 => ?_) (fun c_24 => ?_)
    · replace h := itf c_24 h
      refine lv_iload_n hx hb d_LS_count_38 rfl (lv_at hl 1 rfl) ?_
      refine lv_iconst (v := 2) hx hb d_LS_count_39 (by decide) ?_
      refine lv_icmp_ne (tgt := 54) hx hb d_LS_count_40 (by decide) (fun c_40 => ?_) (fun c_40 => ?_)
      · replace h := itf c_40 h
        cases h
        exact T_throw (own := "LanguageServer") (X := "java/lang/IllegalArgumentException") (text := "classes (0), tokens (1) and characters (2) are counted") hx hb hlt hown (by decide +kernel) (xat_IAE hg hLK.2.1 hLK.2.2) dx_IAE_0 dx_IAE_1 dx_IAE_2 dx_IAE_5 (hg _ wd_606) (hg _ wd_14) (hLK.2.1.2.2 (170, "classes (0), tokens (1) and characters (2) are counted") (by decide)) (hl.1.trans hml.symm) hemp hlocks hS hFs (fun t hW hz hk => LB_of hLK hS hP hD hW hk) hS.2.2 (Nat.le_of_ble_eq_true rfl) (Nat.le_of_ble_eq_true rfl) (Nat.le_of_ble_eq_true rfl) (Nat.le_of_ble_eq_true rfl) (Nat.le_of_ble_eq_true rfl) (Nat.le_of_ble_eq_true rfl) d_LS_count_54 d_LS_count_57 d_LS_count_58 d_LS_count_60 d_LS_count_63
      · replace h := itp c_40 h
        refine lv_aload_n hx hb d_LS_count_43 rfl (lv_at hl 0 rfl) ?_
        refine gflS_10 hx hb hg hown hK hP d_LS_count_44 ?_
        refine gflA_19 hx hb hg hown hK hP d_LS_count_47 ?_
        refine gflA_23 hx hb hg hown hK hP d_LS_count_50 ?_
        exact (kne (by decide) h).elim
    · replace h := itp c_24 h
      refine lv_aload_n hx hb d_LS_count_27 rfl (lv_at hl 0 rfl) ?_
      refine gflS_10 hx hb hg hown hK hP d_LS_count_28 ?_
      refine gflA_115 hx hb hg hown hK hP d_LS_count_31 ?_
      refine gflA_167 hx hb hg hown hK hP d_LS_count_34 ?_
      exact (kne (by decide) h).elim
  · replace h := itp c_8 h
    refine lv_aload_n hx hb d_LS_count_11 rfl (lv_at hl 0 rfl) ?_
    refine gflS_10 hx hb hg hown hK hP d_LS_count_12 ?_
    refine gflA_115 hx hb hg hown hK hP d_LS_count_15 ?_
    refine gflA_164 hx hb hg hown hK hP d_LS_count_18 ?_
    exact (kne (by decide) h).elim
