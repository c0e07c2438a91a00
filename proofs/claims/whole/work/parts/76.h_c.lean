abbrev w_Law_insert : List Cond := Cond.codeWith y_Law_insert b_Law_insert 5 (some .int) [(0, 10, 13, 13), (0, 10, 17, 15)] :: Tg
abbrev r_Law_insert : Room := { frames := 7, cells := 1, slots := 6, locals := 113 }
theorem ds_Law_insert : y_Law_insert.cls ≠ "java/lang/invoke/MethodHandle" ∧ y_Law_insert.cls ≠ "java/lang/invoke/VarHandle" ∧ (parseMethodDescriptor y_Law_insert.desc).map (fun d => d.parameters.length) = some 4 := by decide +kernel
set_option maxHeartbeats 4000000 in
set_option maxRecDepth 100000 in
theorem ch_insert_0 (l : Launch) (hlt : l.stackTraces = false) (K : Kst) (a o : Nat) (A B : Nat → Nat) (f : Nat → Int64) {σ τ : Sto} {x1 : Int32} {x2 : Int32} {rr : Int32} {ss tt : Sto} (h : p_LanguageServer_insert σ τ x1 x2 = some (0, rr, ss, tt)) : Met l y_Law_insert w_Law_insert r_Law_insert (va_Pc [.ref a, .int x1, .int x2, .ref o] (HB K a A B σ τ o f)) (va_Qi (S := Unit) (fun v _ => v = 0) (fun _ t => HB K a A B ss tt o (vp_updL f 0 rr.toInt64) t) (HF a A B o)) 1 6 (HF a A B o) := by
  refine va_MetW (cc := b_Law_insert) (maxL := 5) (ret := (some .int)) (hh := [(0, 10, 13, 13), (0, 10, 17, 15)]) (by decide) rfl ?_
  intro p e s m args below meth c s₁ Bd hml hv
  obtain ⟨rfl, hP, hHK, hD⟩ := hv
  have hK := hHK.1.1
  have hx := Bd.exec
  have hb := Bd.bytes
  have hr := Bd.returns
  have hts := atoms_spec (ws := w_Law_insert) Bd.pre
  have hg : ∀ w ∈ Tg, w.before _ s = true := fun w q => hts w (List.mem_cons_of_mem _ q)
  have hown : s.vm.findClass "LanguageServerLaw" = some m.cls := findClass_of_methodNamed Bd.named
  have hlocks := Bd.notSynchronized
  have hS : va_S (HF a A B o) s.heap s.heap [] := va_S.rf
  have hl := lv_entry ([.ref a, .int x1, .int x2, .ref o]) (n := 5) (Nat.le_of_ble_eq_true rfl)
  rw [lg_entry_eq]
  generalize (lg_sl ([.ref a, .int x1, .int x2, .ref o]) ++ List.replicate (5 - (lg_sl ([.ref a, .int x1, .int x2, .ref o])).length) Slot.unset).toArray = ls at hl ⊢
  have hl : lv_has ls 5 [(0, .ref a), (1, .int x1), (2, .int x2), (3, .ref o)] := hl
  generalize hargs : ([.ref a, .int x1, .int x2, .ref o] : List Value).toArray = args at hg hts ⊢
  refine lv_aload_n hx hb d_Law_insert_0 rfl (lv_at hl 3 rfl) ?_
  refine lv_iconst (v := 0) hx hb d_Law_insert_1 (by decide) ?_
  refine lv_aload_n hx hb d_Law_insert_2 rfl (lv_at hl 0 rfl) ?_
  refine lv_iload_n hx hb d_Law_insert_3 rfl (lv_at hl 1 rfl) ?_
  refine lv_iload_n hx hb d_Law_insert_4 rfl (lv_at hl 2 rfl) ?_
  refine H_calli (va_runV (As := [.int x1, .int x2]) (rest := [.int 0, .ref o]) ⟨hx, hb, hml, hown, hts⟩ (c_LS_insert l K a A B h) (cwV 2 hts (gd_V wd_599 wd_600 wd_601 wd_1 wd_602) rfl rfl rfl dv_LS_insert ⟨Nat.le_of_ble_eq_true rfl, Nat.le_of_ble_eq_true rfl⟩) (H_pv hHK hS hP hD) rfl rfl hl.1 rfl (lv_room (Nat.le_of_ble_eq_true rfl)) d_Law_insert_5 ⟨Nat.le_of_ble_eq_true rfl, Nat.le_of_ble_eq_true rfl⟩) hP hD hS (fun H locs hP hD hS => ?_)
  refine lv_i2l hx hb d_Law_insert_8 rfl ?_
  refine va_last hx hb hK.1 hP hD hS 59 1 rfl rfl (show vp_in 0 1 by show inR 0 1; decide) d_Law_insert_9 (fun H locs hP hD hS => ?_)
  have hP : va_P K.1 vwCl (wH K a A B ss tt o (vp_updL f 0 rr.toInt64)) H := hP
  have hD : va_D (HF a A B o) (wH K a A B ss tt o (vp_updL f 0 rr.toInt64)) := hD
  refine lv_goto (tgt := 21) hx hb d_Law_insert_10 (by decide) ?_
  refine lv_iconst (v := 0) hx hb d_Law_insert_21 (by decide) ?_
  refine W.widen (k := 1) (n := 6) (Nat.le_of_ble_eq_true rfl) (Nat.le_of_ble_eq_true rfl) ?_
  exact W.iret hx hb hr (fun t ht hW => ⟨⟨_, (), rfl, rfl, by rw [ht]; exact hP, HB_of hHK hS hW ht (fun q h => h), hD⟩, hS.F ht⟩) hS.2.2 d_Law_insert_22
set_option maxHeartbeats 4000000 in
set_option maxRecDepth 100000 in
theorem ch_insert_1 (l : Launch) (hlt : l.stackTraces = false) (K : Kst) (a o : Nat) (A B : Nat → Nat) (f : Nat → Int64) {σ τ : Sto} {x1 : Int32} {x2 : Int32} {rr : Int32} {ss tt : Sto} (h : p_LanguageServer_insert σ τ x1 x2 = some (1, rr, ss, tt)) : Met l y_Law_insert w_Law_insert r_Law_insert (va_Pc [.ref a, .int x1, .int x2, .ref o] (HB K a A B σ τ o f)) (va_Qi (S := Unit) (fun v _ => v = 1) (fun _ t => HB K a A B ss tt o f t) (HF a A B o)) 1 6 (HF a A B o) := by
  refine va_MetW (cc := b_Law_insert) (maxL := 5) (ret := (some .int)) (hh := [(0, 10, 13, 13), (0, 10, 17, 15)]) (by decide) rfl ?_
  intro p e s m args below meth c s₁ Bd hml hv
  obtain ⟨rfl, hP, hHK, hD⟩ := hv
  have hK := hHK.1.1
  have hx := Bd.exec
  have hb := Bd.bytes
  have hr := Bd.returns
  have hts := atoms_spec (ws := w_Law_insert) Bd.pre
  have hg : ∀ w ∈ Tg, w.before _ s = true := fun w q => hts w (List.mem_cons_of_mem _ q)
  have hown : s.vm.findClass "LanguageServerLaw" = some m.cls := findClass_of_methodNamed Bd.named
  have hlocks := Bd.notSynchronized
  have hS : va_S (HF a A B o) s.heap s.heap [] := va_S.rf
  have htab : c.exceptionTable.toList = ([(0, 10, 13, 13), (0, 10, 17, 15)] : List (Nat × Nat × Nat × Nat)).map (fun q => ⟨q.1, q.2.1, q.2.2.1, q.2.2.2⟩) := by
    obtain ⟨m9, meth9, c9, hn9, h1, h2, -, -, h6, -⟩ := Cond.codeWith_spec (hts _ List.mem_cons_self)
    cases Option.some.inj (hn9.symm.trans Bd.named)
    cases Option.some.inj (h1.symm.trans Bd.method)
    cases Option.some.inj (h2.symm.trans (Stand.of_body Bd).code)
    exact tab_of _ _ h6
  have hl := lv_entry ([.ref a, .int x1, .int x2, .ref o]) (n := 5) (Nat.le_of_ble_eq_true rfl)
  rw [lg_entry_eq]
  generalize (lg_sl ([.ref a, .int x1, .int x2, .ref o]) ++ List.replicate (5 - (lg_sl ([.ref a, .int x1, .int x2, .ref o])).length) Slot.unset).toArray = ls at hl ⊢
  have hl : lv_has ls 5 [(0, .ref a), (1, .int x1), (2, .int x2), (3, .ref o)] := hl
  generalize hargs : ([.ref a, .int x1, .int x2, .ref o] : List Value).toArray = args at hg hts ⊢
  refine lv_aload_n hx hb d_Law_insert_0 rfl (lv_at hl 3 rfl) ?_
  refine lv_iconst (v := 0) hx hb d_Law_insert_1 (by decide) ?_
  refine lv_aload_n hx hb d_Law_insert_2 rfl (lv_at hl 0 rfl) ?_
  refine lv_iload_n hx hb d_Law_insert_3 rfl (lv_at hl 1 rfl) ?_
  refine lv_iload_n hx hb d_Law_insert_4 rfl (lv_at hl 2 rfl) ?_
  refine T_caught (own := "LanguageServerLaw") (nm := "java/lang/IllegalArgumentException") (T_runV (As := [.int x1, .int x2]) (rest := [.int 0, .ref o]) ⟨hx, hb, hml, hown, hts⟩ (ct_LS_insert_1 l hlt K a A B h) (cwV 2 hts (gd_V wd_599 wd_600 wd_601 wd_1 wd_602) rfl rfl rfl dv_LS_insert ⟨Nat.le_of_ble_eq_true rfl, Nat.le_of_ble_eq_true rfl⟩) (H_pv hHK hS hP hD) rfl rfl hl.1 rfl (lv_room (Nat.le_of_ble_eq_true rfl)) d_Law_insert_5 ⟨Nat.le_of_ble_eq_true rfl, Nat.le_of_ble_eq_true rfl⟩) hown [] ⟨0, 10, 13, 13⟩ [⟨0, 10, 17, 15⟩] htab (fun x h => absurd h List.not_mem_nil) (by decide) (by decide) (hg _ wd_597) (hHK.1.2.1.1 "java/lang/IllegalArgumentException" (by decide)) hS (fun q _ h => Or.inl h) (fun q h => Or.inl h) (fun x t H1 locs ht hW hB hz hk hS => ?_)
  obtain ⟨hB1, -, -⟩ := hB
  rw [ht] at hB1
  obtain ⟨hP, hD⟩ := H_back hP hD hB1 hk
  generalize H1 = H at hP hS ⊢
  refine lv_astore (lv' := [(4, .ref x), (0, .ref a), (1, .int x1), (2, .int x2), (3, .ref o)]) hx hb d_Law_insert_13 hl (by decide) rfl (fun ls hl => ?_)
  refine lv_iconst (v := 1) hx hb d_Law_insert_15 (by decide) ?_
  exact W.iret hx hb hr (fun t ht hW => ⟨⟨_, (), rfl, rfl, by rw [ht]; exact hP, HB_of hHK hS hW ht (fun q h => h), hD⟩, hS.F ht⟩) hS.2.2 d_Law_insert_16
set_option maxHeartbeats 4000000 in
set_option maxRecDepth 100000 in
theorem ch_insert_2 (l : Launch) (hlt : l.stackTraces = false) (K : Kst) (a o : Nat) (A B : Nat → Nat) (f : Nat → Int64) {σ τ : Sto} {x1 : Int32} {x2 : Int32} {rr : Int32} {ss tt : Sto} (h : p_LanguageServer_insert σ τ x1 x2 = some (2, rr, ss, tt)) : Met l y_Law_insert w_Law_insert r_Law_insert (va_Pc [.ref a, .int x1, .int x2, .ref o] (HB K a A B σ τ o f)) (va_Qi (S := Unit) (fun v _ => v = 2) (fun _ t => HB K a A B ss tt o f t) (HF a A B o)) 1 6 (HF a A B o) := by
  refine va_MetW (cc := b_Law_insert) (maxL := 5) (ret := (some .int)) (hh := [(0, 10, 13, 13), (0, 10, 17, 15)]) (by decide) rfl ?_
  intro p e s m args below meth c s₁ Bd hml hv
  obtain ⟨rfl, hP, hHK, hD⟩ := hv
  have hK := hHK.1.1
  have hx := Bd.exec
  have hb := Bd.bytes
  have hr := Bd.returns
  have hts := atoms_spec (ws := w_Law_insert) Bd.pre
  have hg : ∀ w ∈ Tg, w.before _ s = true := fun w q => hts w (List.mem_cons_of_mem _ q)
  have hown : s.vm.findClass "LanguageServerLaw" = some m.cls := findClass_of_methodNamed Bd.named
  have hlocks := Bd.notSynchronized
  have hS : va_S (HF a A B o) s.heap s.heap [] := va_S.rf
  have htab : c.exceptionTable.toList = ([(0, 10, 13, 13), (0, 10, 17, 15)] : List (Nat × Nat × Nat × Nat)).map (fun q => ⟨q.1, q.2.1, q.2.2.1, q.2.2.2⟩) := by
    obtain ⟨m9, meth9, c9, hn9, h1, h2, -, -, h6, -⟩ := Cond.codeWith_spec (hts _ List.mem_cons_self)
    cases Option.some.inj (hn9.symm.trans Bd.named)
    cases Option.some.inj (h1.symm.trans Bd.method)
    cases Option.some.inj (h2.symm.trans (Stand.of_body Bd).code)
    exact tab_of _ _ h6
  have hl := lv_entry ([.ref a, .int x1, .int x2, .ref o]) (n := 5) (Nat.le_of_ble_eq_true rfl)
  rw [lg_entry_eq]
  generalize (lg_sl ([.ref a, .int x1, .int x2, .ref o]) ++ List.replicate (5 - (lg_sl ([.ref a, .int x1, .int x2, .ref o])).length) Slot.unset).toArray = ls at hl ⊢
  have hl : lv_has ls 5 [(0, .ref a), (1, .int x1), (2, .int x2), (3, .ref o)] := hl
  generalize hargs : ([.ref a, .int x1, .int x2, .ref o] : List Value).toArray = args at hg hts ⊢
  refine lv_aload_n hx hb d_Law_insert_0 rfl (lv_at hl 3 rfl) ?_
  refine lv_iconst (v := 0) hx hb d_Law_insert_1 (by decide) ?_
  refine lv_aload_n hx hb d_Law_insert_2 rfl (lv_at hl 0 rfl) ?_
  refine lv_iload_n hx hb d_Law_insert_3 rfl (lv_at hl 1 rfl) ?_
  refine lv_iload_n hx hb d_Law_insert_4 rfl (lv_at hl 2 rfl) ?_
  refine T_caught (own := "LanguageServerLaw") (nm := "java/lang/IllegalStateException") (T_runV (As := [.int x1, .int x2]) (rest := [.int 0, .ref o]) ⟨hx, hb, hml, hown, hts⟩ (ct_LS_insert_2 l hlt K a A B h) (cwV 2 hts (gd_V wd_599 wd_600 wd_601 wd_1 wd_602) rfl rfl rfl dv_LS_insert ⟨Nat.le_of_ble_eq_true rfl, Nat.le_of_ble_eq_true rfl⟩) (H_pv hHK hS hP hD) rfl rfl hl.1 rfl (lv_room (Nat.le_of_ble_eq_true rfl)) d_Law_insert_5 ⟨Nat.le_of_ble_eq_true rfl, Nat.le_of_ble_eq_true rfl⟩) hown [⟨0, 10, 13, 13⟩] ⟨0, 10, 17, 15⟩ [] htab (List.forall_mem_cons.mpr ⟨⟨by decide, by decide, "java/lang/IllegalArgumentException", hg _ wd_597, hHK.2.1⟩, fun x h => absurd h List.not_mem_nil⟩) (by decide) (by decide) (hg _ wd_598) (hHK.1.2.1.1 "java/lang/IllegalStateException" (by decide)) hS (fun q _ h => Or.inl h) (fun q h => Or.inl h) (fun x t H1 locs ht hW hB hz hk hS => ?_)
  obtain ⟨hB1, -, -⟩ := hB
  rw [ht] at hB1
  obtain ⟨hP, hD⟩ := H_back hP hD hB1 hk
  generalize H1 = H at hP hS ⊢
  refine lv_astore (lv' := [(4, .ref x), (0, .ref a), (1, .int x1), (2, .int x2), (3, .ref o)]) hx hb d_Law_insert_17 hl (by decide) rfl (fun ls hl => ?_)
  refine lv_iconst (v := 2) hx hb d_Law_insert_19 (by decide) ?_
  exact W.iret hx hb hr (fun t ht hW => ⟨⟨_, (), rfl, rfl, by rw [ht]; exact hP, HB_of hHK hS hW ht (fun q h => h), hD⟩, hS.F ht⟩) hS.2.2 d_Law_insert_20
abbrev w_Law_append : List Cond := Cond.codeWith y_Law_append b_Law_append 6 (some .int) [(0, 11, 14, 13), (0, 11, 18, 15)] :: Tg
abbrev r_Law_append : Room := { frames := 7, cells := 1, slots := 6, locals := 114 }
theorem ds_Law_append : y_Law_append.cls ≠ "java/lang/invoke/MethodHandle" ∧ y_Law_append.cls ≠ "java/lang/invoke/VarHandle" ∧ (parseMethodDescriptor y_Law_append.desc).map (fun d => d.parameters.length) = some 4 := by decide +kernel
set_option maxHeartbeats 4000000 in
set_option maxRecDepth 100000 in
theorem ch_append_0 (l : Launch) (hlt : l.stackTraces = false) (K : Kst) (a o : Nat) (A B : Nat → Nat) (f : Nat → Int64) {σ τ : Sto} {x1 : Int64} {x3 : Int32} {rr : Int32} {ss tt : Sto} (h : p_LanguageServer_append σ τ x1 x3 = some (0, rr, ss, tt)) : Met l y_Law_append w_Law_append r_Law_append (va_Pc [.ref a, .long x1, .int x3, .ref o] (HB K a A B σ τ o f)) (va_Qi (S := Unit) (fun v _ => v = 0) (fun _ t => HB K a A B ss tt o (vp_updL f 0 rr.toInt64) t) (HF a A B o)) 1 6 (HF a A B o) := by
  refine va_MetW (cc := b_Law_append) (maxL := 6) (ret := (some .int)) (hh := [(0, 11, 14, 13), (0, 11, 18, 15)]) (by decide) rfl ?_
  intro p e s m args below meth c s₁ Bd hml hv
  obtain ⟨rfl, hP, hHK, hD⟩ := hv
  have hK := hHK.1.1
  have hx := Bd.exec
  have hb := Bd.bytes
  have hr := Bd.returns
  have hts := atoms_spec (ws := w_Law_append) Bd.pre
  have hg : ∀ w ∈ Tg, w.before _ s = true := fun w q => hts w (List.mem_cons_of_mem _ q)
  have hown : s.vm.findClass "LanguageServerLaw" = some m.cls := findClass_of_methodNamed Bd.named
  have hlocks := Bd.notSynchronized
  have hS : va_S (HF a A B o) s.heap s.heap [] := va_S.rf
  have hl := lv_entry ([.ref a, .long x1, .int x3, .ref o]) (n := 6) (Nat.le_of_ble_eq_true rfl)
  rw [lg_entry_eq]
  generalize (lg_sl ([.ref a, .long x1, .int x3, .ref o]) ++ List.replicate (6 - (lg_sl ([.ref a, .long x1, .int x3, .ref o])).length) Slot.unset).toArray = ls at hl ⊢
  have hl : lv_has ls 6 [(0, .ref a), (1, .long x1), (3, .int x3), (4, .ref o)] := hl
  generalize hargs : ([.ref a, .long x1, .int x3, .ref o] : List Value).toArray = args at hg hts ⊢
  refine lv_aload hx hb d_Law_append_0 (lv_at hl 3 rfl) ?_
  refine lv_iconst (v := 0) hx hb d_Law_append_2 (by decide) ?_
  refine lv_aload_n hx hb d_Law_append_3 rfl (lv_at hl 0 rfl) ?_
  refine lv_lload_n hx hb d_Law_append_4 rfl (lv_at hl 1 rfl) ?_
  refine lv_iload_n hx hb d_Law_append_5 rfl (lv_at hl 2 rfl) ?_
  refine H_calli (va_runV (As := [.long x1, .int x3]) (rest := [.int 0, .ref o]) ⟨hx, hb, hml, hown, hts⟩ (c_LS_append l K a A B h) (cwV 2 hts (gd_V wd_704 wd_705 wd_706 wd_1 wd_707) rfl rfl rfl dv_LS_append ⟨Nat.le_of_ble_eq_true rfl, Nat.le_of_ble_eq_true rfl⟩) (H_pv hHK hS hP hD) rfl rfl hl.1 rfl (lv_room (Nat.le_of_ble_eq_true rfl)) d_Law_append_6 ⟨Nat.le_of_ble_eq_true rfl, Nat.le_of_ble_eq_true rfl⟩) hP hD hS (fun H locs hP hD hS => ?_)
  refine lv_i2l hx hb d_Law_append_9 rfl ?_
  refine va_last hx hb hK.1 hP hD hS 59 1 rfl rfl (show vp_in 0 1 by show inR 0 1; decide) d_Law_append_10 (fun H locs hP hD hS => ?_)
  have hP : va_P K.1 vwCl (wH K a A B ss tt o (vp_updL f 0 rr.toInt64)) H := hP
  have hD : va_D (HF a A B o) (wH K a A B ss tt o (vp_updL f 0 rr.toInt64)) := hD
  refine lv_goto (tgt := 22) hx hb d_Law_append_11 (by decide) ?_
  refine lv_iconst (v := 0) hx hb d_Law_append_22 (by decide) ?_
  refine W.widen (k := 1) (n := 6) (Nat.le_of_ble_eq_true rfl) (Nat.le_of_ble_eq_true rfl) ?_
  exact W.iret hx hb hr (fun t ht hW => ⟨⟨_, (), rfl, rfl, by rw [ht]; exact hP, HB_of hHK hS hW ht (fun q h => h), hD⟩, hS.F ht⟩) hS.2.2 d_Law_append_23
set_option maxHeartbeats 4000000 in
set_option maxRecDepth 100000 in
theorem ch_append_1 (l : Launch) (hlt : l.stackTraces = false) (K : Kst) (a o : Nat) (A B : Nat → Nat) (f : Nat → Int64) {σ τ : Sto} {x1 : Int64} {x3 : Int32} {rr : Int32} {ss tt : Sto} (h : p_LanguageServer_append σ τ x1 x3 = some (1, rr, ss, tt)) : Met l y_Law_append w_Law_append r_Law_append (va_Pc [.ref a, .long x1, .int x3, .ref o] (HB K a A B σ τ o f)) (va_Qi (S := Unit) (fun v _ => v = 1) (fun _ t => HB K a A B ss tt o f t) (HF a A B o)) 1 6 (HF a A B o) := by
  refine va_MetW (cc := b_Law_append) (maxL := 6) (ret := (some .int)) (hh := [(0, 11, 14, 13), (0, 11, 18, 15)]) (by decide) rfl ?_
  intro p e s m args below meth c s₁ Bd hml hv
  obtain ⟨rfl, hP, hHK, hD⟩ := hv
  have hK := hHK.1.1
  have hx := Bd.exec
  have hb := Bd.bytes
  have hr := Bd.returns
  have hts := atoms_spec (ws := w_Law_append) Bd.pre
  have hg : ∀ w ∈ Tg, w.before _ s = true := fun w q => hts w (List.mem_cons_of_mem _ q)
  have hown : s.vm.findClass "LanguageServerLaw" = some m.cls := findClass_of_methodNamed Bd.named
  have hlocks := Bd.notSynchronized
  have hS : va_S (HF a A B o) s.heap s.heap [] := va_S.rf
  have htab : c.exceptionTable.toList = ([(0, 11, 14, 13), (0, 11, 18, 15)] : List (Nat × Nat × Nat × Nat)).map (fun q => ⟨q.1, q.2.1, q.2.2.1, q.2.2.2⟩) := by
    obtain ⟨m9, meth9, c9, hn9, h1, h2, -, -, h6, -⟩ := Cond.codeWith_spec (hts _ List.mem_cons_self)
    cases Option.some.inj (hn9.symm.trans Bd.named)
    cases Option.some.inj (h1.symm.trans Bd.method)
    cases Option.some.inj (h2.symm.trans (Stand.of_body Bd).code)
    exact tab_of _ _ h6
  have hl := lv_entry ([.ref a, .long x1, .int x3, .ref o]) (n := 6) (Nat.le_of_ble_eq_true rfl)
  rw [lg_entry_eq]
  generalize (lg_sl ([.ref a, .long x1, .int x3, .ref o]) ++ List.replicate (6 - (lg_sl ([.ref a, .long x1, .int x3, .ref o])).length) Slot.unset).toArray = ls at hl ⊢
  have hl : lv_has ls 6 [(0, .ref a), (1, .long x1), (3, .int x3), (4, .ref o)] := hl
  generalize hargs : ([.ref a, .long x1, .int x3, .ref o] : List Value).toArray = args at hg hts ⊢
  refine lv_aload hx hb d_Law_append_0 (lv_at hl 3 rfl) ?_
  refine lv_iconst (v := 0) hx hb d_Law_append_2 (by decide) ?_
  refine lv_aload_n hx hb d_Law_append_3 rfl (lv_at hl 0 rfl) ?_
  refine lv_lload_n hx hb d_Law_append_4 rfl (lv_at hl 1 rfl) ?_
  refine lv_iload_n hx hb d_Law_append_5 rfl (lv_at hl 2 rfl) ?_
  refine T_caught (own := "LanguageServerLaw") (nm := "java/lang/IllegalArgumentException") (T_runV (As := [.long x1, .int x3]) (rest := [.int 0, .ref o]) ⟨hx, hb, hml, hown, hts⟩ (ct_LS_append_1 l hlt K a A B h) (cwV 2 hts (gd_V wd_704 wd_705 wd_706 wd_1 wd_707) rfl rfl rfl dv_LS_append ⟨Nat.le_of_ble_eq_true rfl, Nat.le_of_ble_eq_true rfl⟩) (H_pv hHK hS hP hD) rfl rfl hl.1 rfl (lv_room (Nat.le_of_ble_eq_true rfl)) d_Law_append_6 ⟨Nat.le_of_ble_eq_true rfl, Nat.le_of_ble_eq_true rfl⟩) hown [] ⟨0, 11, 14, 13⟩ [⟨0, 11, 18, 15⟩] htab (fun x h => absurd h List.not_mem_nil) (by decide) (by decide) (hg _ wd_597) (hHK.1.2.1.1 "java/lang/IllegalArgumentException" (by decide)) hS (fun q _ h => Or.inl h) (fun q h => Or.inl h) (fun x t H1 locs ht hW hB hz hk hS => ?_)
  obtain ⟨hB1, -, -⟩ := hB
  rw [ht] at hB1
  obtain ⟨hP, hD⟩ := H_back hP hD hB1 hk
  generalize H1 = H at hP hS ⊢
  refine lv_astore (lv' := [(5, .ref x), (0, .ref a), (1, .long x1), (3, .int x3), (4, .ref o)]) hx hb d_Law_append_14 hl (by decide) rfl (fun ls hl => ?_)
  refine lv_iconst (v := 1) hx hb d_Law_append_16 (by decide) ?_
  exact W.iret hx hb hr (fun t ht hW => ⟨⟨_, (), rfl, rfl, by rw [ht]; exact hP, HB_of hHK hS hW ht (fun q h => h), hD⟩, hS.F ht⟩) hS.2.2 d_Law_append_17
set_option maxHeartbeats 4000000 in
set_option maxRecDepth 100000 in
theorem ch_append_2 (l : Launch) (hlt : l.stackTraces = false) (K : Kst) (a o : Nat) (A B : Nat → Nat) (f : Nat → Int64) {σ τ : Sto} {x1 : Int64} {x3 : Int32} {rr : Int32} {ss tt : Sto} (h : p_LanguageServer_append σ τ x1 x3 = some (2, rr, ss, tt)) : Met l y_Law_append w_Law_append r_Law_append (va_Pc [.ref a, .long x1, .int x3, .ref o] (HB K a A B σ τ o f)) (va_Qi (S := Unit) (fun v _ => v = 2) (fun _ t => HB K a A B ss tt o f t) (HF a A B o)) 1 6 (HF a A B o) := by
  refine va_MetW (cc := b_Law_append) (maxL := 6) (ret := (some .int)) (hh := [(0, 11, 14, 13), (0, 11, 18, 15)]) (by decide) rfl ?_
  intro p e s m args below meth c s₁ Bd hml hv
  obtain ⟨rfl, hP, hHK, hD⟩ := hv
  have hK := hHK.1.1
  have hx := Bd.exec
  have hb := Bd.bytes
  have hr := Bd.returns
  have hts := atoms_spec (ws := w_Law_append) Bd.pre
  have hg : ∀ w ∈ Tg, w.before _ s = true := fun w q => hts w (List.mem_cons_of_mem _ q)
  have hown : s.vm.findClass "LanguageServerLaw" = some m.cls := findClass_of_methodNamed Bd.named
  have hlocks := Bd.notSynchronized
  have hS : va_S (HF a A B o) s.heap s.heap [] := va_S.rf
  have htab : c.exceptionTable.toList = ([(0, 11, 14, 13), (0, 11, 18, 15)] : List (Nat × Nat × Nat × Nat)).map (fun q => ⟨q.1, q.2.1, q.2.2.1, q.2.2.2⟩) := by
    obtain ⟨m9, meth9, c9, hn9, h1, h2, -, -, h6, -⟩ := Cond.codeWith_spec (hts _ List.mem_cons_self)
    cases Option.some.inj (hn9.symm.trans Bd.named)
    cases Option.some.inj (h1.symm.trans Bd.method)
    cases Option.some.inj (h2.symm.trans (Stand.of_body Bd).code)
    exact tab_of _ _ h6
  have hl := lv_entry ([.ref a, .long x1, .int x3, .ref o]) (n := 6) (Nat.le_of_ble_eq_true rfl)
  rw [lg_entry_eq]
  generalize (lg_sl ([.ref a, .long x1, .int x3, .ref o]) ++ List.replicate (6 - (lg_sl ([.ref a, .long x1, .int x3, .ref o])).length) Slot.unset).toArray = ls at hl ⊢
  have hl : lv_has ls 6 [(0, .ref a), (1, .long x1), (3, .int x3), (4, .ref o)] := hl
  generalize hargs : ([.ref a, .long x1, .int x3, .ref o] : List Value).toArray = args at hg hts ⊢
  refine lv_aload hx hb d_Law_append_0 (lv_at hl 3 rfl) ?_
  refine lv_iconst (v := 0) hx hb d_Law_append_2 (by decide) ?_
  refine lv_aload_n hx hb d_Law_append_3 rfl (lv_at hl 0 rfl) ?_
  refine lv_lload_n hx hb d_Law_append_4 rfl (lv_at hl 1 rfl) ?_
  refine lv_iload_n hx hb d_Law_append_5 rfl (lv_at hl 2 rfl) ?_
  refine T_caught (own := "LanguageServerLaw") (nm := "java/lang/IllegalStateException") (T_runV (As := [.long x1, .int x3]) (rest := [.int 0, .ref o]) ⟨hx, hb, hml, hown, hts⟩ (ct_LS_append_2 l hlt K a A B h) (cwV 2 hts (gd_V wd_704 wd_705 wd_706 wd_1 wd_707) rfl rfl rfl dv_LS_append ⟨Nat.le_of_ble_eq_true rfl, Nat.le_of_ble_eq_true rfl⟩) (H_pv hHK hS hP hD) rfl rfl hl.1 rfl (lv_room (Nat.le_of_ble_eq_true rfl)) d_Law_append_6 ⟨Nat.le_of_ble_eq_true rfl, Nat.le_of_ble_eq_true rfl⟩) hown [⟨0, 11, 14, 13⟩] ⟨0, 11, 18, 15⟩ [] htab (List.forall_mem_cons.mpr ⟨⟨by decide, by decide, "java/lang/IllegalArgumentException", hg _ wd_597, hHK.2.1⟩, fun x h => absurd h List.not_mem_nil⟩) (by decide) (by decide) (hg _ wd_598) (hHK.1.2.1.1 "java/lang/IllegalStateException" (by decide)) hS (fun q _ h => Or.inl h) (fun q h => Or.inl h) (fun x t H1 locs ht hW hB hz hk hS => ?_)
  obtain ⟨hB1, -, -⟩ := hB
  rw [ht] at hB1
  obtain ⟨hP, hD⟩ := H_back hP hD hB1 hk
  generalize H1 = H at hP hS ⊢
  refine lv_astore (lv' := [(5, .ref x), (0, .ref a), (1, .long x1), (3, .int x3), (4, .ref o)]) hx hb d_Law_append_18 hl (by decide) rfl (fun ls hl => ?_)
  refine lv_iconst (v := 2) hx hb d_Law_append_20 (by decide) ?_
  exact W.iret hx hb hr (fun t ht hW => ⟨⟨_, (), rfl, rfl, by rw [ht]; exact hP, HB_of hHK hS hW ht (fun q h => h), hD⟩, hS.F ht⟩) hS.2.2 d_Law_append_21
abbrev w_Law_delete : List Cond := Cond.codeWith y_Law_delete b_Law_delete 5 (some .int) [(0, 10, 13, 13)] :: Tg
abbrev r_Law_delete : Room := { frames := 7, cells := 1, slots := 6, locals := 113 }
theorem ds_Law_delete : y_Law_delete.cls ≠ "java/lang/invoke/MethodHandle" ∧ y_Law_delete.cls ≠ "java/lang/invoke/VarHandle" ∧ (parseMethodDescriptor y_Law_delete.desc).map (fun d => d.parameters.length) = some 4 := by decide +kernel
set_option maxHeartbeats 4000000 in
set_option maxRecDepth 100000 in
theorem ch_delete_0 (l : Launch) (hlt : l.stackTraces = false) (K : Kst) (a o : Nat) (A B : Nat → Nat) (f : Nat → Int64) {σ τ : Sto} {x1 : Int32} {x2 : Int32} {rr : Int32} {ss tt : Sto} (h : p_LanguageServer_delete σ τ x1 x2 = some (0, rr, ss, tt)) : Met l y_Law_delete w_Law_delete r_Law_delete (va_Pc [.ref a, .int x1, .int x2, .ref o] (HB K a A B σ τ o f)) (va_Qi (S := Unit) (fun v _ => v = 0) (fun _ t => HB K a A B ss tt o (vp_updL f 0 rr.toInt64) t) (HF a A B o)) 1 6 (HF a A B o) := by
  refine va_MetW (cc := b_Law_delete) (maxL := 5) (ret := (some .int)) (hh := [(0, 10, 13, 13)]) (by decide) rfl ?_
  intro p e s m args below meth c s₁ Bd hml hv
  obtain ⟨rfl, hP, hHK, hD⟩ := hv
  have hK := hHK.1.1
  have hx := Bd.exec
  have hb := Bd.bytes
  have hr := Bd.returns
  have hts := atoms_spec (ws := w_Law_delete) Bd.pre
  have hg : ∀ w ∈ Tg, w.before _ s = true := fun w q => hts w (List.mem_cons_of_mem _ q)
  have hown : s.vm.findClass "LanguageServerLaw" = some m.cls := findClass_of_methodNamed Bd.named
  have hlocks := Bd.notSynchronized
  have hS : va_S (HF a A B o) s.heap s.heap [] := va_S.rf
  have hl := lv_entry ([.ref a, .int x1, .int x2, .ref o]) (n := 5) (Nat.le_of_ble_eq_true rfl)
  rw [lg_entry_eq]
  generalize (lg_sl ([.ref a, .int x1, .int x2, .ref o]) ++ List.replicate (5 - (lg_sl ([.ref a, .int x1, .int x2, .ref o])).length) Slot.unset).toArray = ls at hl ⊢
  have hl : lv_has ls 5 [(0, .ref a), (1, .int x1), (2, .int x2), (3, .ref o)] := hl
  generalize hargs : ([.ref a, .int x1, .int x2, .ref o] : List Value).toArray = args at hg hts ⊢
  refine lv_aload_n hx hb d_Law_delete_0 rfl (lv_at hl 3 rfl) ?_
  refine lv_iconst (v := 0) hx hb d_Law_delete_1 (by decide) ?_
  refine lv_aload_n hx hb d_Law_delete_2 rfl (lv_at hl 0 rfl) ?_
  refine lv_iload_n hx hb d_Law_delete_3 rfl (lv_at hl 1 rfl) ?_
  refine lv_iload_n hx hb d_Law_delete_4 rfl (lv_at hl 2 rfl) ?_
  refine H_calli (va_runV (As := [.int x1, .int x2]) (rest := [.int 0, .ref o]) ⟨hx, hb, hml, hown, hts⟩ (c_LS_delete l K a A B h) (cwV 2 hts (gd_V wd_728 wd_729 wd_730 wd_1 wd_731) rfl rfl rfl dv_LS_delete ⟨Nat.le_of_ble_eq_true rfl, Nat.le_of_ble_eq_true rfl⟩) (H_pv hHK hS hP hD) rfl rfl hl.1 rfl (lv_room (Nat.le_of_ble_eq_true rfl)) d_Law_delete_5 ⟨Nat.le_of_ble_eq_true rfl, Nat.le_of_ble_eq_true rfl⟩) hP hD hS (fun H locs hP hD hS => ?_)
  refine lv_i2l hx hb d_Law_delete_8 rfl ?_
  refine va_last hx hb hK.1 hP hD hS 59 1 rfl rfl (show vp_in 0 1 by show inR 0 1; decide) d_Law_delete_9 (fun H locs hP hD hS => ?_)
  have hP : va_P K.1 vwCl (wH K a A B ss tt o (vp_updL f 0 rr.toInt64)) H := hP
  have hD : va_D (HF a A B o) (wH K a A B ss tt o (vp_updL f 0 rr.toInt64)) := hD
  refine lv_goto (tgt := 17) hx hb d_Law_delete_10 (by decide) ?_
  refine lv_iconst (v := 0) hx hb d_Law_delete_17 (by decide) ?_
  refine W.widen (k := 1) (n := 6) (Nat.le_of_ble_eq_true rfl) (Nat.le_of_ble_eq_true rfl) ?_
  exact W.iret hx hb hr (fun t ht hW => ⟨⟨_, (), rfl, rfl, by rw [ht]; exact hP, HB_of hHK hS hW ht (fun q h => h), hD⟩, hS.F ht⟩) hS.2.2 d_Law_delete_18
set_option maxHeartbeats 4000000 in
set_option maxRecDepth 100000 in
theorem ch_delete_1 (l : Launch) (hlt : l.stackTraces = false) (K : Kst) (a o : Nat) (A B : Nat → Nat) (f : Nat → Int64) {σ τ : Sto} {x1 : Int32} {x2 : Int32} {rr : Int32} {ss tt : Sto} (h : p_LanguageServer_delete σ τ x1 x2 = some (1, rr, ss, tt)) : Met l y_Law_delete w_Law_delete r_Law_delete (va_Pc [.ref a, .int x1, .int x2, .ref o] (HB K a A B σ τ o f)) (va_Qi (S := Unit) (fun v _ => v = 1) (fun _ t => HB K a A B ss tt o f t) (HF a A B o)) 1 6 (HF a A B o) := by
  refine va_MetW (cc := b_Law_delete) (maxL := 5) (ret := (some .int)) (hh := [(0, 10, 13, 13)]) (by decide) rfl ?_
  intro p e s m args below meth c s₁ Bd hml hv
  obtain ⟨rfl, hP, hHK, hD⟩ := hv
  have hK := hHK.1.1
  have hx := Bd.exec
  have hb := Bd.bytes
  have hr := Bd.returns
  have hts := atoms_spec (ws := w_Law_delete) Bd.pre
  have hg : ∀ w ∈ Tg, w.before _ s = true := fun w q => hts w (List.mem_cons_of_mem _ q)
  have hown : s.vm.findClass "LanguageServerLaw" = some m.cls := findClass_of_methodNamed Bd.named
  have hlocks := Bd.notSynchronized
  have hS : va_S (HF a A B o) s.heap s.heap [] := va_S.rf
  have htab : c.exceptionTable.toList = ([(0, 10, 13, 13)] : List (Nat × Nat × Nat × Nat)).map (fun q => ⟨q.1, q.2.1, q.2.2.1, q.2.2.2⟩) := by
    obtain ⟨m9, meth9, c9, hn9, h1, h2, -, -, h6, -⟩ := Cond.codeWith_spec (hts _ List.mem_cons_self)
    cases Option.some.inj (hn9.symm.trans Bd.named)
    cases Option.some.inj (h1.symm.trans Bd.method)
    cases Option.some.inj (h2.symm.trans (Stand.of_body Bd).code)
    exact tab_of _ _ h6
  have hl := lv_entry ([.ref a, .int x1, .int x2, .ref o]) (n := 5) (Nat.le_of_ble_eq_true rfl)
  rw [lg_entry_eq]
  generalize (lg_sl ([.ref a, .int x1, .int x2, .ref o]) ++ List.replicate (5 - (lg_sl ([.ref a, .int x1, .int x2, .ref o])).length) Slot.unset).toArray = ls at hl ⊢
  have hl : lv_has ls 5 [(0, .ref a), (1, .int x1), (2, .int x2), (3, .ref o)] := hl
  generalize hargs : ([.ref a, .int x1, .int x2, .ref o] : List Value).toArray = args at hg hts ⊢
  refine lv_aload_n hx hb d_Law_delete_0 rfl (lv_at hl 3 rfl) ?_
  refine lv_iconst (v := 0) hx hb d_Law_delete_1 (by decide) ?_
  refine lv_aload_n hx hb d_Law_delete_2 rfl (lv_at hl 0 rfl) ?_
  refine lv_iload_n hx hb d_Law_delete_3 rfl (lv_at hl 1 rfl) ?_
  refine lv_iload_n hx hb d_Law_delete_4 rfl (lv_at hl 2 rfl) ?_
  refine T_caught (own := "LanguageServerLaw") (nm := "java/lang/IllegalArgumentException") (T_runV (As := [.int x1, .int x2]) (rest := [.int 0, .ref o]) ⟨hx, hb, hml, hown, hts⟩ (ct_LS_delete_1 l hlt K a A B h) (cwV 2 hts (gd_V wd_728 wd_729 wd_730 wd_1 wd_731) rfl rfl rfl dv_LS_delete ⟨Nat.le_of_ble_eq_true rfl, Nat.le_of_ble_eq_true rfl⟩) (H_pv hHK hS hP hD) rfl rfl hl.1 rfl (lv_room (Nat.le_of_ble_eq_true rfl)) d_Law_delete_5 ⟨Nat.le_of_ble_eq_true rfl, Nat.le_of_ble_eq_true rfl⟩) hown [] ⟨0, 10, 13, 13⟩ [] htab (fun x h => absurd h List.not_mem_nil) (by decide) (by decide) (hg _ wd_597) (hHK.1.2.1.1 "java/lang/IllegalArgumentException" (by decide)) hS (fun q _ h => Or.inl h) (fun q h => Or.inl h) (fun x t H1 locs ht hW hB hz hk hS => ?_)
  obtain ⟨hB1, -, -⟩ := hB
  rw [ht] at hB1
  obtain ⟨hP, hD⟩ := H_back hP hD hB1 hk
  generalize H1 = H at hP hS ⊢
  refine lv_astore (lv' := [(4, .ref x), (0, .ref a), (1, .int x1), (2, .int x2), (3, .ref o)]) hx hb d_Law_delete_13 hl (by decide) rfl (fun ls hl => ?_)
  refine lv_iconst (v := 1) hx hb d_Law_delete_15 (by decide) ?_
  exact W.iret hx hb hr (fun t ht hW => ⟨⟨_, (), rfl, rfl, by rw [ht]; exact hP, HB_of hHK hS hW ht (fun q h => h), hD⟩, hS.F ht⟩) hS.2.2 d_Law_delete_16
abbrev w_Law_text : List Cond := Cond.codeWith y_Law_text b_Law_text 4 (some .int) [(0, 9, 12, 28)] :: Tg
abbrev r_Law_text : Room := { frames := 7, cells := 1, slots := 6, locals := 111 }
theorem ds_Law_text : y_Law_text.cls ≠ "java/lang/invoke/MethodHandle" ∧ y_Law_text.cls ≠ "java/lang/invoke/VarHandle" ∧ (parseMethodDescriptor y_Law_text.desc).map (fun d => d.parameters.length) = some 3 := by decide +kernel
set_option maxHeartbeats 4000000 in
set_option maxRecDepth 100000 in
theorem ch_text_0 (l : Launch) (hlt : l.stackTraces = false) (K : Kst) (a o : Nat) (A B : Nat → Nat) (f : Nat → Int64) {σ τ : Sto} {x1 : Int32} {rr : Int32} {ss tt : Sto} (h : p_LanguageServer_text σ τ x1 = some (0, rr, ss, tt)) : Met l y_Law_text w_Law_text r_Law_text (va_Pc [.ref a, .int x1, .ref o] (HB K a A B σ τ o f)) (va_Qi (S := Unit) (fun v _ => v = 0) (fun _ t => HB K a A B ss tt o (vp_updL f 0 rr.toInt64) t) (HF a A B o)) 1 6 (HF a A B o) := by
  refine va_MetW (cc := b_Law_text) (maxL := 4) (ret := (some .int)) (hh := [(0, 9, 12, 28)]) (by decide) rfl ?_
  intro p e s m args below meth c s₁ Bd hml hv
  obtain ⟨rfl, hP, hHK, hD⟩ := hv
  have hK := hHK.1.1
  have hx := Bd.exec
  have hb := Bd.bytes
  have hr := Bd.returns
  have hts := atoms_spec (ws := w_Law_text) Bd.pre
  have hg : ∀ w ∈ Tg, w.before _ s = true := fun w q => hts w (List.mem_cons_of_mem _ q)
  have hown : s.vm.findClass "LanguageServerLaw" = some m.cls := findClass_of_methodNamed Bd.named
  have hlocks := Bd.notSynchronized
  have hS : va_S (HF a A B o) s.heap s.heap [] := va_S.rf
  have hl := lv_entry ([.ref a, .int x1, .ref o]) (n := 4) (Nat.le_of_ble_eq_true rfl)
  rw [lg_entry_eq]
  generalize (lg_sl ([.ref a, .int x1, .ref o]) ++ List.replicate (4 - (lg_sl ([.ref a, .int x1, .ref o])).length) Slot.unset).toArray = ls at hl ⊢
  have hl : lv_has ls 4 [(0, .ref a), (1, .int x1), (2, .ref o)] := hl
  generalize hargs : ([.ref a, .int x1, .ref o] : List Value).toArray = args at hg hts ⊢
  refine lv_aload_n hx hb d_Law_text_0 rfl (lv_at hl 2 rfl) ?_
  refine lv_iconst (v := 0) hx hb d_Law_text_1 (by decide) ?_
  refine lv_aload_n hx hb d_Law_text_2 rfl (lv_at hl 0 rfl) ?_
  refine lv_iload_n hx hb d_Law_text_3 rfl (lv_at hl 1 rfl) ?_
  refine H_calli (va_runV (As := [.int x1]) (rest := [.int 0, .ref o]) ⟨hx, hb, hml, hown, hts⟩ (c_LS_text l K a A B h) (cwV 1 hts (gd_V wd_741 wd_742 wd_743 wd_1 wd_744) rfl rfl rfl dv_LS_text ⟨Nat.le_of_ble_eq_true rfl, Nat.le_of_ble_eq_true rfl⟩) (H_pv hHK hS hP hD) rfl rfl hl.1 rfl (lv_room (Nat.le_of_ble_eq_true rfl)) d_Law_text_4 ⟨Nat.le_of_ble_eq_true rfl, Nat.le_of_ble_eq_true rfl⟩) hP hD hS (fun H locs hP hD hS => ?_)
  refine lv_i2l hx hb d_Law_text_7 rfl ?_
  refine va_last hx hb hK.1 hP hD hS 59 1 rfl rfl (show vp_in 0 1 by show inR 0 1; decide) d_Law_text_8 (fun H locs hP hD hS => ?_)
  have hP : va_P K.1 vwCl (wH K a A B ss tt o (vp_updL f 0 rr.toInt64)) H := hP
  have hD : va_D (HF a A B o) (wH K a A B ss tt o (vp_updL f 0 rr.toInt64)) := hD
  refine lv_goto (tgt := 15) hx hb d_Law_text_9 (by decide) ?_
  refine lv_iconst (v := 0) hx hb d_Law_text_15 (by decide) ?_
  refine W.widen (k := 1) (n := 6) (Nat.le_of_ble_eq_true rfl) (Nat.le_of_ble_eq_true rfl) ?_
  exact W.iret hx hb hr (fun t ht hW => ⟨⟨_, (), rfl, rfl, by rw [ht]; exact hP, HB_of hHK hS hW ht (fun q h => h), hD⟩, hS.F ht⟩) hS.2.2 d_Law_text_16
set_option maxHeartbeats 4000000 in
set_option maxRecDepth 100000 in
theorem ch_text_3 (l : Launch) (hlt : l.stackTraces = false) (K : Kst) (a o : Nat) (A B : Nat → Nat) (f : Nat → Int64) {σ τ : Sto} {x1 : Int32} {rr : Int32} {ss tt : Sto} (h : p_LanguageServer_text σ τ x1 = some (3, rr, ss, tt)) : Met l y_Law_text w_Law_text r_Law_text (va_Pc [.ref a, .int x1, .ref o] (HB K a A B σ τ o f)) (va_Qi (S := Unit) (fun v _ => v = 1) (fun _ t => HB K a A B ss tt o f t) (HF a A B o)) 1 6 (HF a A B o) := by
  refine va_MetW (cc := b_Law_text) (maxL := 4) (ret := (some .int)) (hh := [(0, 9, 12, 28)]) (by decide) rfl ?_
  intro p e s m args below meth c s₁ Bd hml hv
  obtain ⟨rfl, hP, hHK, hD⟩ := hv
  have hK := hHK.1.1
  have hx := Bd.exec
  have hb := Bd.bytes
  have hr := Bd.returns
  have hts := atoms_spec (ws := w_Law_text) Bd.pre
  have hg : ∀ w ∈ Tg, w.before _ s = true := fun w q => hts w (List.mem_cons_of_mem _ q)
  have hown : s.vm.findClass "LanguageServerLaw" = some m.cls := findClass_of_methodNamed Bd.named
  have hlocks := Bd.notSynchronized
  have hS : va_S (HF a A B o) s.heap s.heap [] := va_S.rf
  have htab : c.exceptionTable.toList = ([(0, 9, 12, 28)] : List (Nat × Nat × Nat × Nat)).map (fun q => ⟨q.1, q.2.1, q.2.2.1, q.2.2.2⟩) := by
    obtain ⟨m9, meth9, c9, hn9, h1, h2, -, -, h6, -⟩ := Cond.codeWith_spec (hts _ List.mem_cons_self)
    cases Option.some.inj (hn9.symm.trans Bd.named)
    cases Option.some.inj (h1.symm.trans Bd.method)
    cases Option.some.inj (h2.symm.trans (Stand.of_body Bd).code)
    exact tab_of _ _ h6
  have hl := lv_entry ([.ref a, .int x1, .ref o]) (n := 4) (Nat.le_of_ble_eq_true rfl)
  rw [lg_entry_eq]
  generalize (lg_sl ([.ref a, .int x1, .ref o]) ++ List.replicate (4 - (lg_sl ([.ref a, .int x1, .ref o])).length) Slot.unset).toArray = ls at hl ⊢
  have hl : lv_has ls 4 [(0, .ref a), (1, .int x1), (2, .ref o)] := hl
  generalize hargs : ([.ref a, .int x1, .ref o] : List Value).toArray = args at hg hts ⊢
  refine lv_aload_n hx hb d_Law_text_0 rfl (lv_at hl 2 rfl) ?_
  refine lv_iconst (v := 0) hx hb d_Law_text_1 (by decide) ?_
  refine lv_aload_n hx hb d_Law_text_2 rfl (lv_at hl 0 rfl) ?_
  refine lv_iload_n hx hb d_Law_text_3 rfl (lv_at hl 1 rfl) ?_
  refine T_caught (own := "LanguageServerLaw") (nm := "java/util/NoSuchElementException") (T_runV (As := [.int x1]) (rest := [.int 0, .ref o]) ⟨hx, hb, hml, hown, hts⟩ (ct_LS_text_3 l hlt K a A B h) (cwV 1 hts (gd_V wd_741 wd_742 wd_743 wd_1 wd_744) rfl rfl rfl dv_LS_text ⟨Nat.le_of_ble_eq_true rfl, Nat.le_of_ble_eq_true rfl⟩) (H_pv hHK hS hP hD) rfl rfl hl.1 rfl (lv_room (Nat.le_of_ble_eq_true rfl)) d_Law_text_4 ⟨Nat.le_of_ble_eq_true rfl, Nat.le_of_ble_eq_true rfl⟩) hown [] ⟨0, 9, 12, 28⟩ [] htab (fun x h => absurd h List.not_mem_nil) (by decide) (by decide) (hg _ wd_740) (hHK.1.2.1.1 "java/util/NoSuchElementException" (by decide)) hS (fun q _ h => Or.inl h) (fun q h => Or.inl h) (fun x t H1 locs ht hW hB hz hk hS => ?_)
  obtain ⟨hB1, -, -⟩ := hB
  rw [ht] at hB1
  obtain ⟨hP, hD⟩ := H_back hP hD hB1 hk
  generalize H1 = H at hP hS ⊢
  refine lv_astore_n (lv' := [(3, .ref x), (0, .ref a), (1, .int x1), (2, .ref o)]) hx hb d_Law_text_12 rfl hl (by decide) rfl (fun ls hl => ?_)
  refine lv_iconst (v := 1) hx hb d_Law_text_13 (by decide) ?_
  exact W.iret hx hb hr (fun t ht hW => ⟨⟨_, (), rfl, rfl, by rw [ht]; exact hP, HB_of hHK hS hW ht (fun q h => h), hD⟩, hS.F ht⟩) hS.2.2 d_Law_text_14
abbrev w_Law_diagnostic : List Cond := Cond.codeWith y_Law_diagnostic b_Law_diagnostic 5 (some .int) [(0, 10, 13, 28), (0, 10, 17, 13)] :: Tg
abbrev r_Law_diagnostic : Room := { frames := 8, cells := 1, slots := 6, locals := 184 }
theorem ds_Law_diagnostic : y_Law_diagnostic.cls ≠ "java/lang/invoke/MethodHandle" ∧ y_Law_diagnostic.cls ≠ "java/lang/invoke/VarHandle" ∧ (parseMethodDescriptor y_Law_diagnostic.desc).map (fun d => d.parameters.length) = some 4 := by decide +kernel
set_option maxHeartbeats 4000000 in
set_option maxRecDepth 100000 in
theorem ch_diagnostic_0 (l : Launch) (hlt : l.stackTraces = false) (K : Kst) (a o : Nat) (A B : Nat → Nat) (f : Nat → Int64) {σ τ : Sto} {x1 : Int32} {x2 : Int32} {rr : Int32} {ss tt : Sto} (h : p_LanguageServer_diagnostic σ τ x1 x2 = some (0, rr, ss, tt)) : Met l y_Law_diagnostic w_Law_diagnostic r_Law_diagnostic (va_Pc [.ref a, .int x1, .int x2, .ref o] (HB K a A B σ τ o f)) (va_Qi (S := Unit) (fun v _ => v = 0) (fun _ t => HB K a A B ss tt o (vp_updL f 0 rr.toInt64) t) (HF a A B o)) 1 6 (HF a A B o) := by
  refine va_MetW (cc := b_Law_diagnostic) (maxL := 5) (ret := (some .int)) (hh := [(0, 10, 13, 28), (0, 10, 17, 13)]) (by decide) rfl ?_
  intro p e s m args below meth c s₁ Bd hml hv
  obtain ⟨rfl, hP, hHK, hD⟩ := hv
  have hK := hHK.1.1
  have hx := Bd.exec
  have hb := Bd.bytes
  have hr := Bd.returns
  have hts := atoms_spec (ws := w_Law_diagnostic) Bd.pre
  have hg : ∀ w ∈ Tg, w.before _ s = true := fun w q => hts w (List.mem_cons_of_mem _ q)
  have hown : s.vm.findClass "LanguageServerLaw" = some m.cls := findClass_of_methodNamed Bd.named
  have hlocks := Bd.notSynchronized
  have hS : va_S (HF a A B o) s.heap s.heap [] := va_S.rf
  have hl := lv_entry ([.ref a, .int x1, .int x2, .ref o]) (n := 5) (Nat.le_of_ble_eq_true rfl)
  rw [lg_entry_eq]
  generalize (lg_sl ([.ref a, .int x1, .int x2, .ref o]) ++ List.replicate (5 - (lg_sl ([.ref a, .int x1, .int x2, .ref o])).length) Slot.unset).toArray = ls at hl ⊢
  have hl : lv_has ls 5 [(0, .ref a), (1, .int x1), (2, .int x2), (3, .ref o)] := hl
  generalize hargs : ([.ref a, .int x1, .int x2, .ref o] : List Value).toArray = args at hg hts ⊢
  refine lv_aload_n hx hb d_Law_diagnostic_0 rfl (lv_at hl 3 rfl) ?_
  refine lv_iconst (v := 0) hx hb d_Law_diagnostic_1 (by decide) ?_
  refine lv_aload_n hx hb d_Law_diagnostic_2 rfl (lv_at hl 0 rfl) ?_
  refine lv_iload_n hx hb d_Law_diagnostic_3 rfl (lv_at hl 1 rfl) ?_
  refine lv_iload_n hx hb d_Law_diagnostic_4 rfl (lv_at hl 2 rfl) ?_
  refine H_calli (va_runV (As := [.int x1, .int x2]) (rest := [.int 0, .ref o]) ⟨hx, hb, hml, hown, hts⟩ (c_LS_diagnostic l K a A B h) (cwV 2 hts (gd_V wd_764 wd_765 wd_766 wd_1 wd_767) rfl rfl rfl dv_LS_diagnostic ⟨Nat.le_of_ble_eq_true rfl, Nat.le_of_ble_eq_true rfl⟩) (H_pv hHK hS hP hD) rfl rfl hl.1 rfl (lv_room (Nat.le_of_ble_eq_true rfl)) d_Law_diagnostic_5 ⟨Nat.le_of_ble_eq_true rfl, Nat.le_of_ble_eq_true rfl⟩) hP hD hS (fun H locs hP hD hS => ?_)
  refine lv_i2l hx hb d_Law_diagnostic_8 rfl ?_
  refine va_last hx hb hK.1 hP hD hS 59 1 rfl rfl (show vp_in 0 1 by show inR 0 1; decide) d_Law_diagnostic_9 (fun H locs hP hD hS => ?_)
  have hP : va_P K.1 vwCl (wH K a A B ss tt o (vp_updL f 0 rr.toInt64)) H := hP
  have hD : va_D (HF a A B o) (wH K a A B ss tt o (vp_updL f 0 rr.toInt64)) := hD
  refine lv_goto (tgt := 21) hx hb d_Law_diagnostic_10 (by decide) ?_
  refine lv_iconst (v := 0) hx hb d_Law_diagnostic_21 (by decide) ?_
  refine W.widen (k := 1) (n := 6) (Nat.le_of_ble_eq_true rfl) (Nat.le_of_ble_eq_true rfl) ?_
  exact W.iret hx hb hr (fun t ht hW => ⟨⟨_, (), rfl, rfl, by rw [ht]; exact hP, HB_of hHK hS hW ht (fun q h => h), hD⟩, hS.F ht⟩) hS.2.2 d_Law_diagnostic_22
set_option maxHeartbeats 4000000 in
set_option maxRecDepth 100000 in
theorem ch_diagnostic_1 (l : Launch) (hlt : l.stackTraces = false) (K : Kst) (a o : Nat) (A B : Nat → Nat) (f : Nat → Int64) {σ τ : Sto} {x1 : Int32} {x2 : Int32} {rr : Int32} {ss tt : Sto} (h : p_LanguageServer_diagnostic σ τ x1 x2 = some (1, rr, ss, tt)) : Met l y_Law_diagnostic w_Law_diagnostic r_Law_diagnostic (va_Pc [.ref a, .int x1, .int x2, .ref o] (HB K a A B σ τ o f)) (va_Qi (S := Unit) (fun v _ => v = 2) (fun _ t => HB K a A B ss tt o f t) (HF a A B o)) 1 6 (HF a A B o) := by
  refine va_MetW (cc := b_Law_diagnostic) (maxL := 5) (ret := (some .int)) (hh := [(0, 10, 13, 28), (0, 10, 17, 13)]) (by decide) rfl ?_
  intro p e s m args below meth c s₁ Bd hml hv
  obtain ⟨rfl, hP, hHK, hD⟩ := hv
  have hK := hHK.1.1
  have hx := Bd.exec
  have hb := Bd.bytes
  have hr := Bd.returns
  have hts := atoms_spec (ws := w_Law_diagnostic) Bd.pre
  have hg : ∀ w ∈ Tg, w.before _ s = true := fun w q => hts w (List.mem_cons_of_mem _ q)
  have hown : s.vm.findClass "LanguageServerLaw" = some m.cls := findClass_of_methodNamed Bd.named
  have hlocks := Bd.notSynchronized
  have hS : va_S (HF a A B o) s.heap s.heap [] := va_S.rf
  have htab : c.exceptionTable.toList = ([(0, 10, 13, 28), (0, 10, 17, 13)] : List (Nat × Nat × Nat × Nat)).map (fun q => ⟨q.1, q.2.1, q.2.2.1, q.2.2.2⟩) := by
    obtain ⟨m9, meth9, c9, hn9, h1, h2, -, -, h6, -⟩ := Cond.codeWith_spec (hts _ List.mem_cons_self)
    cases Option.some.inj (hn9.symm.trans Bd.named)
    cases Option.some.inj (h1.symm.trans Bd.method)
    cases Option.some.inj (h2.symm.trans (Stand.of_body Bd).code)
    exact tab_of _ _ h6
  have hl := lv_entry ([.ref a, .int x1, .int x2, .ref o]) (n := 5) (Nat.le_of_ble_eq_true rfl)
  rw [lg_entry_eq]
  generalize (lg_sl ([.ref a, .int x1, .int x2, .ref o]) ++ List.replicate (5 - (lg_sl ([.ref a, .int x1, .int x2, .ref o])).length) Slot.unset).toArray = ls at hl ⊢
  have hl : lv_has ls 5 [(0, .ref a), (1, .int x1), (2, .int x2), (3, .ref o)] := hl
  generalize hargs : ([.ref a, .int x1, .int x2, .ref o] : List Value).toArray = args at hg hts ⊢
  refine lv_aload_n hx hb d_Law_diagnostic_0 rfl (lv_at hl 3 rfl) ?_
  refine lv_iconst (v := 0) hx hb d_Law_diagnostic_1 (by decide) ?_
  refine lv_aload_n hx hb d_Law_diagnostic_2 rfl (lv_at hl 0 rfl) ?_
  refine lv_iload_n hx hb d_Law_diagnostic_3 rfl (lv_at hl 1 rfl) ?_
  refine lv_iload_n hx hb d_Law_diagnostic_4 rfl (lv_at hl 2 rfl) ?_
  refine T_caught (own := "LanguageServerLaw") (nm := "java/lang/IllegalArgumentException") (T_runV (As := [.int x1, .int x2]) (rest := [.int 0, .ref o]) ⟨hx, hb, hml, hown, hts⟩ (ct_LS_diagnostic_1 l hlt K a A B h) (cwV 2 hts (gd_V wd_764 wd_765 wd_766 wd_1 wd_767) rfl rfl rfl dv_LS_diagnostic ⟨Nat.le_of_ble_eq_true rfl, Nat.le_of_ble_eq_true rfl⟩) (H_pv hHK hS hP hD) rfl rfl hl.1 rfl (lv_room (Nat.le_of_ble_eq_true rfl)) d_Law_diagnostic_5 ⟨Nat.le_of_ble_eq_true rfl, Nat.le_of_ble_eq_true rfl⟩) hown [⟨0, 10, 13, 28⟩] ⟨0, 10, 17, 13⟩ [] htab (List.forall_mem_cons.mpr ⟨⟨by decide, by decide, "java/util/NoSuchElementException", hg _ wd_740, hHK.2.2.1⟩, fun x h => absurd h List.not_mem_nil⟩) (by decide) (by decide) (hg _ wd_597) (hHK.1.2.1.1 "java/lang/IllegalArgumentException" (by decide)) hS (fun q _ h => Or.inl h) (fun q h => Or.inl h) (fun x t H1 locs ht hW hB hz hk hS => ?_)
  obtain ⟨hB1, -, -⟩ := hB
  rw [ht] at hB1
  obtain ⟨hP, hD⟩ := H_back hP hD hB1 hk
  generalize H1 = H at hP hS ⊢
  refine lv_astore (lv' := [(4, .ref x), (0, .ref a), (1, .int x1), (2, .int x2), (3, .ref o)]) hx hb d_Law_diagnostic_17 hl (by decide) rfl (fun ls hl => ?_)
  refine lv_iconst (v := 2) hx hb d_Law_diagnostic_19 (by decide) ?_
  exact W.iret hx hb hr (fun t ht hW => ⟨⟨_, (), rfl, rfl, by rw [ht]; exact hP, HB_of hHK hS hW ht (fun q h => h), hD⟩, hS.F ht⟩) hS.2.2 d_Law_diagnostic_20
set_option maxHeartbeats 4000000 in
set_option maxRecDepth 100000 in
theorem ch_diagnostic_3 (l : Launch) (hlt : l.stackTraces = false) (K : Kst) (a o : Nat) (A B : Nat → Nat) (f : Nat → Int64) {σ τ : Sto} {x1 : Int32} {x2 : Int32} {rr : Int32} {ss tt : Sto} (h : p_LanguageServer_diagnostic σ τ x1 x2 = some (3, rr, ss, tt)) : Met l y_Law_diagnostic w_Law_diagnostic r_Law_diagnostic (va_Pc [.ref a, .int x1, .int x2, .ref o] (HB K a A B σ τ o f)) (va_Qi (S := Unit) (fun v _ => v = 1) (fun _ t => HB K a A B ss tt o f t) (HF a A B o)) 1 6 (HF a A B o) := by
  refine va_MetW (cc := b_Law_diagnostic) (maxL := 5) (ret := (some .int)) (hh := [(0, 10, 13, 28), (0, 10, 17, 13)]) (by decide) rfl ?_
  intro p e s m args below meth c s₁ Bd hml hv
  obtain ⟨rfl, hP, hHK, hD⟩ := hv
  have hK := hHK.1.1
  have hx := Bd.exec
  have hb := Bd.bytes
  have hr := Bd.returns
  have hts := atoms_spec (ws := w_Law_diagnostic) Bd.pre
  have hg : ∀ w ∈ Tg, w.before _ s = true := fun w q => hts w (List.mem_cons_of_mem _ q)
  have hown : s.vm.findClass "LanguageServerLaw" = some m.cls := findClass_of_methodNamed Bd.named
  have hlocks := Bd.notSynchronized
  have hS : va_S (HF a A B o) s.heap s.heap [] := va_S.rf
  have htab : c.exceptionTable.toList = ([(0, 10, 13, 28), (0, 10, 17, 13)] : List (Nat × Nat × Nat × Nat)).map (fun q => ⟨q.1, q.2.1, q.2.2.1, q.2.2.2⟩) := by
    obtain ⟨m9, meth9, c9, hn9, h1, h2, -, -, h6, -⟩ := Cond.codeWith_spec (hts _ List.mem_cons_self)
    cases Option.some.inj (hn9.symm.trans Bd.named)
    cases Option.some.inj (h1.symm.trans Bd.method)
    cases Option.some.inj (h2.symm.trans (Stand.of_body Bd).code)
    exact tab_of _ _ h6
  have hl := lv_entry ([.ref a, .int x1, .int x2, .ref o]) (n := 5) (Nat.le_of_ble_eq_true rfl)
  rw [lg_entry_eq]
  generalize (lg_sl ([.ref a, .int x1, .int x2, .ref o]) ++ List.replicate (5 - (lg_sl ([.ref a, .int x1, .int x2, .ref o])).length) Slot.unset).toArray = ls at hl ⊢
  have hl : lv_has ls 5 [(0, .ref a), (1, .int x1), (2, .int x2), (3, .ref o)] := hl
  generalize hargs : ([.ref a, .int x1, .int x2, .ref o] : List Value).toArray = args at hg hts ⊢
  refine lv_aload_n hx hb d_Law_diagnostic_0 rfl (lv_at hl 3 rfl) ?_
  refine lv_iconst (v := 0) hx hb d_Law_diagnostic_1 (by decide) ?_
  refine lv_aload_n hx hb d_Law_diagnostic_2 rfl (lv_at hl 0 rfl) ?_
  refine lv_iload_n hx hb d_Law_diagnostic_3 rfl (lv_at hl 1 rfl) ?_
  refine lv_iload_n hx hb d_Law_diagnostic_4 rfl (lv_at hl 2 rfl) ?_
  refine T_caught (own := "LanguageServerLaw") (nm := "java/util/NoSuchElementException") (T_runV (As := [.int x1, .int x2]) (rest := [.int 0, .ref o]) ⟨hx, hb, hml, hown, hts⟩ (ct_LS_diagnostic_3 l hlt K a A B h) (cwV 2 hts (gd_V wd_764 wd_765 wd_766 wd_1 wd_767) rfl rfl rfl dv_LS_diagnostic ⟨Nat.le_of_ble_eq_true rfl, Nat.le_of_ble_eq_true rfl⟩) (H_pv hHK hS hP hD) rfl rfl hl.1 rfl (lv_room (Nat.le_of_ble_eq_true rfl)) d_Law_diagnostic_5 ⟨Nat.le_of_ble_eq_true rfl, Nat.le_of_ble_eq_true rfl⟩) hown [] ⟨0, 10, 13, 28⟩ [⟨0, 10, 17, 13⟩] htab (fun x h => absurd h List.not_mem_nil) (by decide) (by decide) (hg _ wd_740) (hHK.1.2.1.1 "java/util/NoSuchElementException" (by decide)) hS (fun q _ h => Or.inl h) (fun q h => Or.inl h) (fun x t H1 locs ht hW hB hz hk hS => ?_)
  obtain ⟨hB1, -, -⟩ := hB
  rw [ht] at hB1
  obtain ⟨hP, hD⟩ := H_back hP hD hB1 hk
  generalize H1 = H at hP hS ⊢
  refine lv_astore (lv' := [(4, .ref x), (0, .ref a), (1, .int x1), (2, .int x2), (3, .ref o)]) hx hb d_Law_diagnostic_13 hl (by decide) rfl (fun ls hl => ?_)
  refine lv_iconst (v := 1) hx hb d_Law_diagnostic_15 (by decide) ?_
  exact W.iret hx hb hr (fun t ht hW => ⟨⟨_, (), rfl, rfl, by rw [ht]; exact hP, HB_of hHK hS hW ht (fun q h => h), hD⟩, hS.F ht⟩) hS.2.2 d_Law_diagnostic_16
abbrev w_Law_definition : List Cond := Cond.codeWith y_Law_definition b_Law_definition 4 (some .int) [(0, 9, 12, 28)] :: Tg
abbrev r_Law_definition : Room := { frames := 8, cells := 1, slots := 6, locals := 183 }
theorem ds_Law_definition : y_Law_definition.cls ≠ "java/lang/invoke/MethodHandle" ∧ y_Law_definition.cls ≠ "java/lang/invoke/VarHandle" ∧ (parseMethodDescriptor y_Law_definition.desc).map (fun d => d.parameters.length) = some 3 := by decide +kernel
set_option maxHeartbeats 4000000 in
set_option maxRecDepth 100000 in
theorem ch_definition_0 (l : Launch) (hlt : l.stackTraces = false) (K : Kst) (a o : Nat) (A B : Nat → Nat) (f : Nat → Int64) {σ τ : Sto} {x1 : Int32} {rr : Int32} {ss tt : Sto} (h : p_LanguageServer_definition σ τ x1 = some (0, rr, ss, tt)) : Met l y_Law_definition w_Law_definition r_Law_definition (va_Pc [.ref a, .int x1, .ref o] (HB K a A B σ τ o f)) (va_Qi (S := Unit) (fun v _ => v = 0) (fun _ t => HB K a A B ss tt o (vp_updL f 0 rr.toInt64) t) (HF a A B o)) 1 6 (HF a A B o) := by
  refine va_MetW (cc := b_Law_definition) (maxL := 4) (ret := (some .int)) (hh := [(0, 9, 12, 28)]) (by decide) rfl ?_
  intro p e s m args below meth c s₁ Bd hml hv
  obtain ⟨rfl, hP, hHK, hD⟩ := hv
  have hK := hHK.1.1
  have hx := Bd.exec
  have hb := Bd.bytes
  have hr := Bd.returns
  have hts := atoms_spec (ws := w_Law_definition) Bd.pre
  have hg : ∀ w ∈ Tg, w.before _ s = true := fun w q => hts w (List.mem_cons_of_mem _ q)
  have hown : s.vm.findClass "LanguageServerLaw" = some m.cls := findClass_of_methodNamed Bd.named
  have hlocks := Bd.notSynchronized
  have hS : va_S (HF a A B o) s.heap s.heap [] := va_S.rf
  have hl := lv_entry ([.ref a, .int x1, .ref o]) (n := 4) (Nat.le_of_ble_eq_true rfl)
  rw [lg_entry_eq]
  generalize (lg_sl ([.ref a, .int x1, .ref o]) ++ List.replicate (4 - (lg_sl ([.ref a, .int x1, .ref o])).length) Slot.unset).toArray = ls at hl ⊢
  have hl : lv_has ls 4 [(0, .ref a), (1, .int x1), (2, .ref o)] := hl
  generalize hargs : ([.ref a, .int x1, .ref o] : List Value).toArray = args at hg hts ⊢
  refine lv_aload_n hx hb d_Law_definition_0 rfl (lv_at hl 2 rfl) ?_
  refine lv_iconst (v := 0) hx hb d_Law_definition_1 (by decide) ?_
  refine lv_aload_n hx hb d_Law_definition_2 rfl (lv_at hl 0 rfl) ?_
  refine lv_iload_n hx hb d_Law_definition_3 rfl (lv_at hl 1 rfl) ?_
  refine H_calli (va_runV (As := [.int x1]) (rest := [.int 0, .ref o]) ⟨hx, hb, hml, hown, hts⟩ (c_LS_definition l K a A B h) (cwV 1 hts (gd_V wd_785 wd_786 wd_787 wd_1 wd_788) rfl rfl rfl dv_LS_definition ⟨Nat.le_of_ble_eq_true rfl, Nat.le_of_ble_eq_true rfl⟩) (H_pv hHK hS hP hD) rfl rfl hl.1 rfl (lv_room (Nat.le_of_ble_eq_true rfl)) d_Law_definition_4 ⟨Nat.le_of_ble_eq_true rfl, Nat.le_of_ble_eq_true rfl⟩) hP hD hS (fun H locs hP hD hS => ?_)
  refine lv_i2l hx hb d_Law_definition_7 rfl ?_
  refine va_last hx hb hK.1 hP hD hS 59 1 rfl rfl (show vp_in 0 1 by show inR 0 1; decide) d_Law_definition_8 (fun H locs hP hD hS => ?_)
  have hP : va_P K.1 vwCl (wH K a A B ss tt o (vp_updL f 0 rr.toInt64)) H := hP
  have hD : va_D (HF a A B o) (wH K a A B ss tt o (vp_updL f 0 rr.toInt64)) := hD
  refine lv_goto (tgt := 15) hx hb d_Law_definition_9 (by decide) ?_
  refine lv_iconst (v := 0) hx hb d_Law_definition_15 (by decide) ?_
  refine W.widen (k := 1) (n := 6) (Nat.le_of_ble_eq_true rfl) (Nat.le_of_ble_eq_true rfl) ?_
  exact W.iret hx hb hr (fun t ht hW => ⟨⟨_, (), rfl, rfl, by rw [ht]; exact hP, HB_of hHK hS hW ht (fun q h => h), hD⟩, hS.F ht⟩) hS.2.2 d_Law_definition_16
set_option maxHeartbeats 4000000 in
set_option maxRecDepth 100000 in
theorem ch_definition_3 (l : Launch) (hlt : l.stackTraces = false) (K : Kst) (a o : Nat) (A B : Nat → Nat) (f : Nat → Int64) {σ τ : Sto} {x1 : Int32} {rr : Int32} {ss tt : Sto} (h : p_LanguageServer_definition σ τ x1 = some (3, rr, ss, tt)) : Met l y_Law_definition w_Law_definition r_Law_definition (va_Pc [.ref a, .int x1, .ref o] (HB K a A B σ τ o f)) (va_Qi (S := Unit) (fun v _ => v = 1) (fun _ t => HB K a A B ss tt o f t) (HF a A B o)) 1 6 (HF a A B o) := by
  refine va_MetW (cc := b_Law_definition) (maxL := 4) (ret := (some .int)) (hh := [(0, 9, 12, 28)]) (by decide) rfl ?_
  intro p e s m args below meth c s₁ Bd hml hv
  obtain ⟨rfl, hP, hHK, hD⟩ := hv
  have hK := hHK.1.1
  have hx := Bd.exec
  have hb := Bd.bytes
  have hr := Bd.returns
  have hts := atoms_spec (ws := w_Law_definition) Bd.pre
  have hg : ∀ w ∈ Tg, w.before _ s = true := fun w q => hts w (List.mem_cons_of_mem _ q)
  have hown : s.vm.findClass "LanguageServerLaw" = some m.cls := findClass_of_methodNamed Bd.named
  have hlocks := Bd.notSynchronized
  have hS : va_S (HF a A B o) s.heap s.heap [] := va_S.rf
  have htab : c.exceptionTable.toList = ([(0, 9, 12, 28)] : List (Nat × Nat × Nat × Nat)).map (fun q => ⟨q.1, q.2.1, q.2.2.1, q.2.2.2⟩) := by
    obtain ⟨m9, meth9, c9, hn9, h1, h2, -, -, h6, -⟩ := Cond.codeWith_spec (hts _ List.mem_cons_self)
    cases Option.some.inj (hn9.symm.trans Bd.named)
    cases Option.some.inj (h1.symm.trans Bd.method)
    cases Option.some.inj (h2.symm.trans (Stand.of_body Bd).code)
    exact tab_of _ _ h6
  have hl := lv_entry ([.ref a, .int x1, .ref o]) (n := 4) (Nat.le_of_ble_eq_true rfl)
  rw [lg_entry_eq]
  generalize (lg_sl ([.ref a, .int x1, .ref o]) ++ List.replicate (4 - (lg_sl ([.ref a, .int x1, .ref o])).length) Slot.unset).toArray = ls at hl ⊢
  have hl : lv_has ls 4 [(0, .ref a), (1, .int x1), (2, .ref o)] := hl
  generalize hargs : ([.ref a, .int x1, .ref o] : List Value).toArray = args at hg hts ⊢
  refine lv_aload_n hx hb d_Law_definition_0 rfl (lv_at hl 2 rfl) ?_
  refine lv_iconst (v := 0) hx hb d_Law_definition_1 (by decide) ?_
  refine lv_aload_n hx hb d_Law_definition_2 rfl (lv_at hl 0 rfl) ?_
  refine lv_iload_n hx hb d_Law_definition_3 rfl (lv_at hl 1 rfl) ?_
  refine T_caught (own := "LanguageServerLaw") (nm := "java/util/NoSuchElementException") (T_runV (As := [.int x1]) (rest := [.int 0, .ref o]) ⟨hx, hb, hml, hown, hts⟩ (ct_LS_definition_3 l hlt K a A B h) (cwV 1 hts (gd_V wd_785 wd_786 wd_787 wd_1 wd_788) rfl rfl rfl dv_LS_definition ⟨Nat.le_of_ble_eq_true rfl, Nat.le_of_ble_eq_true rfl⟩) (H_pv hHK hS hP hD) rfl rfl hl.1 rfl (lv_room (Nat.le_of_ble_eq_true rfl)) d_Law_definition_4 ⟨Nat.le_of_ble_eq_true rfl, Nat.le_of_ble_eq_true rfl⟩) hown [] ⟨0, 9, 12, 28⟩ [] htab (fun x h => absurd h List.not_mem_nil) (by decide) (by decide) (hg _ wd_740) (hHK.1.2.1.1 "java/util/NoSuchElementException" (by decide)) hS (fun q _ h => Or.inl h) (fun q h => Or.inl h) (fun x t H1 locs ht hW hB hz hk hS => ?_)
  obtain ⟨hB1, -, -⟩ := hB
  rw [ht] at hB1
  obtain ⟨hP, hD⟩ := H_back hP hD hB1 hk
  generalize H1 = H at hP hS ⊢
  refine lv_astore_n (lv' := [(3, .ref x), (0, .ref a), (1, .int x1), (2, .ref o)]) hx hb d_Law_definition_12 rfl hl (by decide) rfl (fun ls hl => ?_)
  refine lv_iconst (v := 1) hx hb d_Law_definition_13 (by decide) ?_
  exact W.iret hx hb hr (fun t ht hW => ⟨⟨_, (), rfl, rfl, by rw [ht]; exact hP, HB_of hHK hS hW ht (fun q h => h), hD⟩, hS.F ht⟩) hS.2.2 d_Law_definition_14
abbrev w_Law_type : List Cond := Cond.codeWith y_Law_type b_Law_type 4 (some .int) [(0, 9, 12, 28)] :: Tg
abbrev r_Law_type : Room := { frames := 8, cells := 1, slots := 6, locals := 183 }
theorem ds_Law_type : y_Law_type.cls ≠ "java/lang/invoke/MethodHandle" ∧ y_Law_type.cls ≠ "java/lang/invoke/VarHandle" ∧ (parseMethodDescriptor y_Law_type.desc).map (fun d => d.parameters.length) = some 3 := by decide +kernel
set_option maxHeartbeats 4000000 in
set_option maxRecDepth 100000 in
theorem ch_type_0 (l : Launch) (hlt : l.stackTraces = false) (K : Kst) (a o : Nat) (A B : Nat → Nat) (f : Nat → Int64) {σ τ : Sto} {x1 : Int32} {rr : Int32} {ss tt : Sto} (h : p_LanguageServer_type σ τ x1 = some (0, rr, ss, tt)) : Met l y_Law_type w_Law_type r_Law_type (va_Pc [.ref a, .int x1, .ref o] (HB K a A B σ τ o f)) (va_Qi (S := Unit) (fun v _ => v = 0) (fun _ t => HB K a A B ss tt o (vp_updL f 0 rr.toInt64) t) (HF a A B o)) 1 6 (HF a A B o) := by
  refine va_MetW (cc := b_Law_type) (maxL := 4) (ret := (some .int)) (hh := [(0, 9, 12, 28)]) (by decide) rfl ?_
  intro p e s m args below meth c s₁ Bd hml hv
  obtain ⟨rfl, hP, hHK, hD⟩ := hv
  have hK := hHK.1.1
  have hx := Bd.exec
  have hb := Bd.bytes
  have hr := Bd.returns
  have hts := atoms_spec (ws := w_Law_type) Bd.pre
  have hg : ∀ w ∈ Tg, w.before _ s = true := fun w q => hts w (List.mem_cons_of_mem _ q)
  have hown : s.vm.findClass "LanguageServerLaw" = some m.cls := findClass_of_methodNamed Bd.named
  have hlocks := Bd.notSynchronized
  have hS : va_S (HF a A B o) s.heap s.heap [] := va_S.rf
  have hl := lv_entry ([.ref a, .int x1, .ref o]) (n := 4) (Nat.le_of_ble_eq_true rfl)
  rw [lg_entry_eq]
  generalize (lg_sl ([.ref a, .int x1, .ref o]) ++ List.replicate (4 - (lg_sl ([.ref a, .int x1, .ref o])).length) Slot.unset).toArray = ls at hl ⊢
  have hl : lv_has ls 4 [(0, .ref a), (1, .int x1), (2, .ref o)] := hl
  generalize hargs : ([.ref a, .int x1, .ref o] : List Value).toArray = args at hg hts ⊢
  refine lv_aload_n hx hb d_Law_type_0 rfl (lv_at hl 2 rfl) ?_
  refine lv_iconst (v := 0) hx hb d_Law_type_1 (by decide) ?_
  refine lv_aload_n hx hb d_Law_type_2 rfl (lv_at hl 0 rfl) ?_
  refine lv_iload_n hx hb d_Law_type_3 rfl (lv_at hl 1 rfl) ?_
  refine H_calli (va_runV (As := [.int x1]) (rest := [.int 0, .ref o]) ⟨hx, hb, hml, hown, hts⟩ (c_LS_type l K a A B h) (cwV 1 hts (gd_V wd_801 wd_802 wd_803 wd_1 wd_804) rfl rfl rfl dv_LS_type ⟨Nat.le_of_ble_eq_true rfl, Nat.le_of_ble_eq_true rfl⟩) (H_pv hHK hS hP hD) rfl rfl hl.1 rfl (lv_room (Nat.le_of_ble_eq_true rfl)) d_Law_type_4 ⟨Nat.le_of_ble_eq_true rfl, Nat.le_of_ble_eq_true rfl⟩) hP hD hS (fun H locs hP hD hS => ?_)
  refine lv_i2l hx hb d_Law_type_7 rfl ?_
  refine va_last hx hb hK.1 hP hD hS 59 1 rfl rfl (show vp_in 0 1 by show inR 0 1; decide) d_Law_type_8 (fun H locs hP hD hS => ?_)
  have hP : va_P K.1 vwCl (wH K a A B ss tt o (vp_updL f 0 rr.toInt64)) H := hP
  have hD : va_D (HF a A B o) (wH K a A B ss tt o (vp_updL f 0 rr.toInt64)) := hD
  refine lv_goto (tgt := 15) hx hb d_Law_type_9 (by decide) ?_
  refine lv_iconst (v := 0) hx hb d_Law_type_15 (by decide) ?_
  refine W.widen (k := 1) (n := 6) (Nat.le_of_ble_eq_true rfl) (Nat.le_of_ble_eq_true rfl) ?_
  exact W.iret hx hb hr (fun t ht hW => ⟨⟨_, (), rfl, rfl, by rw [ht]; exact hP, HB_of hHK hS hW ht (fun q h => h), hD⟩, hS.F ht⟩) hS.2.2 d_Law_type_16
set_option maxHeartbeats 4000000 in
set_option maxRecDepth 100000 in
theorem ch_type_3 (l : Launch) (hlt : l.stackTraces = false) (K : Kst) (a o : Nat) (A B : Nat → Nat) (f : Nat → Int64) {σ τ : Sto} {x1 : Int32} {rr : Int32} {ss tt : Sto} (h : p_LanguageServer_type σ τ x1 = some (3, rr, ss, tt)) : Met l y_Law_type w_Law_type r_Law_type (va_Pc [.ref a, .int x1, .ref o] (HB K a A B σ τ o f)) (va_Qi (S := Unit) (fun v _ => v = 1) (fun _ t => HB K a A B ss tt o f t) (HF a A B o)) 1 6 (HF a A B o) := by
  refine va_MetW (cc := b_Law_type) (maxL := 4) (ret := (some .int)) (hh := [(0, 9, 12, 28)]) (by decide) rfl ?_
  intro p e s m args below meth c s₁ Bd hml hv
  obtain ⟨rfl, hP, hHK, hD⟩ := hv
  have hK := hHK.1.1
  have hx := Bd.exec
  have hb := Bd.bytes
  have hr := Bd.returns
  have hts := atoms_spec (ws := w_Law_type) Bd.pre
  have hg : ∀ w ∈ Tg, w.before _ s = true := fun w q => hts w (List.mem_cons_of_mem _ q)
  have hown : s.vm.findClass "LanguageServerLaw" = some m.cls := findClass_of_methodNamed Bd.named
  have hlocks := Bd.notSynchronized
  have hS : va_S (HF a A B o) s.heap s.heap [] := va_S.rf
  have htab : c.exceptionTable.toList = ([(0, 9, 12, 28)] : List (Nat × Nat × Nat × Nat)).map (fun q => ⟨q.1, q.2.1, q.2.2.1, q.2.2.2⟩) := by
    obtain ⟨m9, meth9, c9, hn9, h1, h2, -, -, h6, -⟩ := Cond.codeWith_spec (hts _ List.mem_cons_self)
    cases Option.some.inj (hn9.symm.trans Bd.named)
    cases Option.some.inj (h1.symm.trans Bd.method)
    cases Option.some.inj (h2.symm.trans (Stand.of_body Bd).code)
    exact tab_of _ _ h6
  have hl := lv_entry ([.ref a, .int x1, .ref o]) (n := 4) (Nat.le_of_ble_eq_true rfl)
  rw [lg_entry_eq]
  generalize (lg_sl ([.ref a, .int x1, .ref o]) ++ List.replicate (4 - (lg_sl ([.ref a, .int x1, .ref o])).length) Slot.unset).toArray = ls at hl ⊢
  have hl : lv_has ls 4 [(0, .ref a), (1, .int x1), (2, .ref o)] := hl
  generalize hargs : ([.ref a, .int x1, .ref o] : List Value).toArray = args at hg hts ⊢
  refine lv_aload_n hx hb d_Law_type_0 rfl (lv_at hl 2 rfl) ?_
  refine lv_iconst (v := 0) hx hb d_Law_type_1 (by decide) ?_
  refine lv_aload_n hx hb d_Law_type_2 rfl (lv_at hl 0 rfl) ?_
  refine lv_iload_n hx hb d_Law_type_3 rfl (lv_at hl 1 rfl) ?_
  refine T_caught (own := "LanguageServerLaw") (nm := "java/util/NoSuchElementException") (T_runV (As := [.int x1]) (rest := [.int 0, .ref o]) ⟨hx, hb, hml, hown, hts⟩ (ct_LS_type_3 l hlt K a A B h) (cwV 1 hts (gd_V wd_801 wd_802 wd_803 wd_1 wd_804) rfl rfl rfl dv_LS_type ⟨Nat.le_of_ble_eq_true rfl, Nat.le_of_ble_eq_true rfl⟩) (H_pv hHK hS hP hD) rfl rfl hl.1 rfl (lv_room (Nat.le_of_ble_eq_true rfl)) d_Law_type_4 ⟨Nat.le_of_ble_eq_true rfl, Nat.le_of_ble_eq_true rfl⟩) hown [] ⟨0, 9, 12, 28⟩ [] htab (fun x h => absurd h List.not_mem_nil) (by decide) (by decide) (hg _ wd_740) (hHK.1.2.1.1 "java/util/NoSuchElementException" (by decide)) hS (fun q _ h => Or.inl h) (fun q h => Or.inl h) (fun x t H1 locs ht hW hB hz hk hS => ?_)
  obtain ⟨hB1, -, -⟩ := hB
  rw [ht] at hB1
  obtain ⟨hP, hD⟩ := H_back hP hD hB1 hk
  generalize H1 = H at hP hS ⊢
  refine lv_astore_n (lv' := [(3, .ref x), (0, .ref a), (1, .int x1), (2, .ref o)]) hx hb d_Law_type_12 rfl hl (by decide) rfl (fun ls hl => ?_)
  refine lv_iconst (v := 1) hx hb d_Law_type_13 (by decide) ?_
  exact W.iret hx hb hr (fun t ht hW => ⟨⟨_, (), rfl, rfl, by rw [ht]; exact hP, HB_of hHK hS hW ht (fun q h => h), hD⟩, hS.F ht⟩) hS.2.2 d_Law_type_14
abbrev w_Law_references : List Cond := Cond.codeWith y_Law_references b_Law_references 4 (some .int) [(0, 9, 12, 28)] :: Tg
abbrev r_Law_references : Room := { frames := 8, cells := 1, slots := 6, locals := 183 }
theorem ds_Law_references : y_Law_references.cls ≠ "java/lang/invoke/MethodHandle" ∧ y_Law_references.cls ≠ "java/lang/invoke/VarHandle" ∧ (parseMethodDescriptor y_Law_references.desc).map (fun d => d.parameters.length) = some 3 := by decide +kernel
set_option maxHeartbeats 4000000 in
set_option maxRecDepth 100000 in
theorem ch_references_0 (l : Launch) (hlt : l.stackTraces = false) (K : Kst) (a o : Nat) (A B : Nat → Nat) (f : Nat → Int64) {σ τ : Sto} {x1 : Int32} {rr : Int32} {ss tt : Sto} (h : p_LanguageServer_references σ τ x1 = some (0, rr, ss, tt)) : Met l y_Law_references w_Law_references r_Law_references (va_Pc [.ref a, .int x1, .ref o] (HB K a A B σ τ o f)) (va_Qi (S := Unit) (fun v _ => v = 0) (fun _ t => HB K a A B ss tt o (vp_updL f 0 rr.toInt64) t) (HF a A B o)) 1 6 (HF a A B o) := by
  refine va_MetW (cc := b_Law_references) (maxL := 4) (ret := (some .int)) (hh := [(0, 9, 12, 28)]) (by decide) rfl ?_
  intro p e s m args below meth c s₁ Bd hml hv
  obtain ⟨rfl, hP, hHK, hD⟩ := hv
  have hK := hHK.1.1
  have hx := Bd.exec
  have hb := Bd.bytes
  have hr := Bd.returns
  have hts := atoms_spec (ws := w_Law_references) Bd.pre
  have hg : ∀ w ∈ Tg, w.before _ s = true := fun w q => hts w (List.mem_cons_of_mem _ q)
  have hown : s.vm.findClass "LanguageServerLaw" = some m.cls := findClass_of_methodNamed Bd.named
  have hlocks := Bd.notSynchronized
  have hS : va_S (HF a A B o) s.heap s.heap [] := va_S.rf
  have hl := lv_entry ([.ref a, .int x1, .ref o]) (n := 4) (Nat.le_of_ble_eq_true rfl)
  rw [lg_entry_eq]
  generalize (lg_sl ([.ref a, .int x1, .ref o]) ++ List.replicate (4 - (lg_sl ([.ref a, .int x1, .ref o])).length) Slot.unset).toArray = ls at hl ⊢
  have hl : lv_has ls 4 [(0, .ref a), (1, .int x1), (2, .ref o)] := hl
  generalize hargs : ([.ref a, .int x1, .ref o] : List Value).toArray = args at hg hts ⊢
  refine lv_aload_n hx hb d_Law_references_0 rfl (lv_at hl 2 rfl) ?_
  refine lv_iconst (v := 0) hx hb d_Law_references_1 (by decide) ?_
  refine lv_aload_n hx hb d_Law_references_2 rfl (lv_at hl 0 rfl) ?_
  refine lv_iload_n hx hb d_Law_references_3 rfl (lv_at hl 1 rfl) ?_
  refine H_calli (va_runV (As := [.int x1]) (rest := [.int 0, .ref o]) ⟨hx, hb, hml, hown, hts⟩ (c_LS_references l K a A B h) (cwV 1 hts (gd_V wd_808 wd_809 wd_810 wd_1 wd_811) rfl rfl rfl dv_LS_references ⟨Nat.le_of_ble_eq_true rfl, Nat.le_of_ble_eq_true rfl⟩) (H_pv hHK hS hP hD) rfl rfl hl.1 rfl (lv_room (Nat.le_of_ble_eq_true rfl)) d_Law_references_4 ⟨Nat.le_of_ble_eq_true rfl, Nat.le_of_ble_eq_true rfl⟩) hP hD hS (fun H locs hP hD hS => ?_)
  refine lv_i2l hx hb d_Law_references_7 rfl ?_
  refine va_last hx hb hK.1 hP hD hS 59 1 rfl rfl (show vp_in 0 1 by show inR 0 1; decide) d_Law_references_8 (fun H locs hP hD hS => ?_)
  have hP : va_P K.1 vwCl (wH K a A B ss tt o (vp_updL f 0 rr.toInt64)) H := hP
  have hD : va_D (HF a A B o) (wH K a A B ss tt o (vp_updL f 0 rr.toInt64)) := hD
  refine lv_goto (tgt := 15) hx hb d_Law_references_9 (by decide) ?_
  refine lv_iconst (v := 0) hx hb d_Law_references_15 (by decide) ?_
  refine W.widen (k := 1) (n := 6) (Nat.le_of_ble_eq_true rfl) (Nat.le_of_ble_eq_true rfl) ?_
  exact W.iret hx hb hr (fun t ht hW => ⟨⟨_, (), rfl, rfl, by rw [ht]; exact hP, HB_of hHK hS hW ht (fun q h => h), hD⟩, hS.F ht⟩) hS.2.2 d_Law_references_16
set_option maxHeartbeats 4000000 in
set_option maxRecDepth 100000 in
theorem ch_references_3 (l : Launch) (hlt : l.stackTraces = false) (K : Kst) (a o : Nat) (A B : Nat → Nat) (f : Nat → Int64) {σ τ : Sto} {x1 : Int32} {rr : Int32} {ss tt : Sto} (h : p_LanguageServer_references σ τ x1 = some (3, rr, ss, tt)) : Met l y_Law_references w_Law_references r_Law_references (va_Pc [.ref a, .int x1, .ref o] (HB K a A B σ τ o f)) (va_Qi (S := Unit) (fun v _ => v = 1) (fun _ t => HB K a A B ss tt o f t) (HF a A B o)) 1 6 (HF a A B o) := by
  refine va_MetW (cc := b_Law_references) (maxL := 4) (ret := (some .int)) (hh := [(0, 9, 12, 28)]) (by decide) rfl ?_
  intro p e s m args below meth c s₁ Bd hml hv
  obtain ⟨rfl, hP, hHK, hD⟩ := hv
  have hK := hHK.1.1
  have hx := Bd.exec
  have hb := Bd.bytes
  have hr := Bd.returns
  have hts := atoms_spec (ws := w_Law_references) Bd.pre
  have hg : ∀ w ∈ Tg, w.before _ s = true := fun w q => hts w (List.mem_cons_of_mem _ q)
  have hown : s.vm.findClass "LanguageServerLaw" = some m.cls := findClass_of_methodNamed Bd.named
  have hlocks := Bd.notSynchronized
  have hS : va_S (HF a A B o) s.heap s.heap [] := va_S.rf
  have htab : c.exceptionTable.toList = ([(0, 9, 12, 28)] : List (Nat × Nat × Nat × Nat)).map (fun q => ⟨q.1, q.2.1, q.2.2.1, q.2.2.2⟩) := by
    obtain ⟨m9, meth9, c9, hn9, h1, h2, -, -, h6, -⟩ := Cond.codeWith_spec (hts _ List.mem_cons_self)
    cases Option.some.inj (hn9.symm.trans Bd.named)
    cases Option.some.inj (h1.symm.trans Bd.method)
    cases Option.some.inj (h2.symm.trans (Stand.of_body Bd).code)
    exact tab_of _ _ h6
  have hl := lv_entry ([.ref a, .int x1, .ref o]) (n := 4) (Nat.le_of_ble_eq_true rfl)
  rw [lg_entry_eq]
  generalize (lg_sl ([.ref a, .int x1, .ref o]) ++ List.replicate (4 - (lg_sl ([.ref a, .int x1, .ref o])).length) Slot.unset).toArray = ls at hl ⊢
  have hl : lv_has ls 4 [(0, .ref a), (1, .int x1), (2, .ref o)] := hl
  generalize hargs : ([.ref a, .int x1, .ref o] : List Value).toArray = args at hg hts ⊢
  refine lv_aload_n hx hb d_Law_references_0 rfl (lv_at hl 2 rfl) ?_
  refine lv_iconst (v := 0) hx hb d_Law_references_1 (by decide) ?_
  refine lv_aload_n hx hb d_Law_references_2 rfl (lv_at hl 0 rfl) ?_
  refine lv_iload_n hx hb d_Law_references_3 rfl (lv_at hl 1 rfl) ?_
  refine T_caught (own := "LanguageServerLaw") (nm := "java/util/NoSuchElementException") (T_runV (As := [.int x1]) (rest := [.int 0, .ref o]) ⟨hx, hb, hml, hown, hts⟩ (ct_LS_references_3 l hlt K a A B h) (cwV 1 hts (gd_V wd_808 wd_809 wd_810 wd_1 wd_811) rfl rfl rfl dv_LS_references ⟨Nat.le_of_ble_eq_true rfl, Nat.le_of_ble_eq_true rfl⟩) (H_pv hHK hS hP hD) rfl rfl hl.1 rfl (lv_room (Nat.le_of_ble_eq_true rfl)) d_Law_references_4 ⟨Nat.le_of_ble_eq_true rfl, Nat.le_of_ble_eq_true rfl⟩) hown [] ⟨0, 9, 12, 28⟩ [] htab (fun x h => absurd h List.not_mem_nil) (by decide) (by decide) (hg _ wd_740) (hHK.1.2.1.1 "java/util/NoSuchElementException" (by decide)) hS (fun q _ h => Or.inl h) (fun q h => Or.inl h) (fun x t H1 locs ht hW hB hz hk hS => ?_)
  obtain ⟨hB1, -, -⟩ := hB
  rw [ht] at hB1
  obtain ⟨hP, hD⟩ := H_back hP hD hB1 hk
  generalize H1 = H at hP hS ⊢
  refine lv_astore_n (lv' := [(3, .ref x), (0, .ref a), (1, .int x1), (2, .ref o)]) hx hb d_Law_references_12 rfl hl (by decide) rfl (fun ls hl => ?_)
  refine lv_iconst (v := 1) hx hb d_Law_references_13 (by decide) ?_
  exact W.iret hx hb hr (fun t ht hW => ⟨⟨_, (), rfl, rfl, by rw [ht]; exact hP, HB_of hHK hS hW ht (fun q h => h), hD⟩, hS.F ht⟩) hS.2.2 d_Law_references_14
abbrev w_Law_reference : List Cond := Cond.codeWith y_Law_reference b_Law_reference 5 (some .int) [(0, 10, 13, 28)] :: Tg
abbrev r_Law_reference : Room := { frames := 8, cells := 1, slots := 6, locals := 185 }
theorem ds_Law_reference : y_Law_reference.cls ≠ "java/lang/invoke/MethodHandle" ∧ y_Law_reference.cls ≠ "java/lang/invoke/VarHandle" ∧ (parseMethodDescriptor y_Law_reference.desc).map (fun d => d.parameters.length) = some 4 := by decide +kernel
set_option maxHeartbeats 4000000 in
set_option maxRecDepth 100000 in
theorem ch_reference_0 (l : Launch) (hlt : l.stackTraces = false) (K : Kst) (a o : Nat) (A B : Nat → Nat) (f : Nat → Int64) {σ τ : Sto} {x1 : Int32} {x2 : Int32} {rr : Int32} {ss tt : Sto} (h : p_LanguageServer_reference σ τ x1 x2 = some (0, rr, ss, tt)) : Met l y_Law_reference w_Law_reference r_Law_reference (va_Pc [.ref a, .int x1, .int x2, .ref o] (HB K a A B σ τ o f)) (va_Qi (S := Unit) (fun v _ => v = 0) (fun _ t => HB K a A B ss tt o (vp_updL f 0 rr.toInt64) t) (HF a A B o)) 1 6 (HF a A B o) := by
  refine va_MetW (cc := b_Law_reference) (maxL := 5) (ret := (some .int)) (hh := [(0, 10, 13, 28)]) (by decide) rfl ?_
  intro p e s m args below meth c s₁ Bd hml hv
  obtain ⟨rfl, hP, hHK, hD⟩ := hv
  have hK := hHK.1.1
  have hx := Bd.exec
  have hb := Bd.bytes
  have hr := Bd.returns
  have hts := atoms_spec (ws := w_Law_reference) Bd.pre
  have hg : ∀ w ∈ Tg, w.before _ s = true := fun w q => hts w (List.mem_cons_of_mem _ q)
  have hown : s.vm.findClass "LanguageServerLaw" = some m.cls := findClass_of_methodNamed Bd.named
  have hlocks := Bd.notSynchronized
  have hS : va_S (HF a A B o) s.heap s.heap [] := va_S.rf
  have hl := lv_entry ([.ref a, .int x1, .int x2, .ref o]) (n := 5) (Nat.le_of_ble_eq_true rfl)
  rw [lg_entry_eq]
  generalize (lg_sl ([.ref a, .int x1, .int x2, .ref o]) ++ List.replicate (5 - (lg_sl ([.ref a, .int x1, .int x2, .ref o])).length) Slot.unset).toArray = ls at hl ⊢
  have hl : lv_has ls 5 [(0, .ref a), (1, .int x1), (2, .int x2), (3, .ref o)] := hl
  generalize hargs : ([.ref a, .int x1, .int x2, .ref o] : List Value).toArray = args at hg hts ⊢
  refine lv_aload_n hx hb d_Law_reference_0 rfl (lv_at hl 3 rfl) ?_
  refine lv_iconst (v := 0) hx hb d_Law_reference_1 (by decide) ?_
  refine lv_aload_n hx hb d_Law_reference_2 rfl (lv_at hl 0 rfl) ?_
  refine lv_iload_n hx hb d_Law_reference_3 rfl (lv_at hl 1 rfl) ?_
  refine lv_iload_n hx hb d_Law_reference_4 rfl (lv_at hl 2 rfl) ?_
  refine H_calli (va_runV (As := [.int x1, .int x2]) (rest := [.int 0, .ref o]) ⟨hx, hb, hml, hown, hts⟩ (c_LS_reference l K a A B h) (cwV 2 hts (gd_V wd_819 wd_820 wd_821 wd_1 wd_822) rfl rfl rfl dv_LS_reference ⟨Nat.le_of_ble_eq_true rfl, Nat.le_of_ble_eq_true rfl⟩) (H_pv hHK hS hP hD) rfl rfl hl.1 rfl (lv_room (Nat.le_of_ble_eq_true rfl)) d_Law_reference_5 ⟨Nat.le_of_ble_eq_true rfl, Nat.le_of_ble_eq_true rfl⟩) hP hD hS (fun H locs hP hD hS => ?_)
  refine lv_i2l hx hb d_Law_reference_8 rfl ?_
  refine va_last hx hb hK.1 hP hD hS 59 1 rfl rfl (show vp_in 0 1 by show inR 0 1; decide) d_Law_reference_9 (fun H locs hP hD hS => ?_)
  have hP : va_P K.1 vwCl (wH K a A B ss tt o (vp_updL f 0 rr.toInt64)) H := hP
  have hD : va_D (HF a A B o) (wH K a A B ss tt o (vp_updL f 0 rr.toInt64)) := hD
  refine lv_goto (tgt := 17) hx hb d_Law_reference_10 (by decide) ?_
  refine lv_iconst (v := 0) hx hb d_Law_reference_17 (by decide) ?_
  refine W.widen (k := 1) (n := 6) (Nat.le_of_ble_eq_true rfl) (Nat.le_of_ble_eq_true rfl) ?_
  exact W.iret hx hb hr (fun t ht hW => ⟨⟨_, (), rfl, rfl, by rw [ht]; exact hP, HB_of hHK hS hW ht (fun q h => h), hD⟩, hS.F ht⟩) hS.2.2 d_Law_reference_18
set_option maxHeartbeats 4000000 in
set_option maxRecDepth 100000 in
theorem ch_reference_3 (l : Launch) (hlt : l.stackTraces = false) (K : Kst) (a o : Nat) (A B : Nat → Nat) (f : Nat → Int64) {σ τ : Sto} {x1 : Int32} {x2 : Int32} {rr : Int32} {ss tt : Sto} (h : p_LanguageServer_reference σ τ x1 x2 = some (3, rr, ss, tt)) : Met l y_Law_reference w_Law_reference r_Law_reference (va_Pc [.ref a, .int x1, .int x2, .ref o] (HB K a A B σ τ o f)) (va_Qi (S := Unit) (fun v _ => v = 1) (fun _ t => HB K a A B ss tt o f t) (HF a A B o)) 1 6 (HF a A B o) := by
  refine va_MetW (cc := b_Law_reference) (maxL := 5) (ret := (some .int)) (hh := [(0, 10, 13, 28)]) (by decide) rfl ?_
  intro p e s m args below meth c s₁ Bd hml hv
  obtain ⟨rfl, hP, hHK, hD⟩ := hv
  have hK := hHK.1.1
  have hx := Bd.exec
  have hb := Bd.bytes
  have hr := Bd.returns
  have hts := atoms_spec (ws := w_Law_reference) Bd.pre
  have hg : ∀ w ∈ Tg, w.before _ s = true := fun w q => hts w (List.mem_cons_of_mem _ q)
  have hown : s.vm.findClass "LanguageServerLaw" = some m.cls := findClass_of_methodNamed Bd.named
  have hlocks := Bd.notSynchronized
  have hS : va_S (HF a A B o) s.heap s.heap [] := va_S.rf
  have htab : c.exceptionTable.toList = ([(0, 10, 13, 28)] : List (Nat × Nat × Nat × Nat)).map (fun q => ⟨q.1, q.2.1, q.2.2.1, q.2.2.2⟩) := by
    obtain ⟨m9, meth9, c9, hn9, h1, h2, -, -, h6, -⟩ := Cond.codeWith_spec (hts _ List.mem_cons_self)
    cases Option.some.inj (hn9.symm.trans Bd.named)
    cases Option.some.inj (h1.symm.trans Bd.method)
    cases Option.some.inj (h2.symm.trans (Stand.of_body Bd).code)
    exact tab_of _ _ h6
  have hl := lv_entry ([.ref a, .int x1, .int x2, .ref o]) (n := 5) (Nat.le_of_ble_eq_true rfl)
  rw [lg_entry_eq]
  generalize (lg_sl ([.ref a, .int x1, .int x2, .ref o]) ++ List.replicate (5 - (lg_sl ([.ref a, .int x1, .int x2, .ref o])).length) Slot.unset).toArray = ls at hl ⊢
  have hl : lv_has ls 5 [(0, .ref a), (1, .int x1), (2, .int x2), (3, .ref o)] := hl
  generalize hargs : ([.ref a, .int x1, .int x2, .ref o] : List Value).toArray = args at hg hts ⊢
  refine lv_aload_n hx hb d_Law_reference_0 rfl (lv_at hl 3 rfl) ?_
  refine lv_iconst (v := 0) hx hb d_Law_reference_1 (by decide) ?_
  refine lv_aload_n hx hb d_Law_reference_2 rfl (lv_at hl 0 rfl) ?_
  refine lv_iload_n hx hb d_Law_reference_3 rfl (lv_at hl 1 rfl) ?_
  refine lv_iload_n hx hb d_Law_reference_4 rfl (lv_at hl 2 rfl) ?_
  refine T_caught (own := "LanguageServerLaw") (nm := "java/util/NoSuchElementException") (T_runV (As := [.int x1, .int x2]) (rest := [.int 0, .ref o]) ⟨hx, hb, hml, hown, hts⟩ (ct_LS_reference_3 l hlt K a A B h) (cwV 2 hts (gd_V wd_819 wd_820 wd_821 wd_1 wd_822) rfl rfl rfl dv_LS_reference ⟨Nat.le_of_ble_eq_true rfl, Nat.le_of_ble_eq_true rfl⟩) (H_pv hHK hS hP hD) rfl rfl hl.1 rfl (lv_room (Nat.le_of_ble_eq_true rfl)) d_Law_reference_5 ⟨Nat.le_of_ble_eq_true rfl, Nat.le_of_ble_eq_true rfl⟩) hown [] ⟨0, 10, 13, 28⟩ [] htab (fun x h => absurd h List.not_mem_nil) (by decide) (by decide) (hg _ wd_740) (hHK.1.2.1.1 "java/util/NoSuchElementException" (by decide)) hS (fun q _ h => Or.inl h) (fun q h => Or.inl h) (fun x t H1 locs ht hW hB hz hk hS => ?_)
  obtain ⟨hB1, -, -⟩ := hB
  rw [ht] at hB1
  obtain ⟨hP, hD⟩ := H_back hP hD hB1 hk
  generalize H1 = H at hP hS ⊢
  refine lv_astore (lv' := [(4, .ref x), (0, .ref a), (1, .int x1), (2, .int x2), (3, .ref o)]) hx hb d_Law_reference_13 hl (by decide) rfl (fun ls hl => ?_)
  refine lv_iconst (v := 1) hx hb d_Law_reference_15 (by decide) ?_
  exact W.iret hx hb hr (fun t ht hW => ⟨⟨_, (), rfl, rfl, by rw [ht]; exact hP, HB_of hHK hS hW ht (fun q h => h), hD⟩, hS.F ht⟩) hS.2.2 d_Law_reference_16
abbrev w_Law_members : List Cond := Cond.codeWith y_Law_members b_Law_members 4 (some .int) [(0, 9, 12, 28)] :: Tg
abbrev r_Law_members : Room := { frames := 8, cells := 1, slots := 6, locals := 183 }
theorem ds_Law_members : y_Law_members.cls ≠ "java/lang/invoke/MethodHandle" ∧ y_Law_members.cls ≠ "java/lang/invoke/VarHandle" ∧ (parseMethodDescriptor y_Law_members.desc).map (fun d => d.parameters.length) = some 3 := by decide +kernel
set_option maxHeartbeats 4000000 in
set_option maxRecDepth 100000 in
theorem ch_members_0 (l : Launch) (hlt : l.stackTraces = false) (K : Kst) (a o : Nat) (A B : Nat → Nat) (f : Nat → Int64) {σ τ : Sto} {x1 : Int32} {rr : Int32} {ss tt : Sto} (h : p_LanguageServer_members σ τ x1 = some (0, rr, ss, tt)) : Met l y_Law_members w_Law_members r_Law_members (va_Pc [.ref a, .int x1, .ref o] (HB K a A B σ τ o f)) (va_Qi (S := Unit) (fun v _ => v = 0) (fun _ t => HB K a A B ss tt o (vp_updL f 0 rr.toInt64) t) (HF a A B o)) 1 6 (HF a A B o) := by
  refine va_MetW (cc := b_Law_members) (maxL := 4) (ret := (some .int)) (hh := [(0, 9, 12, 28)]) (by decide) rfl ?_
  intro p e s m args below meth c s₁ Bd hml hv
  obtain ⟨rfl, hP, hHK, hD⟩ := hv
  have hK := hHK.1.1
  have hx := Bd.exec
  have hb := Bd.bytes
  have hr := Bd.returns
  have hts := atoms_spec (ws := w_Law_members) Bd.pre
  have hg : ∀ w ∈ Tg, w.before _ s = true := fun w q => hts w (List.mem_cons_of_mem _ q)
  have hown : s.vm.findClass "LanguageServerLaw" = some m.cls := findClass_of_methodNamed Bd.named
  have hlocks := Bd.notSynchronized
  have hS : va_S (HF a A B o) s.heap s.heap [] := va_S.rf
  have hl := lv_entry ([.ref a, .int x1, .ref o]) (n := 4) (Nat.le_of_ble_eq_true rfl)
  rw [lg_entry_eq]
  generalize (lg_sl ([.ref a, .int x1, .ref o]) ++ List.replicate (4 - (lg_sl ([.ref a, .int x1, .ref o])).length) Slot.unset).toArray = ls at hl ⊢
  have hl : lv_has ls 4 [(0, .ref a), (1, .int x1), (2, .ref o)] := hl
  generalize hargs : ([.ref a, .int x1, .ref o] : List Value).toArray = args at hg hts ⊢
  refine lv_aload_n hx hb d_Law_members_0 rfl (lv_at hl 2 rfl) ?_
  refine lv_iconst (v := 0) hx hb d_Law_members_1 (by decide) ?_
  refine lv_aload_n hx hb d_Law_members_2 rfl (lv_at hl 0 rfl) ?_
  refine lv_iload_n hx hb d_Law_members_3 rfl (lv_at hl 1 rfl) ?_
  refine H_calli (va_runV (As := [.int x1]) (rest := [.int 0, .ref o]) ⟨hx, hb, hml, hown, hts⟩ (c_LS_members l K a A B h) (cwV 1 hts (gd_V wd_831 wd_832 wd_833 wd_1 wd_834) rfl rfl rfl dv_LS_members ⟨Nat.le_of_ble_eq_true rfl, Nat.le_of_ble_eq_true rfl⟩) (H_pv hHK hS hP hD) rfl rfl hl.1 rfl (lv_room (Nat.le_of_ble_eq_true rfl)) d_Law_members_4 ⟨Nat.le_of_ble_eq_true rfl, Nat.le_of_ble_eq_true rfl⟩) hP hD hS (fun H locs hP hD hS => ?_)
  refine lv_i2l hx hb d_Law_members_7 rfl ?_
  refine va_last hx hb hK.1 hP hD hS 59 1 rfl rfl (show vp_in 0 1 by show inR 0 1; decide) d_Law_members_8 (fun H locs hP hD hS => ?_)
  have hP : va_P K.1 vwCl (wH K a A B ss tt o (vp_updL f 0 rr.toInt64)) H := hP
  have hD : va_D (HF a A B o) (wH K a A B ss tt o (vp_updL f 0 rr.toInt64)) := hD
  refine lv_goto (tgt := 15) hx hb d_Law_members_9 (by decide) ?_
  refine lv_iconst (v := 0) hx hb d_Law_members_15 (by decide) ?_
  refine W.widen (k := 1) (n := 6) (Nat.le_of_ble_eq_true rfl) (Nat.le_of_ble_eq_true rfl) ?_
  exact W.iret hx hb hr (fun t ht hW => ⟨⟨_, (), rfl, rfl, by rw [ht]; exact hP, HB_of hHK hS hW ht (fun q h => h), hD⟩, hS.F ht⟩) hS.2.2 d_Law_members_16
set_option maxHeartbeats 4000000 in
set_option maxRecDepth 100000 in
theorem ch_members_3 (l : Launch) (hlt : l.stackTraces = false) (K : Kst) (a o : Nat) (A B : Nat → Nat) (f : Nat → Int64) {σ τ : Sto} {x1 : Int32} {rr : Int32} {ss tt : Sto} (h : p_LanguageServer_members σ τ x1 = some (3, rr, ss, tt)) : Met l y_Law_members w_Law_members r_Law_members (va_Pc [.ref a, .int x1, .ref o] (HB K a A B σ τ o f)) (va_Qi (S := Unit) (fun v _ => v = 1) (fun _ t => HB K a A B ss tt o f t) (HF a A B o)) 1 6 (HF a A B o) := by
  refine va_MetW (cc := b_Law_members) (maxL := 4) (ret := (some .int)) (hh := [(0, 9, 12, 28)]) (by decide) rfl ?_
  intro p e s m args below meth c s₁ Bd hml hv
  obtain ⟨rfl, hP, hHK, hD⟩ := hv
  have hK := hHK.1.1
  have hx := Bd.exec
  have hb := Bd.bytes
  have hr := Bd.returns
  have hts := atoms_spec (ws := w_Law_members) Bd.pre
  have hg : ∀ w ∈ Tg, w.before _ s = true := fun w q => hts w (List.mem_cons_of_mem _ q)
  have hown : s.vm.findClass "LanguageServerLaw" = some m.cls := findClass_of_methodNamed Bd.named
  have hlocks := Bd.notSynchronized
  have hS : va_S (HF a A B o) s.heap s.heap [] := va_S.rf
  have htab : c.exceptionTable.toList = ([(0, 9, 12, 28)] : List (Nat × Nat × Nat × Nat)).map (fun q => ⟨q.1, q.2.1, q.2.2.1, q.2.2.2⟩) := by
    obtain ⟨m9, meth9, c9, hn9, h1, h2, -, -, h6, -⟩ := Cond.codeWith_spec (hts _ List.mem_cons_self)
    cases Option.some.inj (hn9.symm.trans Bd.named)
    cases Option.some.inj (h1.symm.trans Bd.method)
    cases Option.some.inj (h2.symm.trans (Stand.of_body Bd).code)
    exact tab_of _ _ h6
  have hl := lv_entry ([.ref a, .int x1, .ref o]) (n := 4) (Nat.le_of_ble_eq_true rfl)
  rw [lg_entry_eq]
  generalize (lg_sl ([.ref a, .int x1, .ref o]) ++ List.replicate (4 - (lg_sl ([.ref a, .int x1, .ref o])).length) Slot.unset).toArray = ls at hl ⊢
  have hl : lv_has ls 4 [(0, .ref a), (1, .int x1), (2, .ref o)] := hl
  generalize hargs : ([.ref a, .int x1, .ref o] : List Value).toArray = args at hg hts ⊢
  refine lv_aload_n hx hb d_Law_members_0 rfl (lv_at hl 2 rfl) ?_
  refine lv_iconst (v := 0) hx hb d_Law_members_1 (by decide) ?_
  refine lv_aload_n hx hb d_Law_members_2 rfl (lv_at hl 0 rfl) ?_
  refine lv_iload_n hx hb d_Law_members_3 rfl (lv_at hl 1 rfl) ?_
  refine T_caught (own := "LanguageServerLaw") (nm := "java/util/NoSuchElementException") (T_runV (As := [.int x1]) (rest := [.int 0, .ref o]) ⟨hx, hb, hml, hown, hts⟩ (ct_LS_members_3 l hlt K a A B h) (cwV 1 hts (gd_V wd_831 wd_832 wd_833 wd_1 wd_834) rfl rfl rfl dv_LS_members ⟨Nat.le_of_ble_eq_true rfl, Nat.le_of_ble_eq_true rfl⟩) (H_pv hHK hS hP hD) rfl rfl hl.1 rfl (lv_room (Nat.le_of_ble_eq_true rfl)) d_Law_members_4 ⟨Nat.le_of_ble_eq_true rfl, Nat.le_of_ble_eq_true rfl⟩) hown [] ⟨0, 9, 12, 28⟩ [] htab (fun x h => absurd h List.not_mem_nil) (by decide) (by decide) (hg _ wd_740) (hHK.1.2.1.1 "java/util/NoSuchElementException" (by decide)) hS (fun q _ h => Or.inl h) (fun q h => Or.inl h) (fun x t H1 locs ht hW hB hz hk hS => ?_)
  obtain ⟨hB1, -, -⟩ := hB
  rw [ht] at hB1
  obtain ⟨hP, hD⟩ := H_back hP hD hB1 hk
  generalize H1 = H at hP hS ⊢
  refine lv_astore_n (lv' := [(3, .ref x), (0, .ref a), (1, .int x1), (2, .ref o)]) hx hb d_Law_members_12 rfl hl (by decide) rfl (fun ls hl => ?_)
  refine lv_iconst (v := 1) hx hb d_Law_members_13 (by decide) ?_
  exact W.iret hx hb hr (fun t ht hW => ⟨⟨_, (), rfl, rfl, by rw [ht]; exact hP, HB_of hHK hS hW ht (fun q h => h), hD⟩, hS.F ht⟩) hS.2.2 d_Law_members_14
abbrev w_Law_member : List Cond := Cond.codeWith y_Law_member b_Law_member 5 (some .int) [(0, 10, 13, 28)] :: Tg
abbrev r_Law_member : Room := { frames := 8, cells := 1, slots := 6, locals := 184 }
theorem ds_Law_member : y_Law_member.cls ≠ "java/lang/invoke/MethodHandle" ∧ y_Law_member.cls ≠ "java/lang/invoke/VarHandle" ∧ (parseMethodDescriptor y_Law_member.desc).map (fun d => d.parameters.length) = some 4 := by decide +kernel
set_option maxHeartbeats 4000000 in
set_option maxRecDepth 100000 in
theorem ch_member_0 (l : Launch) (hlt : l.stackTraces = false) (K : Kst) (a o : Nat) (A B : Nat → Nat) (f : Nat → Int64) {σ τ : Sto} {x1 : Int32} {x2 : Int32} {rr : Int32} {ss tt : Sto} (h : p_LanguageServer_member σ τ x1 x2 = some (0, rr, ss, tt)) : Met l y_Law_member w_Law_member r_Law_member (va_Pc [.ref a, .int x1, .int x2, .ref o] (HB K a A B σ τ o f)) (va_Qi (S := Unit) (fun v _ => v = 0) (fun _ t => HB K a A B ss tt o (vp_updL f 0 rr.toInt64) t) (HF a A B o)) 1 6 (HF a A B o) := by
  refine va_MetW (cc := b_Law_member) (maxL := 5) (ret := (some .int)) (hh := [(0, 10, 13, 28)]) (by decide) rfl ?_
  intro p e s m args below meth c s₁ Bd hml hv
  obtain ⟨rfl, hP, hHK, hD⟩ := hv
  have hK := hHK.1.1
  have hx := Bd.exec
  have hb := Bd.bytes
  have hr := Bd.returns
  have hts := atoms_spec (ws := w_Law_member) Bd.pre
  have hg : ∀ w ∈ Tg, w.before _ s = true := fun w q => hts w (List.mem_cons_of_mem _ q)
  have hown : s.vm.findClass "LanguageServerLaw" = some m.cls := findClass_of_methodNamed Bd.named
  have hlocks := Bd.notSynchronized
  have hS : va_S (HF a A B o) s.heap s.heap [] := va_S.rf
  have hl := lv_entry ([.ref a, .int x1, .int x2, .ref o]) (n := 5) (Nat.le_of_ble_eq_true rfl)
  rw [lg_entry_eq]
  generalize (lg_sl ([.ref a, .int x1, .int x2, .ref o]) ++ List.replicate (5 - (lg_sl ([.ref a, .int x1, .int x2, .ref o])).length) Slot.unset).toArray = ls at hl ⊢
  have hl : lv_has ls 5 [(0, .ref a), (1, .int x1), (2, .int x2), (3, .ref o)] := hl
  generalize hargs : ([.ref a, .int x1, .int x2, .ref o] : List Value).toArray = args at hg hts ⊢
  refine lv_aload_n hx hb d_Law_member_0 rfl (lv_at hl 3 rfl) ?_
  refine lv_iconst (v := 0) hx hb d_Law_member_1 (by decide) ?_
  refine lv_aload_n hx hb d_Law_member_2 rfl (lv_at hl 0 rfl) ?_
  refine lv_iload_n hx hb d_Law_member_3 rfl (lv_at hl 1 rfl) ?_
  refine lv_iload_n hx hb d_Law_member_4 rfl (lv_at hl 2 rfl) ?_
  refine H_calli (va_runV (As := [.int x1, .int x2]) (rest := [.int 0, .ref o]) ⟨hx, hb, hml, hown, hts⟩ (c_LS_member l K a A B h) (cwV 2 hts (gd_V wd_852 wd_853 wd_854 wd_1 wd_855) rfl rfl rfl dv_LS_member ⟨Nat.le_of_ble_eq_true rfl, Nat.le_of_ble_eq_true rfl⟩) (H_pv hHK hS hP hD) rfl rfl hl.1 rfl (lv_room (Nat.le_of_ble_eq_true rfl)) d_Law_member_5 ⟨Nat.le_of_ble_eq_true rfl, Nat.le_of_ble_eq_true rfl⟩) hP hD hS (fun H locs hP hD hS => ?_)
  refine lv_i2l hx hb d_Law_member_8 rfl ?_
  refine va_last hx hb hK.1 hP hD hS 59 1 rfl rfl (show vp_in 0 1 by show inR 0 1; decide) d_Law_member_9 (fun H locs hP hD hS => ?_)
  have hP : va_P K.1 vwCl (wH K a A B ss tt o (vp_updL f 0 rr.toInt64)) H := hP
  have hD : va_D (HF a A B o) (wH K a A B ss tt o (vp_updL f 0 rr.toInt64)) := hD
  refine lv_goto (tgt := 17) hx hb d_Law_member_10 (by decide) ?_
  refine lv_iconst (v := 0) hx hb d_Law_member_17 (by decide) ?_
  refine W.widen (k := 1) (n := 6) (Nat.le_of_ble_eq_true rfl) (Nat.le_of_ble_eq_true rfl) ?_
  exact W.iret hx hb hr (fun t ht hW => ⟨⟨_, (), rfl, rfl, by rw [ht]; exact hP, HB_of hHK hS hW ht (fun q h => h), hD⟩, hS.F ht⟩) hS.2.2 d_Law_member_18
set_option maxHeartbeats 4000000 in
set_option maxRecDepth 100000 in
theorem ch_member_3 (l : Launch) (hlt : l.stackTraces = false) (K : Kst) (a o : Nat) (A B : Nat → Nat) (f : Nat → Int64) {σ τ : Sto} {x1 : Int32} {x2 : Int32} {rr : Int32} {ss tt : Sto} (h : p_LanguageServer_member σ τ x1 x2 = some (3, rr, ss, tt)) : Met l y_Law_member w_Law_member r_Law_member (va_Pc [.ref a, .int x1, .int x2, .ref o] (HB K a A B σ τ o f)) (va_Qi (S := Unit) (fun v _ => v = 1) (fun _ t => HB K a A B ss tt o f t) (HF a A B o)) 1 6 (HF a A B o) := by
  refine va_MetW (cc := b_Law_member) (maxL := 5) (ret := (some .int)) (hh := [(0, 10, 13, 28)]) (by decide) rfl ?_
  intro p e s m args below meth c s₁ Bd hml hv
  obtain ⟨rfl, hP, hHK, hD⟩ := hv
  have hK := hHK.1.1
  have hx := Bd.exec
  have hb := Bd.bytes
  have hr := Bd.returns
  have hts := atoms_spec (ws := w_Law_member) Bd.pre
  have hg : ∀ w ∈ Tg, w.before _ s = true := fun w q => hts w (List.mem_cons_of_mem _ q)
  have hown : s.vm.findClass "LanguageServerLaw" = some m.cls := findClass_of_methodNamed Bd.named
  have hlocks := Bd.notSynchronized
  have hS : va_S (HF a A B o) s.heap s.heap [] := va_S.rf
  have htab : c.exceptionTable.toList = ([(0, 10, 13, 28)] : List (Nat × Nat × Nat × Nat)).map (fun q => ⟨q.1, q.2.1, q.2.2.1, q.2.2.2⟩) := by
    obtain ⟨m9, meth9, c9, hn9, h1, h2, -, -, h6, -⟩ := Cond.codeWith_spec (hts _ List.mem_cons_self)
    cases Option.some.inj (hn9.symm.trans Bd.named)
    cases Option.some.inj (h1.symm.trans Bd.method)
    cases Option.some.inj (h2.symm.trans (Stand.of_body Bd).code)
    exact tab_of _ _ h6
  have hl := lv_entry ([.ref a, .int x1, .int x2, .ref o]) (n := 5) (Nat.le_of_ble_eq_true rfl)
  rw [lg_entry_eq]
  generalize (lg_sl ([.ref a, .int x1, .int x2, .ref o]) ++ List.replicate (5 - (lg_sl ([.ref a, .int x1, .int x2, .ref o])).length) Slot.unset).toArray = ls at hl ⊢
  have hl : lv_has ls 5 [(0, .ref a), (1, .int x1), (2, .int x2), (3, .ref o)] := hl
  generalize hargs : ([.ref a, .int x1, .int x2, .ref o] : List Value).toArray = args at hg hts ⊢
  refine lv_aload_n hx hb d_Law_member_0 rfl (lv_at hl 3 rfl) ?_
  refine lv_iconst (v := 0) hx hb d_Law_member_1 (by decide) ?_
  refine lv_aload_n hx hb d_Law_member_2 rfl (lv_at hl 0 rfl) ?_
  refine lv_iload_n hx hb d_Law_member_3 rfl (lv_at hl 1 rfl) ?_
  refine lv_iload_n hx hb d_Law_member_4 rfl (lv_at hl 2 rfl) ?_
  refine T_caught (own := "LanguageServerLaw") (nm := "java/util/NoSuchElementException") (T_runV (As := [.int x1, .int x2]) (rest := [.int 0, .ref o]) ⟨hx, hb, hml, hown, hts⟩ (ct_LS_member_3 l hlt K a A B h) (cwV 2 hts (gd_V wd_852 wd_853 wd_854 wd_1 wd_855) rfl rfl rfl dv_LS_member ⟨Nat.le_of_ble_eq_true rfl, Nat.le_of_ble_eq_true rfl⟩) (H_pv hHK hS hP hD) rfl rfl hl.1 rfl (lv_room (Nat.le_of_ble_eq_true rfl)) d_Law_member_5 ⟨Nat.le_of_ble_eq_true rfl, Nat.le_of_ble_eq_true rfl⟩) hown [] ⟨0, 10, 13, 28⟩ [] htab (fun x h => absurd h List.not_mem_nil) (by decide) (by decide) (hg _ wd_740) (hHK.1.2.1.1 "java/util/NoSuchElementException" (by decide)) hS (fun q _ h => Or.inl h) (fun q h => Or.inl h) (fun x t H1 locs ht hW hB hz hk hS => ?_)
  obtain ⟨hB1, -, -⟩ := hB
  rw [ht] at hB1
  obtain ⟨hP, hD⟩ := H_back hP hD hB1 hk
  generalize H1 = H at hP hS ⊢
  refine lv_astore (lv' := [(4, .ref x), (0, .ref a), (1, .int x1), (2, .int x2), (3, .ref o)]) hx hb d_Law_member_13 hl (by decide) rfl (fun ls hl => ?_)
  refine lv_iconst (v := 1) hx hb d_Law_member_15 (by decide) ?_
  exact W.iret hx hb hr (fun t ht hW => ⟨⟨_, (), rfl, rfl, by rw [ht]; exact hP, HB_of hHK hS hW ht (fun q h => h), hD⟩, hS.F ht⟩) hS.2.2 d_Law_member_16
abbrev w_Law_rename : List Cond := Cond.codeWith y_Law_rename b_Law_rename 7 (some .int) [(0, 13, 16, 28), (0, 13, 20, 13), (0, 13, 24, 15)] :: Tg
abbrev r_Law_rename : Room := { frames := 8, cells := 1, slots := 6, locals := 190 }
theorem ds_Law_rename : y_Law_rename.cls ≠ "java/lang/invoke/MethodHandle" ∧ y_Law_rename.cls ≠ "java/lang/invoke/VarHandle" ∧ (parseMethodDescriptor y_Law_rename.desc).map (fun d => d.parameters.length) = some 5 := by decide +kernel
set_option maxHeartbeats 4000000 in
set_option maxRecDepth 100000 in
theorem ch_rename_1 (l : Launch) (hlt : l.stackTraces = false) (K : Kst) (a o : Nat) (A B : Nat → Nat) (f : Nat → Int64) {σ τ : Sto} {x1 : Int32} {x2 : Int64} {x4 : Int32} {rr : Int32} {ss tt : Sto} (h : p_LanguageServer_rename σ τ x1 x2 x4 = some (1, rr, ss, tt)) : Met l y_Law_rename w_Law_rename r_Law_rename (va_Pc [.ref a, .int x1, .long x2, .int x4, .ref o] (HB K a A B σ τ o f)) (va_Qi (S := Unit) (fun v _ => v = 2) (fun _ t => HB K a A B ss tt o f t) (HF a A B o)) 1 6 (HF a A B o) := by
  refine va_MetW (cc := b_Law_rename) (maxL := 7) (ret := (some .int)) (hh := [(0, 13, 16, 28), (0, 13, 20, 13), (0, 13, 24, 15)]) (by decide) rfl ?_
  intro p e s m args below meth c s₁ Bd hml hv
  obtain ⟨rfl, hP, hHK, hD⟩ := hv
  have hK := hHK.1.1
  have hx := Bd.exec
  have hb := Bd.bytes
  have hr := Bd.returns
  have hts := atoms_spec (ws := w_Law_rename) Bd.pre
  have hg : ∀ w ∈ Tg, w.before _ s = true := fun w q => hts w (List.mem_cons_of_mem _ q)
  have hown : s.vm.findClass "LanguageServerLaw" = some m.cls := findClass_of_methodNamed Bd.named
  have hlocks := Bd.notSynchronized
  have hS : va_S (HF a A B o) s.heap s.heap [] := va_S.rf
  have htab : c.exceptionTable.toList = ([(0, 13, 16, 28), (0, 13, 20, 13), (0, 13, 24, 15)] : List (Nat × Nat × Nat × Nat)).map (fun q => ⟨q.1, q.2.1, q.2.2.1, q.2.2.2⟩) := by
    obtain ⟨m9, meth9, c9, hn9, h1, h2, -, -, h6, -⟩ := Cond.codeWith_spec (hts _ List.mem_cons_self)
    cases Option.some.inj (hn9.symm.trans Bd.named)
    cases Option.some.inj (h1.symm.trans Bd.method)
    cases Option.some.inj (h2.symm.trans (Stand.of_body Bd).code)
    exact tab_of _ _ h6
  have hl := lv_entry ([.ref a, .int x1, .long x2, .int x4, .ref o]) (n := 7) (Nat.le_of_ble_eq_true rfl)
  rw [lg_entry_eq]
  generalize (lg_sl ([.ref a, .int x1, .long x2, .int x4, .ref o]) ++ List.replicate (7 - (lg_sl ([.ref a, .int x1, .long x2, .int x4, .ref o])).length) Slot.unset).toArray = ls at hl ⊢
  have hl : lv_has ls 7 [(0, .ref a), (1, .int x1), (2, .long x2), (4, .int x4), (5, .ref o)] := hl
  generalize hargs : ([.ref a, .int x1, .long x2, .int x4, .ref o] : List Value).toArray = args at hg hts ⊢
  refine lv_aload hx hb d_Law_rename_0 (lv_at hl 4 rfl) ?_
  refine lv_iconst (v := 0) hx hb d_Law_rename_2 (by decide) ?_
  refine lv_aload_n hx hb d_Law_rename_3 rfl (lv_at hl 0 rfl) ?_
  refine lv_iload_n hx hb d_Law_rename_4 rfl (lv_at hl 1 rfl) ?_
  refine lv_lload_n hx hb d_Law_rename_5 rfl (lv_at hl 2 rfl) ?_
  refine lv_iload hx hb d_Law_rename_6 (lv_at hl 3 rfl) ?_
  refine T_caught (own := "LanguageServerLaw") (nm := "java/lang/IllegalArgumentException") (T_runV (As := [.int x1, .long x2, .int x4]) (rest := [.int 0, .ref o]) ⟨hx, hb, hml, hown, hts⟩ (ct_LS_rename_1 l hlt K a A B h) (cwV 3 hts (gd_V wd_860 wd_861 wd_862 wd_1 wd_863) rfl rfl rfl dv_LS_rename ⟨Nat.le_of_ble_eq_true rfl, Nat.le_of_ble_eq_true rfl⟩) (H_pv hHK hS hP hD) rfl rfl hl.1 rfl (lv_room (Nat.le_of_ble_eq_true rfl)) d_Law_rename_8 ⟨Nat.le_of_ble_eq_true rfl, Nat.le_of_ble_eq_true rfl⟩) hown [⟨0, 13, 16, 28⟩] ⟨0, 13, 20, 13⟩ [⟨0, 13, 24, 15⟩] htab (List.forall_mem_cons.mpr ⟨⟨by decide, by decide, "java/util/NoSuchElementException", hg _ wd_740, hHK.2.2.1⟩, fun x h => absurd h List.not_mem_nil⟩) (by decide) (by decide) (hg _ wd_597) (hHK.1.2.1.1 "java/lang/IllegalArgumentException" (by decide)) hS (fun q _ h => Or.inl h) (fun q h => Or.inl h) (fun x t H1 locs ht hW hB hz hk hS => ?_)
  obtain ⟨hB1, -, -⟩ := hB
  rw [ht] at hB1
  obtain ⟨hP, hD⟩ := H_back hP hD hB1 hk
  generalize H1 = H at hP hS ⊢
  refine lv_astore (lv' := [(6, .ref x), (0, .ref a), (1, .int x1), (2, .long x2), (4, .int x4), (5, .ref o)]) hx hb d_Law_rename_20 hl (by decide) rfl (fun ls hl => ?_)
  refine lv_iconst (v := 2) hx hb d_Law_rename_22 (by decide) ?_
  exact W.iret hx hb hr (fun t ht hW => ⟨⟨_, (), rfl, rfl, by rw [ht]; exact hP, HB_of hHK hS hW ht (fun q h => h), hD⟩, hS.F ht⟩) hS.2.2 d_Law_rename_23
set_option maxHeartbeats 4000000 in
set_option maxRecDepth 100000 in
theorem ch_rename_2 (l : Launch) (hlt : l.stackTraces = false) (K : Kst) (a o : Nat) (A B : Nat → Nat) (f : Nat → Int64) {σ τ : Sto} {x1 : Int32} {x2 : Int64} {x4 : Int32} {rr : Int32} {ss tt : Sto} (h : p_LanguageServer_rename σ τ x1 x2 x4 = some (2, rr, ss, tt)) : Met l y_Law_rename w_Law_rename r_Law_rename (va_Pc [.ref a, .int x1, .long x2, .int x4, .ref o] (HB K a A B σ τ o f)) (va_Qi (S := Unit) (fun v _ => v = 3) (fun _ t => HB K a A B ss tt o f t) (HF a A B o)) 1 6 (HF a A B o) := by
  refine va_MetW (cc := b_Law_rename) (maxL := 7) (ret := (some .int)) (hh := [(0, 13, 16, 28), (0, 13, 20, 13), (0, 13, 24, 15)]) (by decide) rfl ?_
  intro p e s m args below meth c s₁ Bd hml hv
  obtain ⟨rfl, hP, hHK, hD⟩ := hv
  have hK := hHK.1.1
  have hx := Bd.exec
  have hb := Bd.bytes
  have hr := Bd.returns
  have hts := atoms_spec (ws := w_Law_rename) Bd.pre
  have hg : ∀ w ∈ Tg, w.before _ s = true := fun w q => hts w (List.mem_cons_of_mem _ q)
  have hown : s.vm.findClass "LanguageServerLaw" = some m.cls := findClass_of_methodNamed Bd.named
  have hlocks := Bd.notSynchronized
  have hS : va_S (HF a A B o) s.heap s.heap [] := va_S.rf
  have htab : c.exceptionTable.toList = ([(0, 13, 16, 28), (0, 13, 20, 13), (0, 13, 24, 15)] : List (Nat × Nat × Nat × Nat)).map (fun q => ⟨q.1, q.2.1, q.2.2.1, q.2.2.2⟩) := by
    obtain ⟨m9, meth9, c9, hn9, h1, h2, -, -, h6, -⟩ := Cond.codeWith_spec (hts _ List.mem_cons_self)
    cases Option.some.inj (hn9.symm.trans Bd.named)
    cases Option.some.inj (h1.symm.trans Bd.method)
    cases Option.some.inj (h2.symm.trans (Stand.of_body Bd).code)
    exact tab_of _ _ h6
  have hl := lv_entry ([.ref a, .int x1, .long x2, .int x4, .ref o]) (n := 7) (Nat.le_of_ble_eq_true rfl)
  rw [lg_entry_eq]
  generalize (lg_sl ([.ref a, .int x1, .long x2, .int x4, .ref o]) ++ List.replicate (7 - (lg_sl ([.ref a, .int x1, .long x2, .int x4, .ref o])).length) Slot.unset).toArray = ls at hl ⊢
  have hl : lv_has ls 7 [(0, .ref a), (1, .int x1), (2, .long x2), (4, .int x4), (5, .ref o)] := hl
  generalize hargs : ([.ref a, .int x1, .long x2, .int x4, .ref o] : List Value).toArray = args at hg hts ⊢
  refine lv_aload hx hb d_Law_rename_0 (lv_at hl 4 rfl) ?_
  refine lv_iconst (v := 0) hx hb d_Law_rename_2 (by decide) ?_
  refine lv_aload_n hx hb d_Law_rename_3 rfl (lv_at hl 0 rfl) ?_
  refine lv_iload_n hx hb d_Law_rename_4 rfl (lv_at hl 1 rfl) ?_
  refine lv_lload_n hx hb d_Law_rename_5 rfl (lv_at hl 2 rfl) ?_
  refine lv_iload hx hb d_Law_rename_6 (lv_at hl 3 rfl) ?_
  refine T_caught (own := "LanguageServerLaw") (nm := "java/lang/IllegalStateException") (T_runV (As := [.int x1, .long x2, .int x4]) (rest := [.int 0, .ref o]) ⟨hx, hb, hml, hown, hts⟩ (ct_LS_rename_2 l hlt K a A B h) (cwV 3 hts (gd_V wd_860 wd_861 wd_862 wd_1 wd_863) rfl rfl rfl dv_LS_rename ⟨Nat.le_of_ble_eq_true rfl, Nat.le_of_ble_eq_true rfl⟩) (H_pv hHK hS hP hD) rfl rfl hl.1 rfl (lv_room (Nat.le_of_ble_eq_true rfl)) d_Law_rename_8 ⟨Nat.le_of_ble_eq_true rfl, Nat.le_of_ble_eq_true rfl⟩) hown [⟨0, 13, 16, 28⟩, ⟨0, 13, 20, 13⟩] ⟨0, 13, 24, 15⟩ [] htab (List.forall_mem_cons.mpr ⟨⟨by decide, by decide, "java/util/NoSuchElementException", hg _ wd_740, hHK.2.2.2⟩, List.forall_mem_cons.mpr ⟨⟨by decide, by decide, "java/lang/IllegalArgumentException", hg _ wd_597, hHK.2.1⟩, fun x h => absurd h List.not_mem_nil⟩⟩) (by decide) (by decide) (hg _ wd_598) (hHK.1.2.1.1 "java/lang/IllegalStateException" (by decide)) hS (fun q _ h => Or.inl h) (fun q h => Or.inl h) (fun x t H1 locs ht hW hB hz hk hS => ?_)
  obtain ⟨hB1, -, -⟩ := hB
  rw [ht] at hB1
  obtain ⟨hP, hD⟩ := H_back hP hD hB1 hk
  generalize H1 = H at hP hS ⊢
  refine lv_astore (lv' := [(6, .ref x), (0, .ref a), (1, .int x1), (2, .long x2), (4, .int x4), (5, .ref o)]) hx hb d_Law_rename_24 hl (by decide) rfl (fun ls hl => ?_)
  refine lv_iconst (v := 3) hx hb d_Law_rename_26 (by decide) ?_
  exact W.iret hx hb hr (fun t ht hW => ⟨⟨_, (), rfl, rfl, by rw [ht]; exact hP, HB_of hHK hS hW ht (fun q h => h), hD⟩, hS.F ht⟩) hS.2.2 d_Law_rename_27
set_option maxHeartbeats 4000000 in
set_option maxRecDepth 100000 in
theorem ch_rename_3 (l : Launch) (hlt : l.stackTraces = false) (K : Kst) (a o : Nat) (A B : Nat → Nat) (f : Nat → Int64) {σ τ : Sto} {x1 : Int32} {x2 : Int64} {x4 : Int32} {rr : Int32} {ss tt : Sto} (h : p_LanguageServer_rename σ τ x1 x2 x4 = some (3, rr, ss, tt)) : Met l y_Law_rename w_Law_rename r_Law_rename (va_Pc [.ref a, .int x1, .long x2, .int x4, .ref o] (HB K a A B σ τ o f)) (va_Qi (S := Unit) (fun v _ => v = 1) (fun _ t => HB K a A B ss tt o f t) (HF a A B o)) 1 6 (HF a A B o) := by
  refine va_MetW (cc := b_Law_rename) (maxL := 7) (ret := (some .int)) (hh := [(0, 13, 16, 28), (0, 13, 20, 13), (0, 13, 24, 15)]) (by decide) rfl ?_
  intro p e s m args below meth c s₁ Bd hml hv
  obtain ⟨rfl, hP, hHK, hD⟩ := hv
  have hK := hHK.1.1
  have hx := Bd.exec
  have hb := Bd.bytes
  have hr := Bd.returns
  have hts := atoms_spec (ws := w_Law_rename) Bd.pre
  have hg : ∀ w ∈ Tg, w.before _ s = true := fun w q => hts w (List.mem_cons_of_mem _ q)
  have hown : s.vm.findClass "LanguageServerLaw" = some m.cls := findClass_of_methodNamed Bd.named
  have hlocks := Bd.notSynchronized
  have hS : va_S (HF a A B o) s.heap s.heap [] := va_S.rf
  have htab : c.exceptionTable.toList = ([(0, 13, 16, 28), (0, 13, 20, 13), (0, 13, 24, 15)] : List (Nat × Nat × Nat × Nat)).map (fun q => ⟨q.1, q.2.1, q.2.2.1, q.2.2.2⟩) := by
    obtain ⟨m9, meth9, c9, hn9, h1, h2, -, -, h6, -⟩ := Cond.codeWith_spec (hts _ List.mem_cons_self)
    cases Option.some.inj (hn9.symm.trans Bd.named)
    cases Option.some.inj (h1.symm.trans Bd.method)
    cases Option.some.inj (h2.symm.trans (Stand.of_body Bd).code)
    exact tab_of _ _ h6
  have hl := lv_entry ([.ref a, .int x1, .long x2, .int x4, .ref o]) (n := 7) (Nat.le_of_ble_eq_true rfl)
  rw [lg_entry_eq]
  generalize (lg_sl ([.ref a, .int x1, .long x2, .int x4, .ref o]) ++ List.replicate (7 - (lg_sl ([.ref a, .int x1, .long x2, .int x4, .ref o])).length) Slot.unset).toArray = ls at hl ⊢
  have hl : lv_has ls 7 [(0, .ref a), (1, .int x1), (2, .long x2), (4, .int x4), (5, .ref o)] := hl
  generalize hargs : ([.ref a, .int x1, .long x2, .int x4, .ref o] : List Value).toArray = args at hg hts ⊢
  refine lv_aload hx hb d_Law_rename_0 (lv_at hl 4 rfl) ?_
  refine lv_iconst (v := 0) hx hb d_Law_rename_2 (by decide) ?_
  refine lv_aload_n hx hb d_Law_rename_3 rfl (lv_at hl 0 rfl) ?_
  refine lv_iload_n hx hb d_Law_rename_4 rfl (lv_at hl 1 rfl) ?_
  refine lv_lload_n hx hb d_Law_rename_5 rfl (lv_at hl 2 rfl) ?_
  refine lv_iload hx hb d_Law_rename_6 (lv_at hl 3 rfl) ?_
  refine T_caught (own := "LanguageServerLaw") (nm := "java/util/NoSuchElementException") (T_runV (As := [.int x1, .long x2, .int x4]) (rest := [.int 0, .ref o]) ⟨hx, hb, hml, hown, hts⟩ (ct_LS_rename_3 l hlt K a A B h) (cwV 3 hts (gd_V wd_860 wd_861 wd_862 wd_1 wd_863) rfl rfl rfl dv_LS_rename ⟨Nat.le_of_ble_eq_true rfl, Nat.le_of_ble_eq_true rfl⟩) (H_pv hHK hS hP hD) rfl rfl hl.1 rfl (lv_room (Nat.le_of_ble_eq_true rfl)) d_Law_rename_8 ⟨Nat.le_of_ble_eq_true rfl, Nat.le_of_ble_eq_true rfl⟩) hown [] ⟨0, 13, 16, 28⟩ [⟨0, 13, 20, 13⟩, ⟨0, 13, 24, 15⟩] htab (fun x h => absurd h List.not_mem_nil) (by decide) (by decide) (hg _ wd_740) (hHK.1.2.1.1 "java/util/NoSuchElementException" (by decide)) hS (fun q _ h => Or.inl h) (fun q h => Or.inl h) (fun x t H1 locs ht hW hB hz hk hS => ?_)
  obtain ⟨hB1, -, -⟩ := hB
  rw [ht] at hB1
  obtain ⟨hP, hD⟩ := H_back hP hD hB1 hk
  generalize H1 = H at hP hS ⊢
  refine lv_astore (lv' := [(6, .ref x), (0, .ref a), (1, .int x1), (2, .long x2), (4, .int x4), (5, .ref o)]) hx hb d_Law_rename_16 hl (by decide) rfl (fun ls hl => ?_)
  refine lv_iconst (v := 1) hx hb d_Law_rename_18 (by decide) ?_
  exact W.iret hx hb hr (fun t ht hW => ⟨⟨_, (), rfl, rfl, by rw [ht]; exact hP, HB_of hHK hS hW ht (fun q h => h), hD⟩, hS.F ht⟩) hS.2.2 d_Law_rename_19
set_option maxHeartbeats 4000000 in
set_option maxRecDepth 100000 in
theorem ch_rename_4 (l : Launch) (hlt : l.stackTraces = false) (K : Kst) (a o : Nat) (A B : Nat → Nat) (f : Nat → Int64) {σ τ : Sto} {x1 : Int32} {x2 : Int64} {x4 : Int32} {rr : Int32} {ss tt : Sto} (h : p_LanguageServer_rename σ τ x1 x2 x4 = some (4, rr, ss, tt)) : Met l y_Law_rename w_Law_rename r_Law_rename (va_Pc [.ref a, .int x1, .long x2, .int x4, .ref o] (HB K a A B σ τ o f)) (va_Qi (S := Unit) (fun v _ => v = 0) (fun _ t => HB K a B A tt ss o (vp_updL f 0 rr.toInt64) t) (HF a A B o)) 1 6 (HF a A B o) := by
  refine va_MetW (cc := b_Law_rename) (maxL := 7) (ret := (some .int)) (hh := [(0, 13, 16, 28), (0, 13, 20, 13), (0, 13, 24, 15)]) (by decide) rfl ?_
  intro p e s m args below meth c s₁ Bd hml hv
  obtain ⟨rfl, hP, hHK, hD⟩ := hv
  have hK := hHK.1.1
  have hx := Bd.exec
  have hb := Bd.bytes
  have hr := Bd.returns
  have hts := atoms_spec (ws := w_Law_rename) Bd.pre
  have hg : ∀ w ∈ Tg, w.before _ s = true := fun w q => hts w (List.mem_cons_of_mem _ q)
  have hown : s.vm.findClass "LanguageServerLaw" = some m.cls := findClass_of_methodNamed Bd.named
  have hlocks := Bd.notSynchronized
  have hS : va_S (HF a A B o) s.heap s.heap [] := va_S.rf
  have hl := lv_entry ([.ref a, .int x1, .long x2, .int x4, .ref o]) (n := 7) (Nat.le_of_ble_eq_true rfl)
  rw [lg_entry_eq]
  generalize (lg_sl ([.ref a, .int x1, .long x2, .int x4, .ref o]) ++ List.replicate (7 - (lg_sl ([.ref a, .int x1, .long x2, .int x4, .ref o])).length) Slot.unset).toArray = ls at hl ⊢
  have hl : lv_has ls 7 [(0, .ref a), (1, .int x1), (2, .long x2), (4, .int x4), (5, .ref o)] := hl
  generalize hargs : ([.ref a, .int x1, .long x2, .int x4, .ref o] : List Value).toArray = args at hg hts ⊢
  refine lv_aload hx hb d_Law_rename_0 (lv_at hl 4 rfl) ?_
  refine lv_iconst (v := 0) hx hb d_Law_rename_2 (by decide) ?_
  refine lv_aload_n hx hb d_Law_rename_3 rfl (lv_at hl 0 rfl) ?_
  refine lv_iload_n hx hb d_Law_rename_4 rfl (lv_at hl 1 rfl) ?_
  refine lv_lload_n hx hb d_Law_rename_5 rfl (lv_at hl 2 rfl) ?_
  refine lv_iload hx hb d_Law_rename_6 (lv_at hl 3 rfl) ?_
  refine H_calliS (va_runV (As := [.int x1, .long x2, .int x4]) (rest := [.int 0, .ref o]) ⟨hx, hb, hml, hown, hts⟩ (c_LS_rename l K a A B h) (cwV 3 hts (gd_V wd_860 wd_861 wd_862 wd_1 wd_863) rfl rfl rfl dv_LS_rename ⟨Nat.le_of_ble_eq_true rfl, Nat.le_of_ble_eq_true rfl⟩) (H_pv hHK hS hP hD) rfl rfl hl.1 rfl (lv_room (Nat.le_of_ble_eq_true rfl)) d_Law_rename_8 ⟨Nat.le_of_ble_eq_true rfl, Nat.le_of_ble_eq_true rfl⟩) hP hD hS (fun H locs hP hD hS => ?_)
  refine lv_i2l hx hb d_Law_rename_11 rfl ?_
  refine va_last hx hb hK.1 hP hD hS 59 1 rfl rfl (show vp_in 0 1 by show inR 0 1; decide) d_Law_rename_12 (fun H locs hP hD hS => ?_)
  have hP : va_P K.1 vwCl (wH K a B A tt ss o (vp_updL f 0 rr.toInt64)) H := hP
  have hD : va_D (HF a A B o) (wH K a B A tt ss o (vp_updL f 0 rr.toInt64)) := hD
  refine lv_goto (tgt := 28) hx hb d_Law_rename_13 (by decide) ?_
  refine lv_iconst (v := 0) hx hb d_Law_rename_28 (by decide) ?_
  refine W.widen (k := 1) (n := 6) (Nat.le_of_ble_eq_true rfl) (Nat.le_of_ble_eq_true rfl) ?_
  exact W.iret hx hb hr (fun t ht hW => ⟨⟨_, (), rfl, rfl, by rw [ht]; exact hP, HB_of hHK hS hW ht (fun q h => HF_sw h), by have hD9 : va_D (HF a B A o) (wH K a B A tt ss o (vp_updL f 0 rr.toInt64)) := hD.weaken (fun _ _ _ h => HF_sw h); exact hD9⟩, hS.F ht⟩) hS.2.2 d_Law_rename_29
abbrev w_Law_count : List Cond := Cond.codeWith y_Law_count b_Law_count 4 (some .int) [(0, 9, 12, 13)] :: Tg
abbrev r_Law_count : Room := { frames := 8, cells := 1, slots := 6, locals := 183 }
theorem ds_Law_count : y_Law_count.cls ≠ "java/lang/invoke/MethodHandle" ∧ y_Law_count.cls ≠ "java/lang/invoke/VarHandle" ∧ (parseMethodDescriptor y_Law_count.desc).map (fun d => d.parameters.length) = some 3 := by decide +kernel
set_option maxHeartbeats 4000000 in
set_option maxRecDepth 100000 in
theorem ch_count_0 (l : Launch) (hlt : l.stackTraces = false) (K : Kst) (a o : Nat) (A B : Nat → Nat) (f : Nat → Int64) {σ τ : Sto} {x1 : Int32} {rr : Int32} {ss tt : Sto} (h : p_LanguageServer_count σ τ x1 = some (0, rr, ss, tt)) : Met l y_Law_count w_Law_count r_Law_count (va_Pc [.ref a, .int x1, .ref o] (HB K a A B σ τ o f)) (va_Qi (S := Unit) (fun v _ => v = 0) (fun _ t => HB K a A B ss tt o (vp_updL f 0 rr.toInt64) t) (HF a A B o)) 1 6 (HF a A B o) := by
  refine va_MetW (cc := b_Law_count) (maxL := 4) (ret := (some .int)) (hh := [(0, 9, 12, 13)]) (by decide) rfl ?_
  intro p e s m args below meth c s₁ Bd hml hv
  obtain ⟨rfl, hP, hHK, hD⟩ := hv
  have hK := hHK.1.1
  have hx := Bd.exec
  have hb := Bd.bytes
  have hr := Bd.returns
  have hts := atoms_spec (ws := w_Law_count) Bd.pre
  have hg : ∀ w ∈ Tg, w.before _ s = true := fun w q => hts w (List.mem_cons_of_mem _ q)
  have hown : s.vm.findClass "LanguageServerLaw" = some m.cls := findClass_of_methodNamed Bd.named
  have hlocks := Bd.notSynchronized
  have hS : va_S (HF a A B o) s.heap s.heap [] := va_S.rf
  have hl := lv_entry ([.ref a, .int x1, .ref o]) (n := 4) (Nat.le_of_ble_eq_true rfl)
  rw [lg_entry_eq]
  generalize (lg_sl ([.ref a, .int x1, .ref o]) ++ List.replicate (4 - (lg_sl ([.ref a, .int x1, .ref o])).length) Slot.unset).toArray = ls at hl ⊢
  have hl : lv_has ls 4 [(0, .ref a), (1, .int x1), (2, .ref o)] := hl
  generalize hargs : ([.ref a, .int x1, .ref o] : List Value).toArray = args at hg hts ⊢
  refine lv_aload_n hx hb d_Law_count_0 rfl (lv_at hl 2 rfl) ?_
  refine lv_iconst (v := 0) hx hb d_Law_count_1 (by decide) ?_
  refine lv_aload_n hx hb d_Law_count_2 rfl (lv_at hl 0 rfl) ?_
  refine lv_iload_n hx hb d_Law_count_3 rfl (lv_at hl 1 rfl) ?_
  refine H_calli (va_runV (As := [.int x1]) (rest := [.int 0, .ref o]) ⟨hx, hb, hml, hown, hts⟩ (c_LS_count l K a A B h) (cwV 1 hts (gd_V wd_888 wd_889 wd_890 wd_1 wd_891) rfl rfl rfl dv_LS_count ⟨Nat.le_of_ble_eq_true rfl, Nat.le_of_ble_eq_true rfl⟩) (H_pv hHK hS hP hD) rfl rfl hl.1 rfl (lv_room (Nat.le_of_ble_eq_true rfl)) d_Law_count_4 ⟨Nat.le_of_ble_eq_true rfl, Nat.le_of_ble_eq_true rfl⟩) hP hD hS (fun H locs hP hD hS => ?_)
  refine lv_i2l hx hb d_Law_count_7 rfl ?_
  refine va_last hx hb hK.1 hP hD hS 59 1 rfl rfl (show vp_in 0 1 by show inR 0 1; decide) d_Law_count_8 (fun H locs hP hD hS => ?_)
  have hP : va_P K.1 vwCl (wH K a A B ss tt o (vp_updL f 0 rr.toInt64)) H := hP
  have hD : va_D (HF a A B o) (wH K a A B ss tt o (vp_updL f 0 rr.toInt64)) := hD
  refine lv_goto (tgt := 15) hx hb d_Law_count_9 (by decide) ?_
  refine lv_iconst (v := 0) hx hb d_Law_count_15 (by decide) ?_
  refine W.widen (k := 1) (n := 6) (Nat.le_of_ble_eq_true rfl) (Nat.le_of_ble_eq_true rfl) ?_
  exact W.iret hx hb hr (fun t ht hW => ⟨⟨_, (), rfl, rfl, by rw [ht]; exact hP, HB_of hHK hS hW ht (fun q h => h), hD⟩, hS.F ht⟩) hS.2.2 d_Law_count_16
set_option maxHeartbeats 4000000 in
set_option maxRecDepth 100000 in
theorem ch_count_1 (l : Launch) (hlt : l.stackTraces = false) (K : Kst) (a o : Nat) (A B : Nat → Nat) (f : Nat → Int64) {σ τ : Sto} {x1 : Int32} {rr : Int32} {ss tt : Sto} (h : p_LanguageServer_count σ τ x1 = some (1, rr, ss, tt)) : Met l y_Law_count w_Law_count r_Law_count (va_Pc [.ref a, .int x1, .ref o] (HB K a A B σ τ o f)) (va_Qi (S := Unit) (fun v _ => v = 1) (fun _ t => HB K a A B ss tt o f t) (HF a A B o)) 1 6 (HF a A B o) := by
  refine va_MetW (cc := b_Law_count) (maxL := 4) (ret := (some .int)) (hh := [(0, 9, 12, 13)]) (by decide) rfl ?_
  intro p e s m args below meth c s₁ Bd hml hv
  obtain ⟨rfl, hP, hHK, hD⟩ := hv
  have hK := hHK.1.1
  have hx := Bd.exec
  have hb := Bd.bytes
  have hr := Bd.returns
  have hts := atoms_spec (ws := w_Law_count) Bd.pre
  have hg : ∀ w ∈ Tg, w.before _ s = true := fun w q => hts w (List.mem_cons_of_mem _ q)
  have hown : s.vm.findClass "LanguageServerLaw" = some m.cls := findClass_of_methodNamed Bd.named
  have hlocks := Bd.notSynchronized
  have hS : va_S (HF a A B o) s.heap s.heap [] := va_S.rf
  have htab : c.exceptionTable.toList = ([(0, 9, 12, 13)] : List (Nat × Nat × Nat × Nat)).map (fun q => ⟨q.1, q.2.1, q.2.2.1, q.2.2.2⟩) := by
    obtain ⟨m9, meth9, c9, hn9, h1, h2, -, -, h6, -⟩ := Cond.codeWith_spec (hts _ List.mem_cons_self)
    cases Option.some.inj (hn9.symm.trans Bd.named)
    cases Option.some.inj (h1.symm.trans Bd.method)
    cases Option.some.inj (h2.symm.trans (Stand.of_body Bd).code)
    exact tab_of _ _ h6
  have hl := lv_entry ([.ref a, .int x1, .ref o]) (n := 4) (Nat.le_of_ble_eq_true rfl)
  rw [lg_entry_eq]
  generalize (lg_sl ([.ref a, .int x1, .ref o]) ++ List.replicate (4 - (lg_sl ([.ref a, .int x1, .ref o])).length) Slot.unset).toArray = ls at hl ⊢
  have hl : lv_has ls 4 [(0, .ref a), (1, .int x1), (2, .ref o)] := hl
  generalize hargs : ([.ref a, .int x1, .ref o] : List Value).toArray = args at hg hts ⊢
  refine lv_aload_n hx hb d_Law_count_0 rfl (lv_at hl 2 rfl) ?_
  refine lv_iconst (v := 0) hx hb d_Law_count_1 (by decide) ?_
  refine lv_aload_n hx hb d_Law_count_2 rfl (lv_at hl 0 rfl) ?_
  refine lv_iload_n hx hb d_Law_count_3 rfl (lv_at hl 1 rfl) ?_
  refine T_caught (own := "LanguageServerLaw") (nm := "java/lang/IllegalArgumentException") (T_runV (As := [.int x1]) (rest := [.int 0, .ref o]) ⟨hx, hb, hml, hown, hts⟩ (ct_LS_count_1 l hlt K a A B h) (cwV 1 hts (gd_V wd_888 wd_889 wd_890 wd_1 wd_891) rfl rfl rfl dv_LS_count ⟨Nat.le_of_ble_eq_true rfl, Nat.le_of_ble_eq_true rfl⟩) (H_pv hHK hS hP hD) rfl rfl hl.1 rfl (lv_room (Nat.le_of_ble_eq_true rfl)) d_Law_count_4 ⟨Nat.le_of_ble_eq_true rfl, Nat.le_of_ble_eq_true rfl⟩) hown [] ⟨0, 9, 12, 13⟩ [] htab (fun x h => absurd h List.not_mem_nil) (by decide) (by decide) (hg _ wd_597) (hHK.1.2.1.1 "java/lang/IllegalArgumentException" (by decide)) hS (fun q _ h => Or.inl h) (fun q h => Or.inl h) (fun x t H1 locs ht hW hB hz hk hS => ?_)
  obtain ⟨hB1, -, -⟩ := hB
  rw [ht] at hB1
  obtain ⟨hP, hD⟩ := H_back hP hD hB1 hk
  generalize H1 = H at hP hS ⊢
  refine lv_astore_n (lv' := [(3, .ref x), (0, .ref a), (1, .int x1), (2, .ref o)]) hx hb d_Law_count_12 rfl hl (by decide) rfl (fun ls hl => ?_)
  refine lv_iconst (v := 1) hx hb d_Law_count_13 (by decide) ?_
  exact W.iret hx hb hr (fun t ht hW => ⟨⟨_, (), rfl, rfl, by rw [ht]; exact hP, HB_of hHK hS hW ht (fun q h => h), hD⟩, hS.F ht⟩) hS.2.2 d_Law_count_14
