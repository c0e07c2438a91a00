theorem wd_26 : (Jvm.Cond.methodLink "LanguageServer" (1 : Nat) ({ cls := "java/lang/Object", name := "<init>", desc := "()V" } : Jvm.MethodName)) ∈ Tg := tg_1 (i := 26) rfl rfl
theorem wd_29 : (Jvm.Cond.classLink "LanguageServer" (7 : Nat) "LanguageServer$Reading") ∈ Tg := tg_1 (i := 29) rfl rfl
theorem wd_30 : (Jvm.Cond.instantiable "LanguageServer$Reading" (8 : Nat)) ∈ Tg := tg_1 (i := 30) rfl rfl
theorem wd_32 : (Jvm.Cond.instanceMethod ({ cls := "LanguageServer$Reading", name := "<init>", desc := "()V" } : Jvm.MethodName)) ∈ Tg := tg_1 (i := 32) rfl rfl
theorem wd_33 : (Jvm.Cond.code ({ cls := "LanguageServer$Reading", name := "<init>", desc := "()V" } : Jvm.MethodName) prog_7_method_1_code (1 : Nat) (Option.none : Option Jvm.ClassFile.FieldType)) ∈ Tg := tg_1 (i := 33) rfl rfl
abbrev y_LS_init : MethodName := ⟨"LanguageServer", "<init>", "()V"⟩
abbrev b_LS_init : ByteArray := prog_1_method_1_code
theorem d_LS_init_0 : decode b_LS_init 0 = .ok (.aload_n 0, 1) := by decide +kernel
theorem d_LS_init_1 : decode b_LS_init 1 = .ok (.invokespecial 1, 3) := by decide +kernel
theorem d_LS_init_4 : decode b_LS_init 4 = .ok (.aload_n 0, 1) := by decide +kernel
theorem d_LS_init_5 : decode b_LS_init 5 = .ok (.new 7, 3) := by decide +kernel
theorem d_LS_init_8 : decode b_LS_init 8 = .ok (.dup, 1) := by decide +kernel
theorem d_LS_init_9 : decode b_LS_init 9 = .ok (.invokespecial 9, 3) := by decide +kernel
theorem d_LS_init_12 : decode b_LS_init 12 = .ok (.putfield 10, 3) := by decide +kernel
theorem d_LS_init_15 : decode b_LS_init 15 = .ok (.aload_n 0, 1) := by decide +kernel
theorem d_LS_init_16 : decode b_LS_init 16 = .ok (.new 7, 3) := by decide +kernel
theorem d_LS_init_19 : decode b_LS_init 19 = .ok (.dup, 1) := by decide +kernel
theorem d_LS_init_20 : decode b_LS_init 20 = .ok (.invokespecial 9, 3) := by decide +kernel
theorem d_LS_init_23 : decode b_LS_init 23 = .ok (.putfield 16, 3) := by decide +kernel
theorem d_LS_init_26 : decode b_LS_init 26 = .ok (.return_, 1) := by decide +kernel
abbrev w_LS_init : List Cond := Cond.code y_LS_init b_LS_init 1 none :: Tg
theorem ds_LS_init : y_LS_init.cls ≠ "java/lang/invoke/MethodHandle" ∧ y_LS_init.cls ≠ "java/lang/invoke/VarHandle" ∧ (parseMethodDescriptor y_LS_init.desc).map (fun d => d.parameters.length) = some 0 := by decide +kernel
theorem bl_LS : ∀ j, j < 2 → defaultValue (t_LS j) = vp_V [.null, .null] j := by
  intro j hj
  match j, hj with
  | 0, _ => rfl
  | 1, _ => rfl
  | k + 2, h => exact absurd h (by omega)
set_option maxHeartbeats 4000000 in
set_option maxRecDepth 100000 in
theorem c_LS_init (l : Launch) (K : Kst) (q0 sz : Nat) : Met l y_LS_init w_LS_init { frames := 3, cells := 58, slots := 3318, locals := 55 } (va_Pc [.ref q0] (fun U => U.heap.size = sz ∧ va_P K.1 vwCl [(q0, .inr (0, [.null, .null]))] U.heap ∧ RK K U ∧ KC U)) (va_Qv (S := (Nat → Nat) × (Nat → Nat)) (fun _ => True) (fun u t => va_P K.1 vwCl (wL K q0 u.1 u.2 σR σR) t.heap ∧ va_D (va_A [(q0, .inr (0, [.null, .null]))] sz) (wL K q0 u.1 u.2 σR σR)) (va_A [(q0, .inr (0, [.null, .null]))] sz)) 58 3318 (va_A [(q0, .inr (0, [.null, .null]))] sz) := by
  refine Met.ofW (cc := b_LS_init) (maxL := 1) (ret := none) (by decide) rfl ?_
  intro p e s m args below meth c s₁ Bd hml hv
  obtain ⟨rfl, hsz, hP, hK, hC⟩ := hv
  have hx := Bd.exec
  have hb := Bd.bytes
  have hr := Bd.returns
  have hts := atoms_spec (ws := w_LS_init) Bd.pre
  have hg : ∀ w ∈ Tg, w.before _ s = true := fun w q => hts w (List.mem_cons_of_mem _ q)
  have hown : s.vm.findClass "LanguageServer" = some m.cls := findClass_of_methodNamed Bd.named
  have hlocks := Bd.notSynchronized
  subst hsz
  have hD : va_D (va_A [(q0, .inr (0, [.null, .null]))] s.heap.size) [(q0, .inr (0, [.null, .null]))] := (one_D (F := fun _ => True) trivial).self
  generalize hAe : va_A [(q0, .inr (0, [.null, .null]))] s.heap.size = A at hD ⊢
  have hA : ∀ q : Nat, s.heap.size ≤ q → A q := fun q h => by rw [← hAe]; exact Or.inr h
  have hS : va_S A s.heap s.heap [] := va_S.rf
  have hl := lv_entry ([.ref q0]) (n := 1) (Nat.le_of_ble_eq_true rfl)
  rw [lg_entry_eq]
  generalize (lg_sl ([.ref q0]) ++ List.replicate (1 - (lg_sl ([.ref q0])).length) Slot.unset).toArray = ls at hl ⊢
  have hl : lv_has ls 1 [(0, .ref q0)] := hl
  refine lv_aload_n hx hb d_LS_init_0 rfl (lv_at hl 0 rfl) ?_
  refine W.objInit hx hb hown (hg _ wd_26) (hg _ wd_27) (hg _ wd_28) rfl (by rw [hml]; exact hl.1) rfl d_LS_init_1 (Nat.le_of_ble_eq_true rfl) (Nat.le_of_ble_eq_true rfl) ?_
  refine W.eq (g2 := F0 m 4 ls []) rfl ?_
  refine lv_aload_n hx hb d_LS_init_4 rfl (lv_at hl 0 rfl) ?_
  refine va_new (ci := 1) (fs := [.null, .null, .null, .null, .null, .null, .null, .int 0]) (C := "LanguageServer$Reading") (T := T_Reading) (N := 8) hx hb hg in_Reading t_Reading t_Reading_ok hown (hg _ wd_29) (hg _ wd_30) (hg _ wd_2) hK.1 hP hD hS hA rfl bl_Reading (Nat.le_of_ble_eq_true rfl) (Nat.le_of_ble_eq_true rfl) d_LS_init_5 (fun q5 H hP hD hS => ?_)
  refine W.widen (k := 1) (n := 8) (by omega) (by omega) ?_
  have hP : va_P K.1 vwCl [(q0, .inr (0, [.null, .null])), (q5, .inr (1, [.null, .null, .null, .null, .null, .null, .null, .int 0]))] H := hP
  have hD : va_D A [(q0, .inr (0, [.null, .null])), (q5, .inr (1, [.null, .null, .null, .null, .null, .null, .null, .int 0]))] := hD
  refine lv_dup hx hb d_LS_init_8 rfl ?_
  have hFc := va_free (wc := [(q5, .inr (1, [.null, .null, .null, .null, .null, .null, .null, .int 0]))]) hD hS hA [1] rfl
  have hPc := hP.sub (ws' := [(q5, .inr (1, [.null, .null, .null, .null, .null, .null, .null, .int 0]))]) [1] rfl
  refine va_callv (va_runIN (As := []) (rest := [.ref q5, .ref q0]) ⟨hx, hb, hml, hown, hts⟩ (c_Reading_init l K q5 H.size) ⟨va_cnB 0 hts (gd_C wd_33) rfl rfl rfl hC.1 (hg _ wd_2) ds_Reading_init ⟨Nat.le_of_ble_eq_true rfl, Nat.le_of_ble_eq_true rfl⟩, rfl, hg _ wd_32⟩ ⟨fun _ _ _ _ z => ⟨z.1, z.2.1, z.2.2.1, RK.same rfl z.2.2.2.1, KC.same rfl z.2.2.2.2⟩, fun U hU hW => ⟨rfl, by rw [hU], by rw [hU]; exact hPc, RK.warm hW hK, KC.warm hW hC⟩⟩ rfl rfl hl.1 rfl (lv_room (Nat.le_of_ble_eq_true rfl)) d_LS_init_9 ⟨Nat.le_of_ble_eq_true rfl, Nat.le_of_ble_eq_true rfl⟩) hS (fun z _ h => hFc z h) hFc (fun u9 t H1 locs ht hvm hw9 hB hz1 hk1 hS => ?_)
  obtain ⟨hP1, hD1⟩ := hB
  rw [ht] at hP1
  refine W.widen (k := 29) (n := 1659) (by omega) (by omega) ?_
  obtain ⟨hP, hD⟩ := va_join (wr := [(q0, .inr (0, [.null, .null]))]) (w1 := wR K u9 σR) hP hD [1] [0] rfl rfl (by decide) (by decide) hk1 hFc hP1 hD1
  generalize H1 = H at hP hS ⊢
  have hP : va_P K.1 vwCl ((q0, .inr (0, [.null, .null])) :: wR K u9 σR) H := hP
  have hD : va_D A ((q0, .inr (0, [.null, .null])) :: wR K u9 σR) := hD
  refine va_put (D := K.1) (ci := 0) (v := .ref q5) (ty := .object "LanguageServer$Reading") (C := "LanguageServer") (T := T_LS) (N := 2) hx hb hg in_LS t_LS t_LS_ok n_LS hown hK.1 hP hD hS 0 rfl rfl 0 (by decide) (hg _ wd_298) (fun _ h9 => h9) rfl (by decide +kernel) rfl rfl (Nat.le_of_ble_eq_true rfl) d_LS_init_12 (fun H locs hP hD hS => ?_)
  have hP : va_P K.1 vwCl ((q0, .inr (0, [.ref q5, .null])) :: wR K u9 σR) H := hP
  have hD : va_D A ((q0, .inr (0, [.ref q5, .null])) :: wR K u9 σR) := hD
  refine lv_aload_n hx hb d_LS_init_15 rfl (lv_at hl 0 rfl) ?_
  refine va_new (ci := 1) (fs := [.null, .null, .null, .null, .null, .null, .null, .int 0]) (C := "LanguageServer$Reading") (T := T_Reading) (N := 8) hx hb hg in_Reading t_Reading t_Reading_ok hown (hg _ wd_29) (hg _ wd_30) (hg _ wd_2) hK.1 hP hD hS hA rfl bl_Reading (Nat.le_of_ble_eq_true rfl) (Nat.le_of_ble_eq_true rfl) d_LS_init_16 (fun q16 H hP hD hS => ?_)
  refine W.widen (k := 30) (n := 1667) (by omega) (by omega) ?_
  have hP : va_P K.1 vwCl (((q0, .inr (0, [.ref q5, .null])) :: wR K u9 σR) ++ [(q16, .inr (1, [.null, .null, .null, .null, .null, .null, .null, .int 0]))]) H := hP
  have hD : va_D A (((q0, .inr (0, [.ref q5, .null])) :: wR K u9 σR) ++ [(q16, .inr (1, [.null, .null, .null, .null, .null, .null, .null, .int 0]))]) := hD
  refine lv_dup hx hb d_LS_init_19 rfl ?_
  have hFc := va_free (wc := [(q16, .inr (1, [.null, .null, .null, .null, .null, .null, .null, .int 0]))]) hD hS hA [30] rfl
  have hPc := hP.sub (ws' := [(q16, .inr (1, [.null, .null, .null, .null, .null, .null, .null, .int 0]))]) [30] rfl
  refine va_callv (va_runIN (As := []) (rest := [.ref q16, .ref q0]) ⟨hx, hb, hml, hown, hts⟩ (c_Reading_init l K q16 H.size) ⟨va_cnB 0 hts (gd_C wd_33) rfl rfl rfl hC.1 (hg _ wd_2) ds_Reading_init ⟨Nat.le_of_ble_eq_true rfl, Nat.le_of_ble_eq_true rfl⟩, rfl, hg _ wd_32⟩ ⟨fun _ _ _ _ z => ⟨z.1, z.2.1, z.2.2.1, RK.same rfl z.2.2.2.1, KC.same rfl z.2.2.2.2⟩, fun U hU hW => ⟨rfl, by rw [hU], by rw [hU]; exact hPc, RK.warm hW hK, KC.warm hW hC⟩⟩ rfl rfl hl.1 rfl (lv_room (Nat.le_of_ble_eq_true rfl)) d_LS_init_20 ⟨Nat.le_of_ble_eq_true rfl, Nat.le_of_ble_eq_true rfl⟩) hS (fun z _ h => hFc z h) hFc (fun u20 t H1 locs ht hvm hw20 hB hz1 hk1 hS => ?_)
  obtain ⟨hP1, hD1⟩ := hB
  rw [ht] at hP1
  refine W.widen (k := 58) (n := 3318) (by omega) (by omega) ?_
  obtain ⟨hP, hD⟩ := va_join (wr := (q0, .inr (0, [.ref q5, .null])) :: wR K u9 σR) (w1 := wR K u20 σR) hP hD [30] [0, 1, 2, 3, 4, 5, 6, 7, 8, 9, 10, 11, 12, 13, 14, 15, 16, 17, 18, 19, 20, 21, 22, 23, 24, 25, 26, 27, 28, 29] rfl rfl (by decide) (by decide) hk1 hFc hP1 hD1
  generalize H1 = H at hP hS ⊢
  have hP : va_P K.1 vwCl ((q0, .inr (0, [.ref q5, .null])) :: (wR K u9 σR ++ wR K u20 σR)) H := hP
  have hD : va_D A ((q0, .inr (0, [.ref q5, .null])) :: (wR K u9 σR ++ wR K u20 σR)) := hD
  refine va_put (D := K.1) (ci := 0) (v := .ref q16) (ty := .object "LanguageServer$Reading") (C := "LanguageServer") (T := T_LS) (N := 2) hx hb hg in_LS t_LS t_LS_ok n_LS hown hK.1 hP hD hS 0 rfl rfl 1 (by decide) (hg _ wd_299) (fun _ h9 => h9) rfl (by decide +kernel) rfl rfl (Nat.le_of_ble_eq_true rfl) d_LS_init_23 (fun H locs hP hD hS => ?_)
  subst hw9
  subst hw20
  have hP : va_P K.1 vwCl (wL K q0 u9 u20 σR σR) H := hP
  have hD : va_D A (wL K q0 u9 u20 σR σR) := hD
  exact W.vret hx hb hr (fun t ht hW => ⟨⟨(u9, u20), rfl, trivial, by show va_P K.1 vwCl _ t.heap; rw [ht]; exact hP, hD⟩, hS.F ht⟩) hS.2.2 d_LS_init_26

