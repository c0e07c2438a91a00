set_option maxHeartbeats 8000000 in
set_option maxRecDepth 100000 in
theorem law_start {p : Program} {e : Env} {s : State} {m : MethodId} {below : List Frame} {meth : Method} {c : Code} (l : Launch) (hlt : l.stackTraces = false) {b L : Nat} {xs : Nat → Int32} (hL : L ≤ 2560) (C0 : lw_At p s m meth c b L xs) {Sim : Sto → Sto → Sto → Prop} (h0 : Sim σR σR σR0) (hSt : Stps Sim) : W p l e room_1 s m #[Value.ref b] below meth c s.heap [] 0 0 (lw_Z below #[Value.ref b] s) (entryFrame m ([Value.ref b] : List Value).toArray 7) := by
  obtain ⟨hx, hb, hr, hml, hown, hts0, hX, hbl, hlocks, hgv⟩ := C0
  have hown : s.vm.findClass "LanguageServerLaw" = some m.cls := hown
  have hg : ∀ w ∈ Tg, w.before #[Value.ref b] s = true := fun w h => hts0 w (List.mem_filter.mp h).1
  have hts : ∀ w ∈ (Cond.initialized "LanguageServerLaw" :: Tg), w.before #[Value.ref b] s = true := List.forall_mem_cons.mpr ⟨hg _ wd_0, hg⟩
  obtain ⟨K, hK⟩ := k_of hts0
  have hC := kc_of hts0
  have C : Lx p s m c K b L xs := ⟨hx, hb, hml, hown, hts, hX, hbl, ⟨hK, xk_of hts0, xz_of hts0 hgv⟩, nc_of hgv⟩
  have hA : ∀ q : Nat, s.heap.size ≤ q → (fun q : Nat => s.heap.size ≤ q) q := fun _ h => h
  have hS : va_S (fun q : Nat => s.heap.size ≤ q) s.heap s.heap [] := va_S.rf
  have hP : va_P K.1 vwCl [] s.heap := fun k q h => by simp at h
  have hD : va_D (fun q : Nat => s.heap.size ≤ q) [] := ⟨fun i j p q h => by simp at h, fun k q h => by simp at h⟩
  have hl := lv_entry ([.ref b]) (n := 7) (Nat.le_of_ble_eq_true rfl)
  rw [lg_entry_eq]
  generalize (lg_sl ([.ref b]) ++ List.replicate (7 - (lg_sl ([.ref b])).length) Slot.unset).toArray = ls at hl ⊢
  have hl : lv_has ls 7 [(0, .ref b)] := hl
  refine va_new (ci := 0) (fs := [.null, .null]) (C := "LanguageServer") (T := T_LS) (N := 2) hx hb hg in_LS t_LS t_LS_ok hown (hg _ wd_21) (hg _ wd_22) (hg _ wd_1) hK.1 hP hD hS hA rfl bl_LS (Nat.le_of_ble_eq_true rfl) (Nat.le_of_ble_eq_true rfl) d_law_0 (fun q0 H hP hD hS => ?_)
  have hP : va_P K.1 vwCl [(q0, .inr (0, [.null, .null]))] H := hP
  have hD : va_D (fun q : Nat => s.heap.size ≤ q) [(q0, .inr (0, [.null, .null]))] := hD
  refine W.widen (k := 1) (n := 2) (by omega) (by omega) ?_
  refine lv_dup hx hb d_law_3 rfl ?_
  have hFc := va_free (wc := [(q0, .inr (0, [.null, .null]))]) hD hS hA [0] rfl
  refine va_callv (va_runI (As := []) (rest := [.ref q0]) ⟨hx, hb, hml, hown, hts⟩ (c_LS_init l K q0 H.size) (cwI 0 hts (gd_C wd_25) rfl rfl rfl (hg _ wd_1) (hg _ wd_23) (hg _ wd_24) rfl ds_LS_init ⟨Nat.le_of_ble_eq_true rfl, Nat.le_of_ble_eq_true rfl⟩) ⟨fun _ _ _ _ z => ⟨z.1, z.2.1, z.2.2.1, RK.same rfl z.2.2.2.1, KC.same rfl z.2.2.2.2⟩, fun U hU hW => ⟨rfl, by rw [hU], by rw [hU]; exact hP, RK.warm hW hK, KC.warm hW hC⟩⟩ rfl rfl hl.1 rfl (lv_room (Nat.le_of_ble_eq_true rfl)) d_law_4 ⟨Nat.le_of_ble_eq_true rfl, Nat.le_of_ble_eq_true rfl⟩) hS (fun z _ h => hFc z h) hFc (fun u t H1 locs ht hvm hw hB hz1 hk1 hS => ?_)
  obtain ⟨hP1, hD1⟩ := hB
  rw [ht] at hP1
  obtain ⟨A, B⟩ := u
  have hP1 : va_P K.1 vwCl (wL K q0 A B σR σR) H1 := hP1
  have hD1 : va_D (va_A [(q0, .inr (0, [.null, .null]))] H.size) (wL K q0 A B σR σR) := hD1
  refine W.widen (k := 59) (n := 3320) (by omega) (by omega) ?_
  obtain ⟨hP, hD⟩ := va_join (wr := []) (w1 := wL K q0 A B σR σR) hP hD [0] [] rfl rfl (by decide) (by decide) hk1 hFc hP1 hD1
  generalize H1 = H at hP hS ⊢
  have hP : va_P K.1 vwCl (wL K q0 A B σR σR) H := hP
  have hD : va_D (fun q : Nat => s.heap.size ≤ q) (wL K q0 A B σR σR) := hD
  refine lv_astore_n (lv' := [(1, .ref q0), (0, .ref b)]) hx hb d_law_7 rfl hl (by decide) rfl (fun ls hl => ?_)
  refine va_new (ci := 9) (fs := [.int 0, .null, .int 0, .null, .int 0, .null, .null, .null, .null, .int 0, .int 0, .int 0, .null, .null, .null, .null, .null, .null, .int 0, .null, .null, .null, .null, .null, .null, .null, .null, .null, .null, .null, .int 0, .int 0]) (C := "LanguageServerModel") (T := T_Mo) (N := 32) hx hb hg in_Mo t_Mo t_Mo_ok hown (hg _ wd_893) (hg _ wd_894) (hg _ wd_10) hK.1 hP hD hS hA rfl bl_Mo (Nat.le_of_ble_eq_true rfl) (Nat.le_of_ble_eq_true rfl) d_law_8 (fun q9 H hP hD hS => ?_)
  refine W.widen (k := 60) (n := 3352) (by omega) (by omega) ?_
  refine lv_dup hx hb d_law_11 rfl ?_
  have hFc := va_free (wc := [(q9, .inr (9, [.int 0, .null, .int 0, .null, .int 0, .null, .null, .null, .null, .int 0, .int 0, .int 0, .null, .null, .null, .null, .null, .null, .int 0, .null, .null, .null, .null, .null, .null, .null, .null, .null, .null, .null, .int 0, .int 0]))]) hD hS hA [59] rfl
  have hPc := hP.sub (ws' := [(q9, .inr (9, [.int 0, .null, .int 0, .null, .int 0, .null, .null, .null, .null, .int 0, .int 0, .int 0, .null, .null, .null, .null, .null, .null, .int 0, .null, .null, .null, .null, .null, .null, .null, .null, .null, .null, .null, .int 0, .int 0]))]) [59] rfl
  refine va_callv (va_runI (As := []) (rest := [.ref q9]) ⟨hx, hb, hml, hown, hts⟩ (c_Mo_init l K q9 H.size) (cwI 0 hts (gd_C wd_897) rfl rfl rfl (hg _ wd_10) (hg _ wd_895) (hg _ wd_896) rfl ds_Mo_init ⟨Nat.le_of_ble_eq_true rfl, Nat.le_of_ble_eq_true rfl⟩) ⟨fun _ _ _ _ z => ⟨z.1, z.2.1, z.2.2.1, RK.same rfl z.2.2.2⟩, fun U hU hW => ⟨rfl, by rw [hU], by rw [hU]; exact hPc, RK.warm hW hK⟩⟩ rfl rfl hl.1 rfl (lv_room (Nat.le_of_ble_eq_true rfl)) d_law_12 ⟨Nat.le_of_ble_eq_true rfl, Nat.le_of_ble_eq_true rfl⟩) hS (fun z _ h => hFc z h) hFc (fun Y t H1 locs ht hvm hw9 hB hz1 hk1 hS => ?_)
  obtain ⟨hP1, hD1⟩ := hB
  rw [ht] at hP1
  have hw9 : Y 0 = q9 := hw9
  subst hw9
  refine W.widen (k := 83) (n := 5356) (by omega) (by omega) ?_
  obtain ⟨hP, hD⟩ := va_join (wr := wL K q0 A B σR σR) (w1 := wY K Y σR0) hP hD [59] [0, 1, 2, 3, 4, 5, 6, 7, 8, 9, 10, 11, 12, 13, 14, 15, 16, 17, 18, 19, 20, 21, 22, 23, 24, 25, 26, 27, 28, 29, 30, 31, 32, 33, 34, 35, 36, 37, 38, 39, 40, 41, 42, 43, 44, 45, 46, 47, 48, 49, 50, 51, 52, 53, 54, 55, 56, 57, 58] rfl rfl (by decide) (by decide) hk1 hFc hP1 hD1
  generalize H1 = H at hP hS ⊢
  have hP : va_P K.1 vwCl (wL K q0 A B σR σR ++ wY K Y σR0) H := hP
  have hD : va_D (fun q : Nat => s.heap.size ≤ q) (wL K q0 A B σR σR ++ wY K Y σR0) := hD
  refine lv_astore_n (lv' := [(2, .ref (Y 0)), (1, .ref q0), (0, .ref b)]) hx hb d_law_15 rfl hl (by decide) rfl (fun ls hl => ?_)
  refine lv_iconst (v := 1) hx hb d_law_16 (by decide) ?_
  refine C_newl (R := room_1) (cells := 83) (slots := 5356) hx hb hg hK hP hD hS hA (n := 1) (N := 1) (by decide) rfl (by decide) (Nat.le_of_ble_eq_true rfl) (Nat.le_of_ble_eq_true rfl) d_law_17 (fun o H hP hD hS => ?_)
  have hP : va_P K.1 vwCl (wW K q0 A B σR σR o (fun _ => 0) Y σR0) H := hP.sub [0, 1, 2, 3, 4, 5, 6, 7, 8, 9, 10, 11, 12, 13, 14, 15, 16, 17, 18, 19, 20, 21, 22, 23, 24, 25, 26, 27, 28, 29, 30, 31, 32, 33, 34, 35, 36, 37, 38, 39, 40, 41, 42, 43, 44, 45, 46, 47, 48, 49, 50, 51, 52, 53, 54, 55, 56, 57, 58, 83, 59, 60, 61, 62, 63, 64, 65, 66, 67, 68, 69, 70, 71, 72, 73, 74, 75, 76, 77, 78, 79, 80, 81, 82] rfl
  have hD : va_D (fun q : Nat => s.heap.size ≤ q) (wW K q0 A B σR σR o (fun _ => 0) Y σR0) := hD.sub [0, 1, 2, 3, 4, 5, 6, 7, 8, 9, 10, 11, 12, 13, 14, 15, 16, 17, 18, 19, 20, 21, 22, 23, 24, 25, 26, 27, 28, 29, 30, 31, 32, 33, 34, 35, 36, 37, 38, 39, 40, 41, 42, 43, 44, 45, 46, 47, 48, 49, 50, 51, 52, 53, 54, 55, 56, 57, 58, 83, 59, 60, 61, 62, 63, 64, 65, 66, 67, 68, 69, 70, 71, 72, 73, 74, 75, 76, 77, 78, 79, 80, 81, 82] (by decide) rfl
  refine W.widen (k := 84 + 0) (n := 5357 + 6 * 0) (by omega) (by omega) ?_
  refine lv_astore_n (lv' := [(3, .ref o), (2, .ref (Y 0)), (1, .ref q0), (0, .ref b)]) hx hb d_law_19 rfl hl (by decide) rfl (fun ls hl => ?_)
  refine lv_iconst (v := 0) hx hb d_law_20 (by decide) ?_
  refine lv_istore (lv' := [(4, .int 0), (3, .ref o), (2, .ref (Y 0)), (1, .ref q0), (0, .ref b)]) hx hb d_law_21 hl (by decide) rfl (fun ls hl => ?_)
  exact law_loop hL hlt C hr hlocks hSt (L + 1) 0 (by omega) (by omega) A B σR σR σR0 (fun _ => 0) H _ ls h0 hP hD hS (lv_sub hl [4, 3, 2, 1, 0] rfl)
