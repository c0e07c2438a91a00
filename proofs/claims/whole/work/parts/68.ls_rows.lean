theorem LB_eq {K : Kst} {a : Nat} {A B : Nat → Nat} {σ τ : Sto} {t u : State} (hu : u.heap = t.heap) (hv : u.vm = t.vm) (h : LB K a A B σ τ t) : LB K a A B σ τ u := by
  obtain ⟨h1, ⟨h2, h3, h4, h5⟩, h6⟩ := h
  refine ⟨by rw [hu]; exact h1, ⟨RK.same hv.symm h2, XK.same hv.symm h3, ?_, ?_⟩, h6⟩
  · rw [hu]; exact xs.moved (by rw [hv]; exact Vm.Alike.refl _) h4
  · rw [hu]; exact xs.moved (by rw [hv]; exact Vm.Alike.refl _) h5
section LB0
variable {K : Kst} {a u v : Nat} {A B : Nat → Nat} {σ σ' τ τ' : Sto} {H H1 : Heap} {F : Nat → Prop}
theorem L_pA (hP : va_P K.1 vwCl (wLx K a u v A B σ τ) H) : va_P K.1 vwCl (wR K A σ) H := mid_P (w1 := [(a, .inr (0, [.ref u, .ref v]))]) (w2 := wR K B τ) hP
theorem L_pB (hP : va_P K.1 vwCl (wLx K a u v A B σ τ) H) : va_P K.1 vwCl (wR K B τ) H := mid_P (w1 := (a, .inr (0, [.ref u, .ref v])) :: wR K A σ) (w2 := []) hP
theorem L_pS (hP : va_P K.1 vwCl (wLx K a u v A B σ τ) H) : va_at K.1 vwCl (a, .inr (0, [.ref u, .ref v])) H := hP 0 _ rfl
theorem L_P (h1 : va_at K.1 vwCl (a, .inr (0, [.ref u, .ref v])) H) (h2 : va_P K.1 vwCl (wR K A σ) H) (h3 : va_P K.1 vwCl (wR K B τ) H) : va_P K.1 vwCl (wLx K a u v A B σ τ) H := (one_P h1).app (h2.app h3)
theorem L_apart (hD : va_D F (wLx K a u v A B σ τ)) {i j : Nat} {x y : Nat × va_E} (hx : (wR K A σ)[i]? = some x) (hy : (wR K B τ)[j]? = some y) : x.1 ≠ y.1 := by
  intro e
  have hi : i < (wR K A σ).length := (List.getElem?_eq_some_iff.mp hx).1
  have h1 : (wLx K a u v A B σ τ)[i + 1]? = some x := by
    show (wR K A σ ++ wR K B τ)[i]? = some x
    rw [List.getElem?_append_left hi]; exact hx
  have h2 : (wLx K a u v A B σ τ)[(wR K A σ).length + j + 1]? = some y := by
    show (wR K A σ ++ wR K B τ)[(wR K A σ).length + j]? = some y
    rw [List.getElem?_append_right (Nat.le_add_right _ _), Nat.add_sub_cancel_left]; exact hy
  have := hD.1 _ _ x y h1 h2 e
  omega
theorem L_notA (hD : va_D F (wLx K a u v A B σ τ)) : ¬ RF A a := by
  intro h
  obtain ⟨k, x, h1, h2⟩ := wR_of (K := K) σ h
  have hi : k < (wR K A σ).length := (List.getElem?_eq_some_iff.mp h1).1
  have h3 : (wLx K a u v A B σ τ)[k + 1]? = some x := by
    show (wR K A σ ++ wR K B τ)[k]? = some x
    rw [List.getElem?_append_left hi]; exact h1
  have := hD.1 0 (k + 1) _ x rfl h3 h2
  omega
theorem L_notB (hD : va_D F (wLx K a u v A B σ τ)) : ¬ RF B a := by
  intro h
  obtain ⟨k, x, h1, h2⟩ := wR_of (K := K) τ h
  have h3 : (wLx K a u v A B σ τ)[(wR K A σ).length + k + 1]? = some x := by
    show (wR K A σ ++ wR K B τ)[(wR K A σ).length + k]? = some x
    rw [List.getElem?_append_right (Nat.le_add_right _ _), Nat.add_sub_cancel_left]; exact h1
  have := hD.1 0 _ _ x rfl h3 h2
  omega
theorem L_dA (hD : va_D F (wLx K a u v A B σ τ)) : va_D (RF A) (wR K A σ) := mid_D (w1 := [(a, .inr (0, [.ref u, .ref v]))]) (w2 := wR K B τ) hD (fun _ _ h => wR_in h)
theorem L_dB (hD : va_D F (wLx K a u v A B σ τ)) : va_D (RF B) (wR K B τ) := mid_D (w1 := (a, .inr (0, [.ref u, .ref v])) :: wR K A σ) (w2 := []) hD (fun _ _ h => wR_in h)
/-- the two readings, the trial ahead -/
theorem L_dBA (hD : va_D F (wLx K a u v A B σ τ)) : va_D (RF2 B A) (wR K B τ ++ wR K A σ) :=
  ((L_dB hD).weaken (fun _ _ _ h => Or.inl h)).app ((L_dA hD).weaken (fun _ _ _ h => Or.inr h)) (fun i j x y hx hy e => L_apart hD hy hx e.symm)
theorem L_dsw (hD : va_D F (wLx K a u v A B σ τ)) : va_D (LF a B A) (wL K a B A τ σ) := by
  refine (one_D (F := LF a B A) (q := (a, .inr (0, [.ref (B 0), .ref (A 0)]))) (Or.inl rfl)).app ((L_dBA hD).weaken (fun _ _ _ h => Or.inr h)) ?_
  intro i j x y hx hy e
  have hx0 : x.1 = a := by
    match i, hx with
    | 0, hx => cases hx; rfl
    | i + 1, hx => simp at hx
  rcases (L_dBA hD).2 j y hy with h | h
  · exact L_notB hD (by rw [← hx0, e]; exact h)
  · exact L_notA hD (by rw [← hx0, e]; exact h)
theorem LF_sw {q : Nat} (h : LF a B A q) : LF a A B q := by
  rcases h with h | h | h
  · exact Or.inl h
  · exact Or.inr (Or.inr h)
  · exact Or.inr (Or.inl h)
theorem LB_sw {s t : State} {locs : List Loc} (hLK : LK K (LF a A B) s) (hS : va_S (LF a A B) s.heap H locs) (hP : va_P K.1 vwCl (wLx K a (B 0) (A 0) A B σ τ) H) (hD : va_D (LF a A B) (wLx K a (B 0) (A 0) A B σ τ)) (hW : s.WarmedH t.vm) (ht : t.heap = H) : LB K a B A τ σ t := by
  refine ⟨?_, ⟨RK.warm hW hLK.1, hLK.2.1.warm hW, hLK.2.2.to hS hW.alike (fun q _ _ => by rw [ht]) (fun q h => LF_sw h)⟩, L_dsw hD⟩
  rw [ht]
  exact L_P (L_pS hP) (L_pB hP) (L_pA hP)
end LB0
section LCALL
variable {p : Program} {l : Launch} {e : Env} {R : Room} {s : State} {m : MethodId} {args : Array Value} {below : List Frame} {meth : Method} {c : Code} {H H0 : Heap} {locs : List Loc} {cells slots : Nat} {Q : State → Prop}
variable {cc : ByteArray} {pc : Nat} {ls : Array Slot} {rest st0 : List Value} {av : Array Value} {K : Kst} {a : Nat} {A B : Nat → Nat} {σ σ' τ τ' : Sto}
theorem L_pv {As : List Value} (hLK : LK K (LF a A B) s) (hS : va_S (LF a A B) s.heap H locs) (hP : va_P K.1 vwCl (wL K a A B σ τ) H) (hD : va_D (LF a A B) (wL K a A B σ τ)) : PreV s H "LanguageServer" a (va_Pc (.ref a :: As) (LB K a A B σ τ)) As :=
  ⟨L_blind, va_recv hLK.1.1 hP (ci := 0) (q := ("LanguageServer", T_LS, 2)) (q0 := 0) rfl rfl, fun U hU hW => ⟨rfl, LB_of hLK hS hP hD hW (fun q _ => by rw [hU])⟩⟩
theorem L_calli {r : Int32} (hr : va_Run p l e R s m args below meth c H locs cells slots 0 0 (F0 m pc ls st0) rest (va_Qi (S := Unit) (fun v _ => v = r) (fun _ t => LB K a A B σ' τ' t) (LF a A B) av) (LF a A B)) (hS : va_S (LF a A B) H0 H locs)
    (kk : ∀ (H1 : Heap) (locs1 : List Loc), va_P K.1 vwCl (wL K a A B σ' τ') H1 → va_D (LF a A B) (wL K a A B σ' τ') → va_S (LF a A B) H0 H1 locs1 → W p l e R s m args below meth c H1 locs1 cells slots Q (F0 m (pc + 3) ls (.int r :: rest))) : W p l e R s m args below meth c H locs cells slots Q (F0 m pc ls st0) := by
  refine va_calli hr hS (fun q _ h => h) (fun q h => h) (fun v u t H1 locs1 ht hvm hw hB hz hk hS1 => ?_)
  subst hw
  obtain ⟨h1, -, h3⟩ := hB
  rw [ht] at h1
  exact kk H1 locs1 h1 h3 hS1
theorem L_rrpv {As : List Value} (hK : RK K s) (hP : va_P K.1 vwCl (wL K a A B σ τ) H) (hD : va_D (LF a A B) (wL K a A B σ τ)) : PreV s H "LanguageServer$Reading" (B 0) (va_Pc (.ref (B 0) :: As) (RB2 K B A τ σ)) As :=
  ⟨RR_blind, va_recv hK.1 (L_pB hP) (ci := 1) (q := ("LanguageServer$Reading", T_Reading, 8)) (q0 := 0) rfl rfl, fun U hU hW => ⟨rfl, by rw [hU]; exact (L_pB hP).app (L_pA hP), RK.warm hW hK, L_dBA hD⟩⟩
theorem P_l {D : va_G} {cl : List vw_C} {x y : va_W} {H : Heap} (h : va_P D cl (x ++ y) H) : va_P D cl x H := fun k q hq => h k q (by rw [List.getElem?_append_left (List.getElem?_eq_some_iff.mp hq).1]; exact hq)
theorem P_r {D : va_G} {cl : List vw_C} {x y : va_W} {H : Heap} (h : va_P D cl (x ++ y) H) : va_P D cl y H := fun k q hq => h (x.length + k) q (by rw [List.getElem?_append_right (Nat.le_add_right _ _), Nat.add_sub_cancel_left]; exact hq)
theorem L_rrv (hr : va_Run p l e R s m args below meth c H locs cells slots 0 0 (F0 m pc ls st0) rest (RRQv K B A τ' σ av) (RF2 B A)) (hP : va_P K.1 vwCl (wL K a A B σ τ) H) (hD : va_D (LF a A B) (wL K a A B σ τ)) (hS : va_S (LF a A B) H0 H locs)
    (kk : ∀ (H1 : Heap) (locs1 : List Loc), va_P K.1 vwCl (wL K a A B σ τ') H1 → va_D (LF a A B) (wL K a A B σ τ') → va_S (LF a A B) H0 H1 locs1 → W p l e R s m args below meth c H1 locs1 cells slots Q (F0 m (pc + 3) ls rest)) : W p l e R s m args below meth c H locs cells slots Q (F0 m pc ls st0) := by
  have hin : ∀ q, RF2 B A q → LF a A B q := fun q h => h.elim (fun h => Or.inr (Or.inr h)) (fun h => Or.inr (Or.inl h))
  refine va_callv hr hS (fun q _ h => hin q h) (fun q h => hin q h) (fun u t H1 locs1 ht hvm hw hB hz hk hS1 => ?_)
  obtain ⟨h1, -, h3⟩ := hB
  rw [ht] at h1
  have hs := (L_pS hP).kept (hk a (L_pS hP).lt (fun h => h.elim (L_notB hD) (L_notA hD)))
  exact kk H1 locs1 (L_P hs (P_r h1) (P_l h1)) (fr_D hD rfl) hS1
theorem L_rri {r : Int32} (hr : va_Run p l e R s m args below meth c H locs cells slots 0 0 (F0 m pc ls st0) rest (RRQi K B A r τ' σ av) (RF2 B A)) (hP : va_P K.1 vwCl (wL K a A B σ τ) H) (hD : va_D (LF a A B) (wL K a A B σ τ)) (hS : va_S (LF a A B) H0 H locs)
    (kk : ∀ (H1 : Heap) (locs1 : List Loc), va_P K.1 vwCl (wL K a A B σ τ') H1 → va_D (LF a A B) (wL K a A B σ τ') → va_S (LF a A B) H0 H1 locs1 → W p l e R s m args below meth c H1 locs1 cells slots Q (F0 m (pc + 3) ls (.int r :: rest))) : W p l e R s m args below meth c H locs cells slots Q (F0 m pc ls st0) := by
  have hin : ∀ q, RF2 B A q → LF a A B q := fun q h => h.elim (fun h => Or.inr (Or.inr h)) (fun h => Or.inr (Or.inl h))
  refine va_calli hr hS (fun q _ h => hin q h) (fun q h => hin q h) (fun v u t H1 locs1 ht hvm hw hB hz hk hS1 => ?_)
  subst hw
  obtain ⟨h1, -, h3⟩ := hB
  rw [ht] at h1
  have hs := (L_pS hP).kept (hk a (L_pS hP).lt (fun h => h.elim (L_notB hD) (L_notA hD)))
  exact kk H1 locs1 (L_P hs (P_r h1) (P_l h1)) (fr_D hD rfl) hS1
end LCALL
section LROWS
variable {p : Program} {l : Launch} {e : Env} {R : Room} {s : State} {m : MethodId} {args : Array Value} {below : List Frame} {meth : Method} {c : Code} {H H0 : Heap} {locs : List Loc} {cells slots : Nat} {Q : State → Prop}
variable {cc : ByteArray} {pc : Nat} {ls : Array Slot} {rest : List Value} {K : Kst} {A B : Nat → Nat} {σ τ : Sto}
variable {a u v : Nat}
theorem gflS_10 (hx : p.tables.exec = Jvm.exec) (hb : c.code = cc) (hg : ∀ w ∈ Tg, w.before args s = true) (hown : s.vm.findClass "LanguageServer" = some m.cls) (hK : RK K s) (hP : va_P K.1 vwCl (wLx K a u v A B σ τ) H) (hdg : decode cc pc = .ok (.getfield 10, 3)) (kk : W p l e R s m args below meth c H locs cells slots Q (F0 m (pc + 3) ls (.ref u :: rest))) : W p l e R s m args below meth c H locs cells slots Q (F0 m pc ls (.ref a :: rest)) :=
  va_get (C := "LanguageServer") (T := T_LS) (N := 2) (ci := 0) hx hb hg in_LS hown hK.1 hP 0 rfl rfl 0 (by decide) (hg _ wd_298) (fun _ h => h) rfl hdg kk
theorem gflA_19 (hx : p.tables.exec = Jvm.exec) (hb : c.code = cc) (hg : ∀ w ∈ Tg, w.before args s = true) (hown : s.vm.findClass "LanguageServer" = some m.cls) (hK : RK K s) (hP : va_P K.1 vwCl (wLx K a u v A B σ τ) H) (hdg : decode cc pc = .ok (.getfield 19, 3)) (kk : W p l e R s m args below meth c H locs cells slots Q (F0 m (pc + 3) ls (.ref (A 1) :: rest))) : W p l e R s m args below meth c H locs cells slots Q (F0 m pc ls (.ref (A 0) :: rest)) :=
  va_get (C := "LanguageServer$Reading") (T := T_Reading) (N := 8) (ci := 1) hx hb hg in_Reading hown hK.1 hP 1 rfl rfl 0 (by decide) (hg _ wd_270) (fun _ h => h) rfl hdg kk
theorem gflA_23 (hx : p.tables.exec = Jvm.exec) (hb : c.code = cc) (hg : ∀ w ∈ Tg, w.before args s = true) (hown : s.vm.findClass "LanguageServer" = some m.cls) (hK : RK K s) (hP : va_P K.1 vwCl (wLx K a u v A B σ τ) H) (hdg : decode cc pc = .ok (.getfield 23, 3)) (kk : W p l e R s m args below meth c H locs cells slots Q (F0 m (pc + 3) ls (.int (σ.1 1) :: rest))) : W p l e R s m args below meth c H locs cells slots Q (F0 m pc ls (.ref (A 1) :: rest)) :=
  va_get (C := "LanguageServer$Text") (T := T_Text) (N := 2) (ci := 2) hx hb hg in_Text hown hK.1 hP 2 rfl rfl 1 (by decide) (hg _ wd_45) (fun _ h => h) rfl hdg kk
theorem gflA_74 (hx : p.tables.exec = Jvm.exec) (hb : c.code = cc) (hg : ∀ w ∈ Tg, w.before args s = true) (hown : s.vm.findClass "LanguageServer" = some m.cls) (hK : RK K s) (hP : va_P K.1 vwCl (wLx K a u v A B σ τ) H) (hdg : decode cc pc = .ok (.getfield 74, 3)) (kk : W p l e R s m args below meth c H locs cells slots Q (F0 m (pc + 3) ls (.ref (A 2) :: rest))) : W p l e R s m args below meth c H locs cells slots Q (F0 m pc ls (.ref (A 1) :: rest)) :=
  va_get (C := "LanguageServer$Text") (T := T_Text) (N := 2) (ci := 2) hx hb hg in_Text hown hK.1 hP 2 rfl rfl 0 (by decide) (hg _ wd_43) (fun _ h => h) rfl hdg kk
theorem ralA_2 {i : Int32} (hx : p.tables.exec = Jvm.exec) (hb : c.code = cc) (hK : RK K s) (hP : va_P K.1 vwCl (wLx K a u v A B σ τ) H) (hi : vp_in i 240) (hdg : decode cc pc = .ok (.iaload, 1)) (kk : W p l e R s m args below meth c H locs cells slots Q (F0 m (pc + 1) ls (.int (σ.2.1 2 i.toNatClampNeg) :: rest))) : W p l e R s m args below meth c H locs cells slots Q (F0 m pc ls (.int i :: .ref (A 2) :: rest)) :=
  va_iald hx hb hK.1 hP 3 0 rfl rfl hi hdg kk
theorem gflA_81 (hx : p.tables.exec = Jvm.exec) (hb : c.code = cc) (hg : ∀ w ∈ Tg, w.before args s = true) (hown : s.vm.findClass "LanguageServer" = some m.cls) (hK : RK K s) (hP : va_P K.1 vwCl (wLx K a u v A B σ τ) H) (hdg : decode cc pc = .ok (.getfield 81, 3)) (kk : W p l e R s m args below meth c H locs cells slots Q (F0 m (pc + 3) ls (.ref (A 16) :: rest))) : W p l e R s m args below meth c H locs cells slots Q (F0 m pc ls (.ref (A 0) :: rest)) :=
  va_get (C := "LanguageServer$Reading") (T := T_Reading) (N := 8) (ci := 1) hx hb hg in_Reading hown hK.1 hP 1 rfl rfl 3 (by decide) (hg _ wd_276) (fun _ h => h) rfl hdg kk
theorem gflA_97 (hx : p.tables.exec = Jvm.exec) (hb : c.code = cc) (hg : ∀ w ∈ Tg, w.before args s = true) (hown : s.vm.findClass "LanguageServer" = some m.cls) (hK : RK K s) (hP : va_P K.1 vwCl (wLx K a u v A B σ τ) H) (hdg : decode cc pc = .ok (.getfield 97, 3)) (kk : W p l e R s m args below meth c H locs cells slots Q (F0 m (pc + 3) ls (.ref (A 3) :: rest))) : W p l e R s m args below meth c H locs cells slots Q (F0 m pc ls (.ref (A 0) :: rest)) :=
  va_get (C := "LanguageServer$Reading") (T := T_Reading) (N := 8) (ci := 1) hx hb hg in_Reading hown hK.1 hP 1 rfl rfl 1 (by decide) (hg _ wd_272) (fun _ h => h) rfl hdg kk
theorem gflA_107 (hx : p.tables.exec = Jvm.exec) (hb : c.code = cc) (hg : ∀ w ∈ Tg, w.before args s = true) (hown : s.vm.findClass "LanguageServer" = some m.cls) (hK : RK K s) (hP : va_P K.1 vwCl (wLx K a u v A B σ τ) H) (hdg : decode cc pc = .ok (.getfield 107, 3)) (kk : W p l e R s m args below meth c H locs cells slots Q (F0 m (pc + 3) ls (.ref (A 4) :: rest))) : W p l e R s m args below meth c H locs cells slots Q (F0 m pc ls (.ref (A 3) :: rest)) :=
  va_get (C := "LanguageServer$Tokens") (T := T_Tokens) (N := 5) (ci := 3) hx hb hg in_Tokens hown hK.1 hP 4 rfl rfl 0 (by decide) (hg _ wd_63) (fun _ h => h) rfl hdg kk
theorem ralA_4 {i : Int32} (hx : p.tables.exec = Jvm.exec) (hb : c.code = cc) (hK : RK K s) (hP : va_P K.1 vwCl (wLx K a u v A B σ τ) H) (hi : vp_in i 121) (hdg : decode cc pc = .ok (.iaload, 1)) (kk : W p l e R s m args below meth c H locs cells slots Q (F0 m (pc + 1) ls (.int (σ.2.1 4 i.toNatClampNeg) :: rest))) : W p l e R s m args below meth c H locs cells slots Q (F0 m pc ls (.int i :: .ref (A 4) :: rest)) :=
  va_iald hx hb hK.1 hP 5 0 rfl rfl hi hdg kk
theorem gflA_115 (hx : p.tables.exec = Jvm.exec) (hb : c.code = cc) (hg : ∀ w ∈ Tg, w.before args s = true) (hown : s.vm.findClass "LanguageServer" = some m.cls) (hK : RK K s) (hP : va_P K.1 vwCl (wLx K a u v A B σ τ) H) (hdg : decode cc pc = .ok (.getfield 115, 3)) (kk : W p l e R s m args below meth c H locs cells slots Q (F0 m (pc + 3) ls (.ref (A 8) :: rest))) : W p l e R s m args below meth c H locs cells slots Q (F0 m pc ls (.ref (A 0) :: rest)) :=
  va_get (C := "LanguageServer$Reading") (T := T_Reading) (N := 8) (ci := 1) hx hb hg in_Reading hown hK.1 hP 1 rfl rfl 2 (by decide) (hg _ wd_274) (fun _ h => h) rfl hdg kk
theorem gflA_119 (hx : p.tables.exec = Jvm.exec) (hb : c.code = cc) (hg : ∀ w ∈ Tg, w.before args s = true) (hown : s.vm.findClass "LanguageServer" = some m.cls) (hK : RK K s) (hP : va_P K.1 vwCl (wLx K a u v A B σ τ) H) (hdg : decode cc pc = .ok (.getfield 119, 3)) (kk : W p l e R s m args below meth c H locs cells slots Q (F0 m (pc + 3) ls (.ref (A 12) :: rest))) : W p l e R s m args below meth c H locs cells slots Q (F0 m pc ls (.ref (A 8) :: rest)) :=
  va_get (C := "LanguageServer$Outline") (T := T_Outline) (N := 10) (ci := 4) hx hb hg in_Outline hown hK.1 hP 9 rfl rfl 4 (by decide) (hg _ wd_111) (fun _ h => h) rfl hdg kk
theorem ralA_12 {i : Int32} (hx : p.tables.exec = Jvm.exec) (hb : c.code = cc) (hK : RK K s) (hP : va_P K.1 vwCl (wLx K a u v A B σ τ) H) (hi : vp_in i 121) (hdg : decode cc pc = .ok (.iaload, 1)) (kk : W p l e R s m args below meth c H locs cells slots Q (F0 m (pc + 1) ls (.int (σ.2.1 12 i.toNatClampNeg) :: rest))) : W p l e R s m args below meth c H locs cells slots Q (F0 m pc ls (.int i :: .ref (A 12) :: rest)) :=
  va_iald hx hb hK.1 hP 13 0 rfl rfl hi hdg kk
theorem gflA_143 (hx : p.tables.exec = Jvm.exec) (hb : c.code = cc) (hg : ∀ w ∈ Tg, w.before args s = true) (hown : s.vm.findClass "LanguageServer" = some m.cls) (hK : RK K s) (hP : va_P K.1 vwCl (wLx K a u v A B σ τ) H) (hdg : decode cc pc = .ok (.getfield 143, 3)) (kk : W p l e R s m args below meth c H locs cells slots Q (F0 m (pc + 3) ls (.ref (A 15) :: rest))) : W p l e R s m args below meth c H locs cells slots Q (F0 m pc ls (.ref (A 8) :: rest)) :=
  va_get (C := "LanguageServer$Outline") (T := T_Outline) (N := 10) (ci := 4) hx hb hg in_Outline hown hK.1 hP 9 rfl rfl 7 (by decide) (hg _ wd_117) (fun _ h => h) rfl hdg kk
theorem ralA_15 {i : Int32} (hx : p.tables.exec = Jvm.exec) (hb : c.code = cc) (hK : RK K s) (hP : va_P K.1 vwCl (wLx K a u v A B σ τ) H) (hi : vp_in i 121) (hdg : decode cc pc = .ok (.iaload, 1)) (kk : W p l e R s m args below meth c H locs cells slots Q (F0 m (pc + 1) ls (.int (σ.2.1 15 i.toNatClampNeg) :: rest))) : W p l e R s m args below meth c H locs cells slots Q (F0 m pc ls (.int i :: .ref (A 15) :: rest)) :=
  va_iald hx hb hK.1 hP 16 0 rfl rfl hi hdg kk
theorem gflA_151 (hx : p.tables.exec = Jvm.exec) (hb : c.code = cc) (hg : ∀ w ∈ Tg, w.before args s = true) (hown : s.vm.findClass "LanguageServer" = some m.cls) (hK : RK K s) (hP : va_P K.1 vwCl (wLx K a u v A B σ τ) H) (hdg : decode cc pc = .ok (.getfield 151, 3)) (kk : W p l e R s m args below meth c H locs cells slots Q (F0 m (pc + 3) ls (.ref (A 5) :: rest))) : W p l e R s m args below meth c H locs cells slots Q (F0 m pc ls (.ref (A 3) :: rest)) :=
  va_get (C := "LanguageServer$Tokens") (T := T_Tokens) (N := 5) (ci := 3) hx hb hg in_Tokens hown hK.1 hP 4 rfl rfl 1 (by decide) (hg _ wd_68) (fun _ h => h) rfl hdg kk
theorem ralA_5 {i : Int32} (hx : p.tables.exec = Jvm.exec) (hb : c.code = cc) (hK : RK K s) (hP : va_P K.1 vwCl (wLx K a u v A B σ τ) H) (hi : vp_in i 121) (hdg : decode cc pc = .ok (.iaload, 1)) (kk : W p l e R s m args below meth c H locs cells slots Q (F0 m (pc + 1) ls (.int (σ.2.1 5 i.toNatClampNeg) :: rest))) : W p l e R s m args below meth c H locs cells slots Q (F0 m pc ls (.int i :: .ref (A 5) :: rest)) :=
  va_iald hx hb hK.1 hP 6 0 rfl rfl hi hdg kk
theorem gflS_16 (hx : p.tables.exec = Jvm.exec) (hb : c.code = cc) (hg : ∀ w ∈ Tg, w.before args s = true) (hown : s.vm.findClass "LanguageServer" = some m.cls) (hK : RK K s) (hP : va_P K.1 vwCl (wLx K a u v A B σ τ) H) (hdg : decode cc pc = .ok (.getfield 16, 3)) (kk : W p l e R s m args below meth c H locs cells slots Q (F0 m (pc + 3) ls (.ref v :: rest))) : W p l e R s m args below meth c H locs cells slots Q (F0 m pc ls (.ref a :: rest)) :=
  va_get (C := "LanguageServer") (T := T_LS) (N := 2) (ci := 0) hx hb hg in_LS hown hK.1 hP 0 rfl rfl 1 (by decide) (hg _ wd_299) (fun _ h => h) rfl hdg kk
theorem pfl_10 {w : Nat} (hx : p.tables.exec = Jvm.exec) (hb : c.code = cc) (hg : ∀ w ∈ Tg, w.before args s = true) (hown : s.vm.findClass "LanguageServer" = some m.cls) (hK : RK K s) (hP : va_P K.1 vwCl (wLx K a u v A B σ τ) H) (hD : va_D (LF a A B) (wLx K a u v A B σ τ)) (hS : va_S (LF a A B) H0 H locs) (hdg : decode cc pc = .ok (.putfield 10, 3)) (kk : ∀ (H1 : Heap) (locs1 : List Loc), va_P K.1 vwCl (wLx K a w v A B σ τ) H1 → va_D (LF a A B) (wLx K a w v A B σ τ) → va_S (LF a A B) H0 H1 locs1 → W p l e R s m args below meth c H1 locs1 cells slots Q (F0 m (pc + 3) ls rest)) : W p l e R s m args below meth c H locs cells slots Q (F0 m pc ls (.ref w :: .ref a :: rest)) :=
  va_put (ty := .object "LanguageServer$Reading") (C := "LanguageServer") (T := T_LS) (N := 2) (ci := 0) hx hb hg in_LS t_LS t_LS_ok n_LS hown hK.1 hP hD hS 0 rfl rfl 0 (by decide) (hg _ wd_298) (fun _ h => h) rfl (by decide +kernel) rfl rfl (Nat.le_of_ble_eq_true rfl) hdg kk
theorem pfl_16 {w : Nat} (hx : p.tables.exec = Jvm.exec) (hb : c.code = cc) (hg : ∀ w ∈ Tg, w.before args s = true) (hown : s.vm.findClass "LanguageServer" = some m.cls) (hK : RK K s) (hP : va_P K.1 vwCl (wLx K a u v A B σ τ) H) (hD : va_D (LF a A B) (wLx K a u v A B σ τ)) (hS : va_S (LF a A B) H0 H locs) (hdg : decode cc pc = .ok (.putfield 16, 3)) (kk : ∀ (H1 : Heap) (locs1 : List Loc), va_P K.1 vwCl (wLx K a u w A B σ τ) H1 → va_D (LF a A B) (wLx K a u w A B σ τ) → va_S (LF a A B) H0 H1 locs1 → W p l e R s m args below meth c H1 locs1 cells slots Q (F0 m (pc + 3) ls rest)) : W p l e R s m args below meth c H locs cells slots Q (F0 m pc ls (.ref w :: .ref a :: rest)) :=
  va_put (ty := .object "LanguageServer$Reading") (C := "LanguageServer") (T := T_LS) (N := 2) (ci := 0) hx hb hg in_LS t_LS t_LS_ok n_LS hown hK.1 hP hD hS 0 rfl rfl 1 (by decide) (hg _ wd_299) (fun _ h => h) rfl (by decide +kernel) rfl rfl (Nat.le_of_ble_eq_true rfl) hdg kk
theorem gflA_167 (hx : p.tables.exec = Jvm.exec) (hb : c.code = cc) (hg : ∀ w ∈ Tg, w.before args s = true) (hown : s.vm.findClass "LanguageServer" = some m.cls) (hK : RK K s) (hP : va_P K.1 vwCl (wLx K a u v A B σ τ) H) (hdg : decode cc pc = .ok (.getfield 167, 3)) (kk : W p l e R s m args below meth c H locs cells slots Q (F0 m (pc + 3) ls (.int (σ.1 3) :: rest))) : W p l e R s m args below meth c H locs cells slots Q (F0 m pc ls (.ref (A 8) :: rest)) :=
  va_get (C := "LanguageServer$Outline") (T := T_Outline) (N := 10) (ci := 4) hx hb hg in_Outline hown hK.1 hP 9 rfl rfl 8 (by decide) (hg _ wd_122) (fun _ h => h) rfl hdg kk
theorem gflA_164 (hx : p.tables.exec = Jvm.exec) (hb : c.code = cc) (hg : ∀ w ∈ Tg, w.before args s = true) (hown : s.vm.findClass "LanguageServer" = some m.cls) (hK : RK K s) (hP : va_P K.1 vwCl (wLx K a u v A B σ τ) H) (hdg : decode cc pc = .ok (.getfield 164, 3)) (kk : W p l e R s m args below meth c H locs cells slots Q (F0 m (pc + 3) ls (.int (σ.1 4) :: rest))) : W p l e R s m args below meth c H locs cells slots Q (F0 m pc ls (.ref (A 8) :: rest)) :=
  va_get (C := "LanguageServer$Outline") (T := T_Outline) (N := 10) (ci := 4) hx hb hg in_Outline hown hK.1 hP 9 rfl rfl 9 (by decide) (hg _ wd_125) (fun _ h => h) rfl hdg kk
end LROWS
