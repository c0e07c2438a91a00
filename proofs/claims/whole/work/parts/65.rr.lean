
abbrev RRQi (K : Kst) (A B : Nat → Nat) (r : Int32) (σ' τ' : Sto) := va_Qi (S := Unit) (fun v _ => v = r) (fun _ t => RB2 K A B σ' τ' t) (RF2 A B)
abbrev RRQv (K : Kst) (A B : Nat → Nat) (σ' τ' : Sto) := va_Qv (S := Unit) (fun _ => True) (fun _ t => RB2 K A B σ' τ' t) (RF2 A B)
theorem RR_blind {K : Kst} {A B : Nat → Nat} {σ τ : Sto} {As : List Value} : FrameBlind (va_Pc As (RB2 K A B σ τ)) := fun _ _ _ _ q => ⟨q.1, q.2.1, RK.same rfl q.2.2.1, q.2.2.2⟩
section RRB
variable {p : Program} {l : Launch} {e : Env} {R : Room} {s : State} {m : MethodId} {args : Array Value} {below : List Frame} {meth : Method} {c : Code} {H H0 : Heap} {locs : List Loc} {cells slots : Nat} {Q : State → Prop}
variable {cc : ByteArray} {pc : Nat} {ls : Array Slot} {rest st0 : List Value} {a : Array Value} {K : Kst} {A B : Nat → Nat} {σ σ' τ τ' : Sto}
theorem RR_callv (hr : va_Run p l e R s m args below meth c H locs cells slots 0 0 (F0 m pc ls st0) rest (RRQv K A B σ' τ' a) (RF2 A B)) (hS : va_S (RF2 A B) H0 H locs)
    (kk : ∀ (H1 : Heap) (locs1 : List Loc), va_P K.1 vwCl (wR K A σ' ++ wR K B τ') H1 → va_D (RF2 A B) (wR K A σ' ++ wR K B τ') → va_S (RF2 A B) H0 H1 locs1 → W p l e R s m args below meth c H1 locs1 cells slots Q (F0 m (pc + 3) ls rest)) : W p l e R s m args below meth c H locs cells slots Q (F0 m pc ls st0) := by
  refine va_callv hr hS (fun q _ h => h) (fun q h => h) (fun u t H1 locs1 ht hvm hw hB hz hk hS1 => ?_)
  obtain ⟨h1, -, h3⟩ := hB
  rw [ht] at h1
  exact kk H1 locs1 h1 h3 hS1
theorem RR_pv_1 {As : List Value} (hK : RK K s) (hP : va_P K.1 vwCl (wR K A σ ++ wR K B τ) H) (hD : va_D (RF2 A B) (wR K A σ ++ wR K B τ)) : PreV s H "LanguageServer$Text" (A 1) (va_Pc (.ref (A 1) :: As) (RB2 K A B σ τ)) As :=
  ⟨RR_blind, va_recv hK.1 hP (ci := 2) (q := ("LanguageServer$Text", T_Text, 2)) (q0 := 1) rfl rfl, fun U hU hW => ⟨rfl, by rw [hU]; exact hP, RK.warm hW hK, hD⟩⟩
end RRB
section RROWS
variable {p : Program} {l : Launch} {e : Env} {R : Room} {s : State} {m : MethodId} {args : Array Value} {below : List Frame} {meth : Method} {c : Code} {H H0 : Heap} {locs : List Loc} {cells slots : Nat} {Q : State → Prop}
variable {cc : ByteArray} {pc : Nat} {ls : Array Slot} {rest : List Value} {K : Kst} {A B : Nat → Nat} {σ τ : Sto}
theorem gfRRB_Text_9 (hx : p.tables.exec = Jvm.exec) (hb : c.code = cc) (hg : ∀ w ∈ Tg, w.before args s = true) (hown : s.vm.findClass "LanguageServer$Text" = some m.cls) (hK : RK K s) (hP : va_P K.1 vwCl (wR K A σ ++ wR K B τ) H) (hdg : decode cc pc = .ok (.getfield 9, 3)) (kk : W p l e R s m args below meth c H locs cells slots Q (F0 m (pc + 3) ls (.ref (B 2) :: rest))) : W p l e R s m args below meth c H locs cells slots Q (F0 m pc ls (.ref (B 1) :: rest)) :=
  va_get (C := "LanguageServer$Text") (T := T_Text) (N := 2) (ci := 2) hx hb hg in_Text hown hK.1 hP 30 rfl rfl 0 (by decide) (hg _ wd_41) (fun _ h => h) rfl hdg kk
theorem raRRB_2 {i : Int32} (hx : p.tables.exec = Jvm.exec) (hb : c.code = cc) (hK : RK K s) (hP : va_P K.1 vwCl (wR K A σ ++ wR K B τ) H) (hi : vp_in i 240) (hdg : decode cc pc = .ok (.iaload, 1)) (kk : W p l e R s m args below meth c H locs cells slots Q (F0 m (pc + 1) ls (.int (τ.2.1 2 i.toNatClampNeg) :: rest))) : W p l e R s m args below meth c H locs cells slots Q (F0 m pc ls (.int i :: .ref (B 2) :: rest)) :=
  va_iald hx hb hK.1 hP 31 0 rfl rfl hi hdg kk
theorem gfRR_Reading_12 (hx : p.tables.exec = Jvm.exec) (hb : c.code = cc) (hg : ∀ w ∈ Tg, w.before args s = true) (hown : s.vm.findClass "LanguageServer$Reading" = some m.cls) (hK : RK K s) (hP : va_P K.1 vwCl (wR K A σ ++ wR K B τ) H) (hdg : decode cc pc = .ok (.getfield 12, 3)) (kk : W p l e R s m args below meth c H locs cells slots Q (F0 m (pc + 3) ls (.ref (A 1) :: rest))) : W p l e R s m args below meth c H locs cells slots Q (F0 m pc ls (.ref (A 0) :: rest)) :=
  va_get (C := "LanguageServer$Reading") (T := T_Reading) (N := 8) (ci := 1) hx hb hg in_Reading hown hK.1 hP 0 rfl rfl 0 (by decide) (hg _ wd_269) (fun _ h => h) rfl hdg kk
theorem pfRR_Reading_98 {x : Int32} (hx : p.tables.exec = Jvm.exec) (hb : c.code = cc) (hg : ∀ w ∈ Tg, w.before args s = true) (hown : s.vm.findClass "LanguageServer$Reading" = some m.cls) (hK : RK K s) (hP : va_P K.1 vwCl (wR K A σ ++ wR K B τ) H) (hD : va_D (RF2 A B) (wR K A σ ++ wR K B τ)) (hS : va_S (RF2 A B) H0 H locs) (hdg : decode cc pc = .ok (.putfield 98, 3)) (kk : ∀ (H1 : Heap) (locs1 : List Loc), va_P K.1 vwCl (wR K A (sS σ 1 x) ++ wR K B τ) H1 → va_D (RF2 A B) (wR K A (sS σ 1 x) ++ wR K B τ) → va_S (RF2 A B) H0 H1 locs1 → W p l e R s m args below meth c H1 locs1 cells slots Q (F0 m (pc + 3) ls rest)) : W p l e R s m args below meth c H locs cells slots Q (F0 m pc ls (.int x :: .ref (A 1) :: rest)) :=
  va_put (ty := .int) (C := "LanguageServer$Text") (T := T_Text) (N := 2) (ci := 2) hx hb hg in_Text t_Text t_Text_ok n_Text hown hK.1 hP hD hS 1 rfl rfl 1 (by decide) (hg _ wd_47) (fun _ h => h) rfl (by decide +kernel) rfl rfl (Nat.le_of_ble_eq_true rfl) hdg kk
theorem gfRRB_Reading_30 (hx : p.tables.exec = Jvm.exec) (hb : c.code = cc) (hg : ∀ w ∈ Tg, w.before args s = true) (hown : s.vm.findClass "LanguageServer$Reading" = some m.cls) (hK : RK K s) (hP : va_P K.1 vwCl (wR K A σ ++ wR K B τ) H) (hdg : decode cc pc = .ok (.getfield 30, 3)) (kk : W p l e R s m args below meth c H locs cells slots Q (F0 m (pc + 3) ls (.ref (B 8) :: rest))) : W p l e R s m args below meth c H locs cells slots Q (F0 m pc ls (.ref (B 0) :: rest)) :=
  va_get (C := "LanguageServer$Reading") (T := T_Reading) (N := 8) (ci := 1) hx hb hg in_Reading hown hK.1 hP 29 rfl rfl 2 (by decide) (hg _ wd_273) (fun _ h => h) rfl hdg kk
theorem gfRRB_Reading_84 (hx : p.tables.exec = Jvm.exec) (hb : c.code = cc) (hg : ∀ w ∈ Tg, w.before args s = true) (hown : s.vm.findClass "LanguageServer$Reading" = some m.cls) (hK : RK K s) (hP : va_P K.1 vwCl (wR K A σ ++ wR K B τ) H) (hdg : decode cc pc = .ok (.getfield 84, 3)) (kk : W p l e R s m args below meth c H locs cells slots Q (F0 m (pc + 3) ls (.int (τ.1 3) :: rest))) : W p l e R s m args below meth c H locs cells slots Q (F0 m pc ls (.ref (B 8) :: rest)) :=
  va_get (C := "LanguageServer$Outline") (T := T_Outline) (N := 10) (ci := 4) hx hb hg in_Outline hown hK.1 hP 37 rfl rfl 8 (by decide) (hg _ wd_121) (fun _ h => h) rfl hdg kk
theorem gfRRB_Reading_12 (hx : p.tables.exec = Jvm.exec) (hb : c.code = cc) (hg : ∀ w ∈ Tg, w.before args s = true) (hown : s.vm.findClass "LanguageServer$Reading" = some m.cls) (hK : RK K s) (hP : va_P K.1 vwCl (wR K A σ ++ wR K B τ) H) (hdg : decode cc pc = .ok (.getfield 12, 3)) (kk : W p l e R s m args below meth c H locs cells slots Q (F0 m (pc + 3) ls (.ref (B 1) :: rest))) : W p l e R s m args below meth c H locs cells slots Q (F0 m pc ls (.ref (B 0) :: rest)) :=
  va_get (C := "LanguageServer$Reading") (T := T_Reading) (N := 8) (ci := 1) hx hb hg in_Reading hown hK.1 hP 29 rfl rfl 0 (by decide) (hg _ wd_269) (fun _ h => h) rfl hdg kk
theorem gfRRB_Reading_98 (hx : p.tables.exec = Jvm.exec) (hb : c.code = cc) (hg : ∀ w ∈ Tg, w.before args s = true) (hown : s.vm.findClass "LanguageServer$Reading" = some m.cls) (hK : RK K s) (hP : va_P K.1 vwCl (wR K A σ ++ wR K B τ) H) (hdg : decode cc pc = .ok (.getfield 98, 3)) (kk : W p l e R s m args below meth c H locs cells slots Q (F0 m (pc + 3) ls (.int (τ.1 1) :: rest))) : W p l e R s m args below meth c H locs cells slots Q (F0 m pc ls (.ref (B 1) :: rest)) :=
  va_get (C := "LanguageServer$Text") (T := T_Text) (N := 2) (ci := 2) hx hb hg in_Text hown hK.1 hP 30 rfl rfl 1 (by decide) (hg _ wd_47) (fun _ h => h) rfl hdg kk
theorem gfRRB_Reading_95 (hx : p.tables.exec = Jvm.exec) (hb : c.code = cc) (hg : ∀ w ∈ Tg, w.before args s = true) (hown : s.vm.findClass "LanguageServer$Reading" = some m.cls) (hK : RK K s) (hP : va_P K.1 vwCl (wR K A σ ++ wR K B τ) H) (hdg : decode cc pc = .ok (.getfield 95, 3)) (kk : W p l e R s m args below meth c H locs cells slots Q (F0 m (pc + 3) ls (.ref (B 11) :: rest))) : W p l e R s m args below meth c H locs cells slots Q (F0 m pc ls (.ref (B 8) :: rest)) :=
  va_get (C := "LanguageServer$Outline") (T := T_Outline) (N := 10) (ci := 4) hx hb hg in_Outline hown hK.1 hP 37 rfl rfl 3 (by decide) (hg _ wd_106) (fun _ h => h) rfl hdg kk
theorem raRRB_11 {i : Int32} (hx : p.tables.exec = Jvm.exec) (hb : c.code = cc) (hK : RK K s) (hP : va_P K.1 vwCl (wR K A σ ++ wR K B τ) H) (hi : vp_in i 121) (hdg : decode cc pc = .ok (.iaload, 1)) (kk : W p l e R s m args below meth c H locs cells slots Q (F0 m (pc + 1) ls (.int (τ.2.1 11 i.toNatClampNeg) :: rest))) : W p l e R s m args below meth c H locs cells slots Q (F0 m pc ls (.int i :: .ref (B 11) :: rest)) :=
  va_iald hx hb hK.1 hP 40 0 rfl rfl hi hdg kk
theorem gfRRB_Reading_21 (hx : p.tables.exec = Jvm.exec) (hb : c.code = cc) (hg : ∀ w ∈ Tg, w.before args s = true) (hown : s.vm.findClass "LanguageServer$Reading" = some m.cls) (hK : RK K s) (hP : va_P K.1 vwCl (wR K A σ ++ wR K B τ) H) (hdg : decode cc pc = .ok (.getfield 21, 3)) (kk : W p l e R s m args below meth c H locs cells slots Q (F0 m (pc + 3) ls (.ref (B 3) :: rest))) : W p l e R s m args below meth c H locs cells slots Q (F0 m pc ls (.ref (B 0) :: rest)) :=
  va_get (C := "LanguageServer$Reading") (T := T_Reading) (N := 8) (ci := 1) hx hb hg in_Reading hown hK.1 hP 29 rfl rfl 1 (by decide) (hg _ wd_271) (fun _ h => h) rfl hdg kk
theorem gfRRB_Reading_88 (hx : p.tables.exec = Jvm.exec) (hb : c.code = cc) (hg : ∀ w ∈ Tg, w.before args s = true) (hown : s.vm.findClass "LanguageServer$Reading" = some m.cls) (hK : RK K s) (hP : va_P K.1 vwCl (wR K A σ ++ wR K B τ) H) (hdg : decode cc pc = .ok (.getfield 88, 3)) (kk : W p l e R s m args below meth c H locs cells slots Q (F0 m (pc + 3) ls (.ref (B 4) :: rest))) : W p l e R s m args below meth c H locs cells slots Q (F0 m pc ls (.ref (B 3) :: rest)) :=
  va_get (C := "LanguageServer$Tokens") (T := T_Tokens) (N := 5) (ci := 3) hx hb hg in_Tokens hown hK.1 hP 32 rfl rfl 0 (by decide) (hg _ wd_62) (fun _ h => h) rfl hdg kk
theorem raRRB_4 {i : Int32} (hx : p.tables.exec = Jvm.exec) (hb : c.code = cc) (hK : RK K s) (hP : va_P K.1 vwCl (wR K A σ ++ wR K B τ) H) (hi : vp_in i 121) (hdg : decode cc pc = .ok (.iaload, 1)) (kk : W p l e R s m args below meth c H locs cells slots Q (F0 m (pc + 1) ls (.int (τ.2.1 4 i.toNatClampNeg) :: rest))) : W p l e R s m args below meth c H locs cells slots Q (F0 m pc ls (.int i :: .ref (B 4) :: rest)) :=
  va_iald hx hb hK.1 hP 33 0 rfl rfl hi hdg kk
theorem gfRRB_Reading_92 (hx : p.tables.exec = Jvm.exec) (hb : c.code = cc) (hg : ∀ w ∈ Tg, w.before args s = true) (hown : s.vm.findClass "LanguageServer$Reading" = some m.cls) (hK : RK K s) (hP : va_P K.1 vwCl (wR K A σ ++ wR K B τ) H) (hdg : decode cc pc = .ok (.getfield 92, 3)) (kk : W p l e R s m args below meth c H locs cells slots Q (F0 m (pc + 3) ls (.ref (B 5) :: rest))) : W p l e R s m args below meth c H locs cells slots Q (F0 m pc ls (.ref (B 3) :: rest)) :=
  va_get (C := "LanguageServer$Tokens") (T := T_Tokens) (N := 5) (ci := 3) hx hb hg in_Tokens hown hK.1 hP 32 rfl rfl 1 (by decide) (hg _ wd_67) (fun _ h => h) rfl hdg kk
theorem raRRB_5 {i : Int32} (hx : p.tables.exec = Jvm.exec) (hb : c.code = cc) (hK : RK K s) (hP : va_P K.1 vwCl (wR K A σ ++ wR K B τ) H) (hi : vp_in i 121) (hdg : decode cc pc = .ok (.iaload, 1)) (kk : W p l e R s m args below meth c H locs cells slots Q (F0 m (pc + 1) ls (.int (τ.2.1 5 i.toNatClampNeg) :: rest))) : W p l e R s m args below meth c H locs cells slots Q (F0 m pc ls (.int i :: .ref (B 5) :: rest)) :=
  va_iald hx hb hK.1 hP 34 0 rfl rfl hi hdg kk
theorem gfRR_Reading_30 (hx : p.tables.exec = Jvm.exec) (hb : c.code = cc) (hg : ∀ w ∈ Tg, w.before args s = true) (hown : s.vm.findClass "LanguageServer$Reading" = some m.cls) (hK : RK K s) (hP : va_P K.1 vwCl (wR K A σ ++ wR K B τ) H) (hdg : decode cc pc = .ok (.getfield 30, 3)) (kk : W p l e R s m args below meth c H locs cells slots Q (F0 m (pc + 3) ls (.ref (A 8) :: rest))) : W p l e R s m args below meth c H locs cells slots Q (F0 m pc ls (.ref (A 0) :: rest)) :=
  va_get (C := "LanguageServer$Reading") (T := T_Reading) (N := 8) (ci := 1) hx hb hg in_Reading hown hK.1 hP 0 rfl rfl 2 (by decide) (hg _ wd_273) (fun _ h => h) rfl hdg kk
theorem gfRR_Reading_95 (hx : p.tables.exec = Jvm.exec) (hb : c.code = cc) (hg : ∀ w ∈ Tg, w.before args s = true) (hown : s.vm.findClass "LanguageServer$Reading" = some m.cls) (hK : RK K s) (hP : va_P K.1 vwCl (wR K A σ ++ wR K B τ) H) (hdg : decode cc pc = .ok (.getfield 95, 3)) (kk : W p l e R s m args below meth c H locs cells slots Q (F0 m (pc + 3) ls (.ref (A 11) :: rest))) : W p l e R s m args below meth c H locs cells slots Q (F0 m pc ls (.ref (A 8) :: rest)) :=
  va_get (C := "LanguageServer$Outline") (T := T_Outline) (N := 10) (ci := 4) hx hb hg in_Outline hown hK.1 hP 8 rfl rfl 3 (by decide) (hg _ wd_106) (fun _ h => h) rfl hdg kk
theorem raRR_11 {i : Int32} (hx : p.tables.exec = Jvm.exec) (hb : c.code = cc) (hK : RK K s) (hP : va_P K.1 vwCl (wR K A σ ++ wR K B τ) H) (hi : vp_in i 121) (hdg : decode cc pc = .ok (.iaload, 1)) (kk : W p l e R s m args below meth c H locs cells slots Q (F0 m (pc + 1) ls (.int (σ.2.1 11 i.toNatClampNeg) :: rest))) : W p l e R s m args below meth c H locs cells slots Q (F0 m pc ls (.int i :: .ref (A 11) :: rest)) :=
  va_iald hx hb hK.1 hP 11 0 rfl rfl hi hdg kk
theorem gfRR_Reading_37 (hx : p.tables.exec = Jvm.exec) (hb : c.code = cc) (hg : ∀ w ∈ Tg, w.before args s = true) (hown : s.vm.findClass "LanguageServer$Reading" = some m.cls) (hK : RK K s) (hP : va_P K.1 vwCl (wR K A σ ++ wR K B τ) H) (hdg : decode cc pc = .ok (.getfield 37, 3)) (kk : W p l e R s m args below meth c H locs cells slots Q (F0 m (pc + 3) ls (.ref (A 16) :: rest))) : W p l e R s m args below meth c H locs cells slots Q (F0 m pc ls (.ref (A 0) :: rest)) :=
  va_get (C := "LanguageServer$Reading") (T := T_Reading) (N := 8) (ci := 1) hx hb hg in_Reading hown hK.1 hP 0 rfl rfl 3 (by decide) (hg _ wd_275) (fun _ h => h) rfl hdg kk
theorem gfRRB_Reading_37 (hx : p.tables.exec = Jvm.exec) (hb : c.code = cc) (hg : ∀ w ∈ Tg, w.before args s = true) (hown : s.vm.findClass "LanguageServer$Reading" = some m.cls) (hK : RK K s) (hP : va_P K.1 vwCl (wR K A σ ++ wR K B τ) H) (hdg : decode cc pc = .ok (.getfield 37, 3)) (kk : W p l e R s m args below meth c H locs cells slots Q (F0 m (pc + 3) ls (.ref (B 16) :: rest))) : W p l e R s m args below meth c H locs cells slots Q (F0 m pc ls (.ref (B 0) :: rest)) :=
  va_get (C := "LanguageServer$Reading") (T := T_Reading) (N := 8) (ci := 1) hx hb hg in_Reading hown hK.1 hP 29 rfl rfl 3 (by decide) (hg _ wd_275) (fun _ h => h) rfl hdg kk
theorem gfRR_Reading_84 (hx : p.tables.exec = Jvm.exec) (hb : c.code = cc) (hg : ∀ w ∈ Tg, w.before args s = true) (hown : s.vm.findClass "LanguageServer$Reading" = some m.cls) (hK : RK K s) (hP : va_P K.1 vwCl (wR K A σ ++ wR K B τ) H) (hdg : decode cc pc = .ok (.getfield 84, 3)) (kk : W p l e R s m args below meth c H locs cells slots Q (F0 m (pc + 3) ls (.int (σ.1 3) :: rest))) : W p l e R s m args below meth c H locs cells slots Q (F0 m pc ls (.ref (A 8) :: rest)) :=
  va_get (C := "LanguageServer$Outline") (T := T_Outline) (N := 10) (ci := 4) hx hb hg in_Outline hown hK.1 hP 8 rfl rfl 8 (by decide) (hg _ wd_121) (fun _ h => h) rfl hdg kk
end RROWS
def p_Text_addPart_L3 (τ : Sto) (x2 : Int32) (x3 : Int32) : Nat → Sto → Int32 → Option Sto
  | 0, _, _ => none
  | n + 1, σ, x4 =>
    (if x3 ≤ x4 then
        some σ
      else
        if inR x4 240 then bd1 (p_Text_add σ (τ.2.1 2 x4.toNatClampNeg)) fun σ_17 =>
        p_Text_addPart_L3 τ x2 x3 n σ_17 (x4 + 1) else none)
def p_Text_addPart (σ : Sto) (τ : Sto) (x2 : Int32) (x3 : Int32) : Option Sto :=
  p_Text_addPart_L3 τ x2 x3 FU σ x2
abbrev w_Text_addPart : List Cond := Cond.code y_Text_addPart b_Text_addPart 5 none :: Tg
abbrev r_Text_addPart : Room := { frames := 1, cells := 0, slots := 0, locals := 21 }
theorem dv_Text_addPart : y_Text_addPart.cls = "LanguageServer$Text" ∧ y_Text_addPart.cls ≠ "java/lang/invoke/MethodHandle" ∧ y_Text_addPart.cls ≠ "java/lang/invoke/VarHandle" ∧ (parseMethodDescriptor y_Text_addPart.desc).map (fun d => d.parameters.length) = some 3 := by decide +kernel
set_option maxHeartbeats 4000000 in
set_option maxRecDepth 100000 in
theorem c_Text_addPart (l : Launch) (K : Kst) (A B : Nat → Nat) {σ τ : Sto} {x2 : Int32} {x3 : Int32} {ss : Sto} (h : p_Text_addPart σ τ x2 x3 = some ss) : Met l y_Text_addPart w_Text_addPart r_Text_addPart (va_Pc [.ref (A 1), .ref (B 1), .int x2, .int x3] (RB2 K A B σ τ)) (RRQv K A B ss τ) 0 0 (RF2 A B) := by
  refine Met.ofW (cc := b_Text_addPart) (maxL := 5) (ret := none) (by decide) rfl ?_
  intro p e s m args below meth c s₁ Bd hml hv
  obtain ⟨rfl, hP, hK, hD⟩ := hv
  have hx := Bd.exec
  have hb := Bd.bytes
  have hr := Bd.returns
  have hts := atoms_spec (ws := w_Text_addPart) Bd.pre
  have hg : ∀ w ∈ Tg, w.before _ s = true := fun w q => hts w (List.mem_cons_of_mem _ q)
  have hown : s.vm.findClass "LanguageServer$Text" = some m.cls := findClass_of_methodNamed Bd.named
  have hlocks := Bd.notSynchronized
  have hS : va_S (RF2 A B) s.heap s.heap [] := va_S.rf
  have hl := lv_entry ([.ref (A 1), .ref (B 1), .int x2, .int x3]) (n := 5) (Nat.le_of_ble_eq_true rfl)
  rw [lg_entry_eq]
  generalize (lg_sl ([.ref (A 1), .ref (B 1), .int x2, .int x3]) ++ List.replicate (5 - (lg_sl ([.ref (A 1), .ref (B 1), .int x2, .int x3])).length) Slot.unset).toArray = ls at hl ⊢
  have hl : lv_has ls 5 [(0, .ref (A 1)), (1, .ref (B 1)), (2, .int x2), (3, .int x3)] := hl
  generalize hargs : ([.ref (A 1), .ref (B 1), .int x2, .int x3] : List Value).toArray = args at hg hts ⊢
  obtain ⟨Q, hQ⟩ : ∃ Q, Q = MQ below (RRQv K A B ss τ) args s 0 0 (RF2 A B) := ⟨_, rfl⟩
  rw [← hQ]
  have hRet : ∀ (σ : Sto), some σ = some ss → ∀ (H : Heap) (locs : List Loc), va_P K.1 vwCl (wR K A σ ++ wR K B τ) H → va_D (RF2 A B) (wR K A σ ++ wR K B τ) → va_S (RF2 A B) s.heap H locs → ∀ (pc : Nat) (ls : Array Slot), decode b_Text_addPart pc = .ok (.return_, 1) → W p l e (headSpec w_Text_addPart r_Text_addPart).room s m args below meth c H locs 0 0 Q (F0 m pc ls []) := by
    intro σ h H locs hP hD hS pc ls hd
    cases h
    subst hQ
    exact W.vret hx hb hr (fun t ht hW => ⟨⟨(), rfl, trivial, by rw [ht]; exact hP, RK.warm hW hK, hD⟩, hS.F ht⟩) hS.2.2 hd
  clear hQ
  unfold p_Text_addPart at h
  have L_3 : ∀ (n : Nat) (σ : Sto) (x4 : Int32), p_Text_addPart_L3 τ x2 x3 n σ x4 = some ss → ∀ (H : Heap) (locs : List Loc), va_P K.1 vwCl (wR K A σ ++ wR K B τ) H → va_D (RF2 A B) (wR K A σ ++ wR K B τ) → va_S (RF2 A B) s.heap H locs → ∀ ls : Array Slot, lv_has ls 5 [(0, .ref (A 1)), (1, .ref (B 1)), (3, .int x3), (4, .int x4)] → W p l e (headSpec w_Text_addPart r_Text_addPart).room s m args below meth c H locs 0 0 Q (F0 m 3 ls []) := by
    intro n
    induction n with
    | zero => intro _ _ h; cases h
    | succ n ih =>
      intro σ x4 h H locs hP hD hS ls hl
      rw [p_Text_addPart_L3] at h
      refine lv_iload hx hb d_Text_addPart_3 (lv_at hl 3 rfl) ?_
      refine lv_iload_n hx hb d_Text_addPart_5 rfl (lv_at hl 2 rfl) ?_
      refine lv_icmp_ge (tgt := 26) hx hb d_Text_addPart_6 (by decide) (fun c_6 => ?_) (fun c_6 => ?_)
      · replace h := itp c_6 h
        exact hRet _ h _ _ hP hD hS _ _ d_Text_addPart_26
      · replace h := itf c_6 h
        refine lv_aload_n hx hb d_Text_addPart_9 rfl (lv_at hl 0 rfl) ?_
        refine lv_aload_n hx hb d_Text_addPart_10 rfl (lv_at hl 1 rfl) ?_
        refine gfRRB_Text_9 hx hb hg hown hK hP d_Text_addPart_11 ?_
        refine lv_iload hx hb d_Text_addPart_14 (lv_at hl 3 rfl) ?_
        obtain ⟨i_16, h⟩ := itn h
        refine raRRB_2 hx hb hK hP i_16 d_Text_addPart_16 ?_
        obtain ⟨σ_17, e_17, h⟩ := bd1_some h
        refine G_callv (A := A) (σ := σ) (w1 := ([] : va_W)) (w2 := (wR K B τ)) (va_runV (As := [.int (τ.2.1 2 x4.toNatClampNeg)]) (rest := []) ⟨hx, hb, hml, hown, hts⟩ (c_Text_add l K A e_17) (cwV 1 hts (gd_V wd_721 wd_722 wd_723 wd_3 wd_724) rfl rfl rfl dv_Text_add ⟨Nat.le_of_ble_eq_true rfl, Nat.le_of_ble_eq_true rfl⟩) (R_pv_1 (A := A) hK (mid_P (w1 := ([] : va_W)) (w2 := (wR K B τ)) hP) (mid_D (w1 := ([] : va_W)) (w2 := (wR K B τ)) hD (fun _ _ h => wR_in h))) rfl rfl hl.1 rfl (lv_room (Nat.le_of_ble_eq_true rfl)) d_Text_addPart_17 ⟨Nat.le_of_ble_eq_true rfl, Nat.le_of_ble_eq_true rfl⟩) hP hD hS (fun H locs hP hD hS => ?_)
        have hP : va_P K.1 vwCl (wR K A σ_17 ++ wR K B τ) H := hP
        have hD : va_D (RF2 A B) (wR K A σ_17 ++ wR K B τ) := hD
        refine lv_iinc (v := x4 + 1) (lv' := [(4, .int (x4 + 1)), (0, .ref (A 1)), (1, .ref (B 1)), (3, .int x3)]) hx hb d_Text_addPart_20 hl (k := 3) rfl (by first | rfl | decide) (by decide) rfl (fun ls hl => ?_)
        refine lv_goto (tgt := 3) hx hb d_Text_addPart_23 (by decide) ?_
        exact ih _ _ h _ _ hP hD hS ls (lv_sub hl [1, 2, 3, 0] rfl)
  refine lv_iload_n hx hb d_Text_addPart_0 rfl (lv_at hl 2 rfl) ?_
  refine lv_istore (lv' := [(4, .int x2), (0, .ref (A 1)), (1, .ref (B 1)), (2, .int x2), (3, .int x3)]) hx hb d_Text_addPart_1 hl (by decide) rfl (fun ls hl => ?_)
  exact L_3  FU _ _ h _ _ hP hD hS ls (lv_sub hl [1, 2, 4, 0] rfl)
def p_Reading_takeRenamed_L14 (τ : Sto) (x2 : Int32) (x3 : Int64) (x5 : Int32) : Nat → Sto → Int32 → Int32 → Option Sto
  | 0, _, _, _ => none
  | n + 1, σ, x6, x7 =>
    (if (τ.1 3) ≤ x7 then
        bd1 (p_Text_addPart σ τ x6 (τ.1 1)) fun σ_108 =>
        bd1 (p_Reading_touch σ_108) fun σ_112 =>
        some σ_112
      else
        if inR x7 121 then (if (τ.2.1 11 x7.toNatClampNeg) = x2 then
          if inR x7 121 then bd1 (p_Text_addPart σ τ x6 (τ.2.1 4 x7.toNatClampNeg)) fun σ_60 =>
          bd1 (p_Text_addBytes σ_60 x3 x5) fun σ_70 =>
          if inR x7 121 then p_Reading_takeRenamed_L14 τ x2 x3 x5 n σ_70 (τ.2.1 5 x7.toNatClampNeg) (x7 + 1) else none else none
        else
          p_Reading_takeRenamed_L14 τ x2 x3 x5 n σ x6 (x7 + 1)) else none)
def p_Reading_takeRenamed (σ : Sto) (τ : Sto) (x2 : Int32) (x3 : Int64) (x5 : Int32) : Option Sto :=
  p_Reading_takeRenamed_L14 τ x2 x3 x5 FU (sS σ 1 0) 0 0
abbrev w_Reading_takeRenamed : List Cond := Cond.code y_Reading_takeRenamed b_Reading_takeRenamed 8 none :: Tg
abbrev r_Reading_takeRenamed : Room := { frames := 2, cells := 0, slots := 0, locals := 46 }
theorem dv_Reading_takeRenamed : y_Reading_takeRenamed.cls = "LanguageServer$Reading" ∧ y_Reading_takeRenamed.cls ≠ "java/lang/invoke/MethodHandle" ∧ y_Reading_takeRenamed.cls ≠ "java/lang/invoke/VarHandle" ∧ (parseMethodDescriptor y_Reading_takeRenamed.desc).map (fun d => d.parameters.length) = some 4 := by decide +kernel
set_option maxHeartbeats 4000000 in
set_option maxRecDepth 100000 in
theorem c_Reading_takeRenamed (l : Launch) (K : Kst) (A B : Nat → Nat) {σ τ : Sto} {x2 : Int32} {x3 : Int64} {x5 : Int32} {ss : Sto} (h : p_Reading_takeRenamed σ τ x2 x3 x5 = some ss) : Met l y_Reading_takeRenamed w_Reading_takeRenamed r_Reading_takeRenamed (va_Pc [.ref (A 0), .ref (B 0), .int x2, .long x3, .int x5] (RB2 K A B σ τ)) (RRQv K A B ss τ) 0 0 (RF2 A B) := by
  refine Met.ofW (cc := b_Reading_takeRenamed) (maxL := 8) (ret := none) (by decide) rfl ?_
  intro p e s m args below meth c s₁ Bd hml hv
  obtain ⟨rfl, hP, hK, hD⟩ := hv
  have hx := Bd.exec
  have hb := Bd.bytes
  have hr := Bd.returns
  have hts := atoms_spec (ws := w_Reading_takeRenamed) Bd.pre
  have hg : ∀ w ∈ Tg, w.before _ s = true := fun w q => hts w (List.mem_cons_of_mem _ q)
  have hown : s.vm.findClass "LanguageServer$Reading" = some m.cls := findClass_of_methodNamed Bd.named
  have hlocks := Bd.notSynchronized
  have hS : va_S (RF2 A B) s.heap s.heap [] := va_S.rf
  have hl := lv_entry ([.ref (A 0), .ref (B 0), .int x2, .long x3, .int x5]) (n := 8) (Nat.le_of_ble_eq_true rfl)
  rw [lg_entry_eq]
  generalize (lg_sl ([.ref (A 0), .ref (B 0), .int x2, .long x3, .int x5]) ++ List.replicate (8 - (lg_sl ([.ref (A 0), .ref (B 0), .int x2, .long x3, .int x5])).length) Slot.unset).toArray = ls at hl ⊢
  have hl : lv_has ls 8 [(0, .ref (A 0)), (1, .ref (B 0)), (2, .int x2), (3, .long x3), (5, .int x5)] := hl
  generalize hargs : ([.ref (A 0), .ref (B 0), .int x2, .long x3, .int x5] : List Value).toArray = args at hg hts ⊢
  obtain ⟨Q, hQ⟩ : ∃ Q, Q = MQ below (RRQv K A B ss τ) args s 0 0 (RF2 A B) := ⟨_, rfl⟩
  rw [← hQ]
  have hRet : ∀ (σ : Sto), some σ = some ss → ∀ (H : Heap) (locs : List Loc), va_P K.1 vwCl (wR K A σ ++ wR K B τ) H → va_D (RF2 A B) (wR K A σ ++ wR K B τ) → va_S (RF2 A B) s.heap H locs → ∀ (pc : Nat) (ls : Array Slot), decode b_Reading_takeRenamed pc = .ok (.return_, 1) → W p l e (headSpec w_Reading_takeRenamed r_Reading_takeRenamed).room s m args below meth c H locs 0 0 Q (F0 m pc ls []) := by
    intro σ h H locs hP hD hS pc ls hd
    cases h
    subst hQ
    exact W.vret hx hb hr (fun t ht hW => ⟨⟨(), rfl, trivial, by rw [ht]; exact hP, RK.warm hW hK, hD⟩, hS.F ht⟩) hS.2.2 hd
  clear hQ
  unfold p_Reading_takeRenamed at h
  have L_14 : ∀ (n : Nat) (σ : Sto) (x6 : Int32) (x7 : Int32), p_Reading_takeRenamed_L14 τ x2 x3 x5 n σ x6 x7 = some ss → ∀ (H : Heap) (locs : List Loc), va_P K.1 vwCl (wR K A σ ++ wR K B τ) H → va_D (RF2 A B) (wR K A σ ++ wR K B τ) → va_S (RF2 A B) s.heap H locs → ∀ ls : Array Slot, lv_has ls 8 [(0, .ref (A 0)), (1, .ref (B 0)), (2, .int x2), (3, .long x3), (5, .int x5), (6, .int x6), (7, .int x7)] → W p l e (headSpec w_Reading_takeRenamed r_Reading_takeRenamed).room s m args below meth c H locs 0 0 Q (F0 m 14 ls []) := by
    intro n
    induction n with
    | zero => intro _ _ _ h; cases h
    | succ n ih =>
      intro σ x6 x7 h H locs hP hD hS ls hl
      rw [p_Reading_takeRenamed_L14] at h
      refine lv_iload hx hb d_Reading_takeRenamed_14 (lv_at hl 6 rfl) ?_
      refine lv_aload_n hx hb d_Reading_takeRenamed_16 rfl (lv_at hl 1 rfl) ?_
      refine gfRRB_Reading_30 hx hb hg hown hK hP d_Reading_takeRenamed_17 ?_
      refine gfRRB_Reading_84 hx hb hg hown hK hP d_Reading_takeRenamed_20 ?_
      refine lv_icmp_ge (tgt := 91) hx hb d_Reading_takeRenamed_23 (by decide) (fun c_23 => ?_) (fun c_23 => ?_)
      · replace h := itp c_23 h
        refine lv_aload_n hx hb d_Reading_takeRenamed_91 rfl (lv_at hl 0 rfl) ?_
        refine gfRR_Reading_12 hx hb hg hown hK hP d_Reading_takeRenamed_92 ?_
        refine lv_aload_n hx hb d_Reading_takeRenamed_95 rfl (lv_at hl 1 rfl) ?_
        refine gfRRB_Reading_12 hx hb hg hown hK hP d_Reading_takeRenamed_96 ?_
        refine lv_iload hx hb d_Reading_takeRenamed_99 (lv_at hl 5 rfl) ?_
        refine lv_aload_n hx hb d_Reading_takeRenamed_101 rfl (lv_at hl 1 rfl) ?_
        refine gfRRB_Reading_12 hx hb hg hown hK hP d_Reading_takeRenamed_102 ?_
        refine gfRRB_Reading_98 hx hb hg hown hK hP d_Reading_takeRenamed_105 ?_
        obtain ⟨σ_108, e_108, h⟩ := bd1_some h
        refine RR_callv (va_runV (As := [.ref (B 1), .int x6, .int (τ.1 1)]) (rest := []) ⟨hx, hb, hml, hown, hts⟩ (c_Text_addPart l K A B e_108) (cwV 3 hts (gd_V wd_873 wd_874 wd_875 wd_3 wd_876) rfl rfl rfl dv_Text_addPart ⟨Nat.le_of_ble_eq_true rfl, Nat.le_of_ble_eq_true rfl⟩) (RR_pv_1 hK hP hD) rfl rfl hl.1 rfl (lv_room (Nat.le_of_ble_eq_true rfl)) d_Reading_takeRenamed_108 ⟨Nat.le_of_ble_eq_true rfl, Nat.le_of_ble_eq_true rfl⟩) hS (fun H locs hP hD hS => ?_)
        refine lv_aload_n hx hb d_Reading_takeRenamed_111 rfl (lv_at hl 0 rfl) ?_
        obtain ⟨σ_112, e_112, h⟩ := bd1_some h
        refine G_callv (A := A) (σ := σ_108) (w1 := ([] : va_W)) (w2 := (wR K B τ)) (va_runV (As := []) (rest := []) ⟨hx, hb, hml, hown, hts⟩ (c_Reading_touch l K A e_112) (cwV 0 hts (gd_V wd_878 wd_698 wd_699 wd_2 wd_700) rfl rfl rfl dv_Reading_touch ⟨Nat.le_of_ble_eq_true rfl, Nat.le_of_ble_eq_true rfl⟩) (R_pv_0 (A := A) hK (mid_P (w1 := ([] : va_W)) (w2 := (wR K B τ)) hP) (mid_D (w1 := ([] : va_W)) (w2 := (wR K B τ)) hD (fun _ _ h => wR_in h))) rfl rfl hl.1 rfl (lv_room (Nat.le_of_ble_eq_true rfl)) d_Reading_takeRenamed_112 ⟨Nat.le_of_ble_eq_true rfl, Nat.le_of_ble_eq_true rfl⟩) hP hD hS (fun H locs hP hD hS => ?_)
        have hP : va_P K.1 vwCl (wR K A σ_112 ++ wR K B τ) H := hP
        have hD : va_D (RF2 A B) (wR K A σ_112 ++ wR K B τ) := hD
        exact hRet _ h _ _ hP hD hS _ _ d_Reading_takeRenamed_115
      · replace h := itf c_23 h
        refine lv_aload_n hx hb d_Reading_takeRenamed_26 rfl (lv_at hl 1 rfl) ?_
        refine gfRRB_Reading_30 hx hb hg hown hK hP d_Reading_takeRenamed_27 ?_
        refine gfRRB_Reading_95 hx hb hg hown hK hP d_Reading_takeRenamed_30 ?_
        refine lv_iload hx hb d_Reading_takeRenamed_33 (lv_at hl 6 rfl) ?_
        obtain ⟨i_35, h⟩ := itn h
        refine raRRB_11 hx hb hK hP i_35 d_Reading_takeRenamed_35 ?_
        refine lv_iload_n hx hb d_Reading_takeRenamed_36 rfl (lv_at hl 2 rfl) ?_
        refine lv_icmp_ne (tgt := 85) hx hb d_Reading_takeRenamed_37 (by decide) (fun c_37 => ?_) (fun c_37 => ?_)
        · replace h := itf c_37 h
          refine lv_iinc (v := x7 + 1) (lv' := [(7, .int (x7 + 1)), (0, .ref (A 0)), (1, .ref (B 0)), (2, .int x2), (3, .long x3), (5, .int x5), (6, .int x6)]) hx hb d_Reading_takeRenamed_85 hl (k := 6) rfl (by first | rfl | decide) (by decide) rfl (fun ls hl => ?_)
          refine lv_goto (tgt := 14) hx hb d_Reading_takeRenamed_88 (by decide) ?_
          exact ih _ _ _ h _ _ hP hD hS ls (lv_sub hl [1, 2, 3, 4, 5, 6, 0] rfl)
        · replace h := itp c_37 h
          refine lv_aload_n hx hb d_Reading_takeRenamed_40 rfl (lv_at hl 0 rfl) ?_
          refine gfRR_Reading_12 hx hb hg hown hK hP d_Reading_takeRenamed_41 ?_
          refine lv_aload_n hx hb d_Reading_takeRenamed_44 rfl (lv_at hl 1 rfl) ?_
          refine gfRRB_Reading_12 hx hb hg hown hK hP d_Reading_takeRenamed_45 ?_
          refine lv_iload hx hb d_Reading_takeRenamed_48 (lv_at hl 5 rfl) ?_
          refine lv_aload_n hx hb d_Reading_takeRenamed_50 rfl (lv_at hl 1 rfl) ?_
          refine gfRRB_Reading_21 hx hb hg hown hK hP d_Reading_takeRenamed_51 ?_
          refine gfRRB_Reading_88 hx hb hg hown hK hP d_Reading_takeRenamed_54 ?_
          refine lv_iload hx hb d_Reading_takeRenamed_57 (lv_at hl 6 rfl) ?_
          obtain ⟨i_59, h⟩ := itn h
          refine raRRB_4 hx hb hK hP i_59 d_Reading_takeRenamed_59 ?_
          obtain ⟨σ_60, e_60, h⟩ := bd1_some h
          refine RR_callv (va_runV (As := [.ref (B 1), .int x6, .int (τ.2.1 4 x7.toNatClampNeg)]) (rest := []) ⟨hx, hb, hml, hown, hts⟩ (c_Text_addPart l K A B e_60) (cwV 3 hts (gd_V wd_873 wd_874 wd_875 wd_3 wd_876) rfl rfl rfl dv_Text_addPart ⟨Nat.le_of_ble_eq_true rfl, Nat.le_of_ble_eq_true rfl⟩) (RR_pv_1 hK hP hD) rfl rfl hl.1 rfl (lv_room (Nat.le_of_ble_eq_true rfl)) d_Reading_takeRenamed_60 ⟨Nat.le_of_ble_eq_true rfl, Nat.le_of_ble_eq_true rfl⟩) hS (fun H locs hP hD hS => ?_)
          refine lv_aload_n hx hb d_Reading_takeRenamed_63 rfl (lv_at hl 0 rfl) ?_
          refine gfRR_Reading_12 hx hb hg hown hK hP d_Reading_takeRenamed_64 ?_
          refine lv_lload_n hx hb d_Reading_takeRenamed_67 rfl (lv_at hl 3 rfl) ?_
          refine lv_iload hx hb d_Reading_takeRenamed_68 (lv_at hl 4 rfl) ?_
          obtain ⟨σ_70, e_70, h⟩ := bd1_some h
          refine G_callv (A := A) (σ := σ_60) (w1 := ([] : va_W)) (w2 := (wR K B τ)) (va_runV (As := [.long x3, .int x5]) (rest := []) ⟨hx, hb, hml, hown, hts⟩ (c_Text_addBytes l K A e_70) (cwV 2 hts (gd_V wd_877 wd_717 wd_718 wd_3 wd_719) rfl rfl rfl dv_Text_addBytes ⟨Nat.le_of_ble_eq_true rfl, Nat.le_of_ble_eq_true rfl⟩) (R_pv_1 (A := A) hK (mid_P (w1 := ([] : va_W)) (w2 := (wR K B τ)) hP) (mid_D (w1 := ([] : va_W)) (w2 := (wR K B τ)) hD (fun _ _ h => wR_in h))) rfl rfl hl.1 rfl (lv_room (Nat.le_of_ble_eq_true rfl)) d_Reading_takeRenamed_70 ⟨Nat.le_of_ble_eq_true rfl, Nat.le_of_ble_eq_true rfl⟩) hP hD hS (fun H locs hP hD hS => ?_)
          have hP : va_P K.1 vwCl (wR K A σ_70 ++ wR K B τ) H := hP
          have hD : va_D (RF2 A B) (wR K A σ_70 ++ wR K B τ) := hD
          refine lv_aload_n hx hb d_Reading_takeRenamed_73 rfl (lv_at hl 1 rfl) ?_
          refine gfRRB_Reading_21 hx hb hg hown hK hP d_Reading_takeRenamed_74 ?_
          refine gfRRB_Reading_92 hx hb hg hown hK hP d_Reading_takeRenamed_77 ?_
          refine lv_iload hx hb d_Reading_takeRenamed_80 (lv_at hl 6 rfl) ?_
          obtain ⟨i_82, h⟩ := itn h
          refine raRRB_5 hx hb hK hP i_82 d_Reading_takeRenamed_82 ?_
          refine lv_istore (lv' := [(6, .int (τ.2.1 5 x7.toNatClampNeg)), (0, .ref (A 0)), (1, .ref (B 0)), (2, .int x2), (3, .long x3), (5, .int x5), (7, .int x7)]) hx hb d_Reading_takeRenamed_83 hl (by decide) rfl (fun ls hl => ?_)
          refine lv_iinc (v := x7 + 1) (lv' := [(7, .int (x7 + 1)), (6, .int (τ.2.1 5 x7.toNatClampNeg)), (0, .ref (A 0)), (1, .ref (B 0)), (2, .int x2), (3, .long x3), (5, .int x5)]) hx hb d_Reading_takeRenamed_85 hl (k := 6) rfl (by first | rfl | decide) (by decide) rfl (fun ls hl => ?_)
          refine lv_goto (tgt := 14) hx hb d_Reading_takeRenamed_88 (by decide) ?_
          exact ih _ _ _ h _ _ hP hD hS ls (lv_sub hl [2, 3, 4, 5, 6, 1, 0] rfl)
  refine lv_aload_n hx hb d_Reading_takeRenamed_0 rfl (lv_at hl 0 rfl) ?_
  refine gfRR_Reading_12 hx hb hg hown hK hP d_Reading_takeRenamed_1 ?_
  refine lv_iconst (v := 0) hx hb d_Reading_takeRenamed_4 (by decide) ?_
  refine pfRR_Reading_98 hx hb hg hown hK hP hD hS d_Reading_takeRenamed_5 (fun H locs hP hD hS => ?_)
  refine lv_iconst (v := 0) hx hb d_Reading_takeRenamed_8 (by decide) ?_
  refine lv_istore (lv' := [(6, .int 0), (0, .ref (A 0)), (1, .ref (B 0)), (2, .int x2), (3, .long x3), (5, .int x5)]) hx hb d_Reading_takeRenamed_9 hl (by decide) rfl (fun ls hl => ?_)
  refine lv_iconst (v := 0) hx hb d_Reading_takeRenamed_11 (by decide) ?_
  refine lv_istore (lv' := [(7, .int 0), (6, .int 0), (0, .ref (A 0)), (1, .ref (B 0)), (2, .int x2), (3, .long x3), (5, .int x5)]) hx hb d_Reading_takeRenamed_12 hl (by decide) rfl (fun ls hl => ?_)
  exact L_14  FU _ _ _ h _ _ hP hD hS ls (lv_sub hl [2, 3, 4, 5, 6, 1, 0] rfl)
def p_Reading_agreesWith_b87 (σ : Sto) (τ : Sto) (x2 : Int32) (k37 : Int32 → Int32 → Option Int32) (x3 : Int32) (x4 : Int32) (s0 : Int32) (s1 : Int32) : Option Int32 :=
  (if s0 = s1 then
      k37 x3 (x4 + 1)
    else
      some 0)
def p_Reading_agreesWith_b68 (σ : Sto) (τ : Sto) (x2 : Int32) (k37 : Int32 → Int32 → Option Int32) (x3 : Int32) (x4 : Int32) (s0 : Int32) : Option Int32 :=
  if inR x4 121 then (if (τ.2.1 11 x4.toNatClampNeg) = x2 then
      p_Reading_agreesWith_b87 σ τ x2 k37 x3 x4 s0 1
    else
      p_Reading_agreesWith_b87 σ τ x2 k37 x3 x4 s0 0) else none
def p_Reading_agreesWith_L37 (σ : Sto) (τ : Sto) (x2 : Int32) : Nat → Int32 → Int32 → Option Int32
  | 0, _, _ => none
  | n + 1, x3, x4 =>
    (if (σ.1 3) ≤ x4 then
        some 1
      else
        if inR x4 121 then (if (σ.2.1 11 x4.toNatClampNeg) = x3 then
          p_Reading_agreesWith_b68 σ τ x2 (p_Reading_agreesWith_L37 σ τ x2 n) x3 x4 1
        else
          p_Reading_agreesWith_b68 σ τ x2 (p_Reading_agreesWith_L37 σ τ x2 n) x3 x4 0) else none)
def p_Reading_agreesWith (σ : Sto) (τ : Sto) (x2 : Int32) : Option Int32 :=
  if inR x2 121 then (if (σ.2.1 11 x2.toNatClampNeg) = (-1) then
      some 0
    else
      bd1 (p_Complaints_total σ) fun v_19 =>
      bd1 (p_Complaints_total τ) fun v_26 =>
      (if v_19 = v_26 then
        p_Reading_agreesWith_L37 σ τ x2 FU (σ.2.1 11 x2.toNatClampNeg) 0
      else
        some 0)) else none
abbrev w_Reading_agreesWith : List Cond := Cond.code y_Reading_agreesWith b_Reading_agreesWith 5 (some .boolean) :: Tg
abbrev r_Reading_agreesWith : Room := { frames := 2, cells := 0, slots := 0, locals := 42 }
theorem dv_Reading_agreesWith : y_Reading_agreesWith.cls = "LanguageServer$Reading" ∧ y_Reading_agreesWith.cls ≠ "java/lang/invoke/MethodHandle" ∧ y_Reading_agreesWith.cls ≠ "java/lang/invoke/VarHandle" ∧ (parseMethodDescriptor y_Reading_agreesWith.desc).map (fun d => d.parameters.length) = some 2 := by decide +kernel
set_option maxHeartbeats 4000000 in
set_option maxRecDepth 100000 in
theorem c_Reading_agreesWith (l : Launch) (K : Kst) (A B : Nat → Nat) {σ τ : Sto} {x2 : Int32} {rr : Int32} (h : p_Reading_agreesWith σ τ x2 = some rr) : Met l y_Reading_agreesWith w_Reading_agreesWith r_Reading_agreesWith (va_Pc [.ref (A 0), .ref (B 0), .int x2] (RB2 K A B σ τ)) (RRQi K A B rr σ τ) 0 0 (RF2 A B) := by
  refine Met.ofW (cc := b_Reading_agreesWith) (maxL := 5) (ret := (some .boolean)) (by decide) rfl ?_
  intro p e s m args below meth c s₁ Bd hml hv
  obtain ⟨rfl, hP, hK, hD⟩ := hv
  have hx := Bd.exec
  have hb := Bd.bytes
  have hr := Bd.returns
  have hts := atoms_spec (ws := w_Reading_agreesWith) Bd.pre
  have hg : ∀ w ∈ Tg, w.before _ s = true := fun w q => hts w (List.mem_cons_of_mem _ q)
  have hown : s.vm.findClass "LanguageServer$Reading" = some m.cls := findClass_of_methodNamed Bd.named
  have hlocks := Bd.notSynchronized
  have hS : va_S (RF2 A B) s.heap s.heap [] := va_S.rf
  have hl := lv_entry ([.ref (A 0), .ref (B 0), .int x2]) (n := 5) (Nat.le_of_ble_eq_true rfl)
  rw [lg_entry_eq]
  generalize (lg_sl ([.ref (A 0), .ref (B 0), .int x2]) ++ List.replicate (5 - (lg_sl ([.ref (A 0), .ref (B 0), .int x2])).length) Slot.unset).toArray = ls at hl ⊢
  have hl : lv_has ls 5 [(0, .ref (A 0)), (1, .ref (B 0)), (2, .int x2)] := hl
  generalize hargs : ([.ref (A 0), .ref (B 0), .int x2] : List Value).toArray = args at hg hts ⊢
  obtain ⟨Q, hQ⟩ : ∃ Q, Q = MQ below (RRQi K A B rr σ τ) args s 0 0 (RF2 A B) := ⟨_, rfl⟩
  rw [← hQ]
  have hRet : ∀ (v : Int32), (narrow .boolean (.int v) = .int v) → some v = some rr → ∀ (H : Heap) (locs : List Loc), va_P K.1 vwCl (wR K A σ ++ wR K B τ) H → va_D (RF2 A B) (wR K A σ ++ wR K B τ) → va_S (RF2 A B) s.heap H locs → ∀ (pc : Nat) (ls : Array Slot), decode b_Reading_agreesWith pc = .ok (.ireturn, 1) → W p l e (headSpec w_Reading_agreesWith r_Reading_agreesWith).room s m args below meth c H locs 0 0 Q (F0 m pc ls [.int v]) := by
    intro v hn h H locs hP hD hS pc ls hd
    cases h
    subst hQ
    exact W.zret hx hb hr hn (fun t ht hW => ⟨⟨_, (), rfl, rfl, by rw [ht]; exact hP, RK.warm hW hK, hD⟩, hS.F ht⟩) hS.2.2 hd
  clear hQ
  unfold p_Reading_agreesWith at h
  have J_87 : ∀ (k37 : Int32 → Int32 → Option Int32) (hk37 : ∀ (x3 : Int32) (x4 : Int32), k37 x3 x4 = some rr → ∀ (H : Heap) (locs : List Loc), va_P K.1 vwCl (wR K A σ ++ wR K B τ) H → va_D (RF2 A B) (wR K A σ ++ wR K B τ) → va_S (RF2 A B) s.heap H locs → ∀ ls : Array Slot, lv_has ls 5 [(0, .ref (A 0)), (1, .ref (B 0)), (2, .int x2), (3, .int x3), (4, .int x4)] → W p l e (headSpec w_Reading_agreesWith r_Reading_agreesWith).room s m args below meth c H locs 0 0 Q (F0 m 37 ls [])) (x3 : Int32) (x4 : Int32) (s0 : Int32) (s1 : Int32), p_Reading_agreesWith_b87 σ τ x2 k37 x3 x4 s0 s1 = some rr → ∀ (H : Heap) (locs : List Loc), va_P K.1 vwCl (wR K A σ ++ wR K B τ) H → va_D (RF2 A B) (wR K A σ ++ wR K B τ) → va_S (RF2 A B) s.heap H locs → ∀ ls : Array Slot, lv_has ls 5 [(0, .ref (A 0)), (1, .ref (B 0)), (2, .int x2), (3, .int x3), (4, .int x4)] → W p l e (headSpec w_Reading_agreesWith r_Reading_agreesWith).room s m args below meth c H locs 0 0 Q (F0 m 87 ls [.int s1, .int s0]) := by
    intro k37 hk37 x3 x4 s0 s1 h H locs hP hD hS ls hl
    rw [p_Reading_agreesWith_b87] at h
    refine lv_icmp_eq (tgt := 92) hx hb d_Reading_agreesWith_87 (by decide) (fun c_87 => ?_) (fun c_87 => ?_)
    · replace h := itp c_87 h
      refine lv_iinc (v := x4 + 1) (lv' := [(4, .int (x4 + 1)), (0, .ref (A 0)), (1, .ref (B 0)), (2, .int x2), (3, .int x3)]) hx hb d_Reading_agreesWith_92 hl (k := 4) rfl (by first | rfl | decide) (by decide) rfl (fun ls hl => ?_)
      refine lv_goto (tgt := 37) hx hb d_Reading_agreesWith_95 (by decide) ?_
      exact hk37 _ _ h _ _ hP hD hS ls (lv_sub hl [1, 2, 3, 4, 0] rfl)
    · replace h := itf c_87 h
      refine lv_iconst (v := 0) hx hb d_Reading_agreesWith_90 (by decide) ?_
      exact hRet _ rfl h _ _ hP hD hS _ _ d_Reading_agreesWith_91
  have J_68 : ∀ (k37 : Int32 → Int32 → Option Int32) (hk37 : ∀ (x3 : Int32) (x4 : Int32), k37 x3 x4 = some rr → ∀ (H : Heap) (locs : List Loc), va_P K.1 vwCl (wR K A σ ++ wR K B τ) H → va_D (RF2 A B) (wR K A σ ++ wR K B τ) → va_S (RF2 A B) s.heap H locs → ∀ ls : Array Slot, lv_has ls 5 [(0, .ref (A 0)), (1, .ref (B 0)), (2, .int x2), (3, .int x3), (4, .int x4)] → W p l e (headSpec w_Reading_agreesWith r_Reading_agreesWith).room s m args below meth c H locs 0 0 Q (F0 m 37 ls [])) (x3 : Int32) (x4 : Int32) (s0 : Int32), p_Reading_agreesWith_b68 σ τ x2 k37 x3 x4 s0 = some rr → ∀ (H : Heap) (locs : List Loc), va_P K.1 vwCl (wR K A σ ++ wR K B τ) H → va_D (RF2 A B) (wR K A σ ++ wR K B τ) → va_S (RF2 A B) s.heap H locs → ∀ ls : Array Slot, lv_has ls 5 [(0, .ref (A 0)), (1, .ref (B 0)), (2, .int x2), (3, .int x3), (4, .int x4)] → W p l e (headSpec w_Reading_agreesWith r_Reading_agreesWith).room s m args below meth c H locs 0 0 Q (F0 m 68 ls [.int s0]) := by
    intro k37 hk37 x3 x4 s0 h H locs hP hD hS ls hl
    rw [p_Reading_agreesWith_b68] at h
    refine lv_aload_n hx hb d_Reading_agreesWith_68 rfl (lv_at hl 1 rfl) ?_
    refine gfRRB_Reading_30 hx hb hg hown hK hP d_Reading_agreesWith_69 ?_
    refine gfRRB_Reading_95 hx hb hg hown hK hP d_Reading_agreesWith_72 ?_
    refine lv_iload hx hb d_Reading_agreesWith_75 (lv_at hl 4 rfl) ?_
    obtain ⟨i_77, h⟩ := itn h
    refine raRRB_11 hx hb hK hP i_77 d_Reading_agreesWith_77 ?_
    refine lv_iload_n hx hb d_Reading_agreesWith_78 rfl (lv_at hl 2 rfl) ?_
    refine lv_icmp_ne (tgt := 86) hx hb d_Reading_agreesWith_79 (by decide) (fun c_79 => ?_) (fun c_79 => ?_)
    · replace h := itf c_79 h
      refine lv_iconst (v := 0) hx hb d_Reading_agreesWith_86 (by decide) ?_
      exact J_87 _ hk37 _ _ _ _ h _ _ hP hD hS ls (lv_sub hl [0, 1, 2, 3, 4] rfl)
    · replace h := itp c_79 h
      refine lv_iconst (v := 1) hx hb d_Reading_agreesWith_82 (by decide) ?_
      refine lv_goto (tgt := 87) hx hb d_Reading_agreesWith_83 (by decide) ?_
      exact J_87 _ hk37 _ _ _ _ h _ _ hP hD hS ls (lv_sub hl [0, 1, 2, 3, 4] rfl)
  have L_37 : ∀ (n : Nat) (x3 : Int32) (x4 : Int32), p_Reading_agreesWith_L37 σ τ x2 n x3 x4 = some rr → ∀ (H : Heap) (locs : List Loc), va_P K.1 vwCl (wR K A σ ++ wR K B τ) H → va_D (RF2 A B) (wR K A σ ++ wR K B τ) → va_S (RF2 A B) s.heap H locs → ∀ ls : Array Slot, lv_has ls 5 [(0, .ref (A 0)), (1, .ref (B 0)), (2, .int x2), (3, .int x3), (4, .int x4)] → W p l e (headSpec w_Reading_agreesWith r_Reading_agreesWith).room s m args below meth c H locs 0 0 Q (F0 m 37 ls []) := by
    intro n
    induction n with
    | zero => intro _ _ h; cases h
    | succ n ih =>
      intro x3 x4 h H locs hP hD hS ls hl
      rw [p_Reading_agreesWith_L37] at h
      refine lv_iload hx hb d_Reading_agreesWith_37 (lv_at hl 4 rfl) ?_
      refine lv_aload_n hx hb d_Reading_agreesWith_39 rfl (lv_at hl 0 rfl) ?_
      refine gfRR_Reading_30 hx hb hg hown hK hP d_Reading_agreesWith_40 ?_
      refine gfRR_Reading_84 hx hb hg hown hK hP d_Reading_agreesWith_43 ?_
      refine lv_icmp_ge (tgt := 98) hx hb d_Reading_agreesWith_46 (by decide) (fun c_46 => ?_) (fun c_46 => ?_)
      · replace h := itp c_46 h
        refine lv_iconst (v := 1) hx hb d_Reading_agreesWith_98 (by decide) ?_
        exact hRet _ rfl h _ _ hP hD hS _ _ d_Reading_agreesWith_99
      · replace h := itf c_46 h
        refine lv_aload_n hx hb d_Reading_agreesWith_49 rfl (lv_at hl 0 rfl) ?_
        refine gfRR_Reading_30 hx hb hg hown hK hP d_Reading_agreesWith_50 ?_
        refine gfRR_Reading_95 hx hb hg hown hK hP d_Reading_agreesWith_53 ?_
        refine lv_iload hx hb d_Reading_agreesWith_56 (lv_at hl 4 rfl) ?_
        obtain ⟨i_58, h⟩ := itn h
        refine raRR_11 hx hb hK hP i_58 d_Reading_agreesWith_58 ?_
        refine lv_iload_n hx hb d_Reading_agreesWith_59 rfl (lv_at hl 3 rfl) ?_
        refine lv_icmp_ne (tgt := 67) hx hb d_Reading_agreesWith_60 (by decide) (fun c_60 => ?_) (fun c_60 => ?_)
        · replace h := itf c_60 h
          refine lv_iconst (v := 0) hx hb d_Reading_agreesWith_67 (by decide) ?_
          exact J_68 _ ih _ _ _ h _ _ hP hD hS ls (lv_sub hl [0, 1, 2, 3, 4] rfl)
        · replace h := itp c_60 h
          refine lv_iconst (v := 1) hx hb d_Reading_agreesWith_63 (by decide) ?_
          refine lv_goto (tgt := 68) hx hb d_Reading_agreesWith_64 (by decide) ?_
          exact J_68 _ ih _ _ _ h _ _ hP hD hS ls (lv_sub hl [0, 1, 2, 3, 4] rfl)
  refine lv_aload_n hx hb d_Reading_agreesWith_0 rfl (lv_at hl 0 rfl) ?_
  refine gfRR_Reading_30 hx hb hg hown hK hP d_Reading_agreesWith_1 ?_
  refine gfRR_Reading_95 hx hb hg hown hK hP d_Reading_agreesWith_4 ?_
  refine lv_iload_n hx hb d_Reading_agreesWith_7 rfl (lv_at hl 2 rfl) ?_
  obtain ⟨i_8, h⟩ := itn h
  refine raRR_11 hx hb hK hP i_8 d_Reading_agreesWith_8 ?_
  refine lv_istore_n (lv' := [(3, .int (σ.2.1 11 x2.toNatClampNeg)), (0, .ref (A 0)), (1, .ref (B 0)), (2, .int x2)]) hx hb d_Reading_agreesWith_9 rfl hl (by decide) rfl (fun ls hl => ?_)
  refine lv_iload_n hx hb d_Reading_agreesWith_10 rfl (lv_at hl 0 rfl) ?_
  refine lv_iconst (v := (-1)) hx hb d_Reading_agreesWith_11 (by decide) ?_
  refine lv_icmp_eq (tgt := 32) hx hb d_Reading_agreesWith_12 (by decide) (fun c_12 => ?_) (fun c_12 => ?_)
  · replace h := itp c_12 h
    refine lv_iconst (v := 0) hx hb d_Reading_agreesWith_32 (by decide) ?_
    exact hRet _ rfl h _ _ hP hD hS _ _ d_Reading_agreesWith_33
  · replace h := itf c_12 h
    refine lv_aload_n hx hb d_Reading_agreesWith_15 rfl (lv_at hl 1 rfl) ?_
    refine gfRR_Reading_37 hx hb hg hown hK hP d_Reading_agreesWith_16 ?_
    obtain ⟨v_19, e_19, h⟩ := bd1_some h
    refine G_calli (A := A) (σ := σ) (w1 := ([] : va_W)) (w2 := (wR K B τ)) (va_runV (As := []) (rest := []) ⟨hx, hb, hml, hown, hts⟩ (c_Complaints_total l K A e_19) (cwV 0 hts (gd_V wd_883 wd_584 wd_585 wd_6 wd_586) rfl rfl rfl dv_Complaints_total ⟨Nat.le_of_ble_eq_true rfl, Nat.le_of_ble_eq_true rfl⟩) (R_pv_16 (A := A) hK (mid_P (w1 := ([] : va_W)) (w2 := (wR K B τ)) hP) (mid_D (w1 := ([] : va_W)) (w2 := (wR K B τ)) hD (fun _ _ h => wR_in h))) rfl rfl hl.1 rfl (lv_room (Nat.le_of_ble_eq_true rfl)) d_Reading_agreesWith_19 ⟨Nat.le_of_ble_eq_true rfl, Nat.le_of_ble_eq_true rfl⟩) hP hD hS (fun H locs hP hD hS => ?_)
    have hP : va_P K.1 vwCl (wR K A σ ++ wR K B τ) H := hP
    have hD : va_D (RF2 A B) (wR K A σ ++ wR K B τ) := hD
    refine lv_aload_n hx hb d_Reading_agreesWith_22 rfl (lv_at hl 2 rfl) ?_
    refine gfRRB_Reading_37 hx hb hg hown hK hP d_Reading_agreesWith_23 ?_
    obtain ⟨v_26, e_26, h⟩ := bd1_some h
    refine G_calli (A := B) (σ := τ) (w1 := (wR K A σ)) (w2 := ([] : va_W)) (va_runV (As := []) (rest := [.int v_19]) ⟨hx, hb, hml, hown, hts⟩ (c_Complaints_total l K B e_26) (cwV 0 hts (gd_V wd_883 wd_584 wd_585 wd_6 wd_586) rfl rfl rfl dv_Complaints_total ⟨Nat.le_of_ble_eq_true rfl, Nat.le_of_ble_eq_true rfl⟩) (R_pv_16 (A := B) hK (mid_P (w1 := (wR K A σ)) (w2 := ([] : va_W)) hP) (mid_D (w1 := (wR K A σ)) (w2 := ([] : va_W)) hD (fun _ _ h => wR_in h))) rfl rfl hl.1 rfl (lv_room (Nat.le_of_ble_eq_true rfl)) d_Reading_agreesWith_26 ⟨Nat.le_of_ble_eq_true rfl, Nat.le_of_ble_eq_true rfl⟩) hP hD hS (fun H locs hP hD hS => ?_)
    have hP : va_P K.1 vwCl (wR K A σ ++ wR K B τ) H := hP
    have hD : va_D (RF2 A B) (wR K A σ ++ wR K B τ) := hD
    refine lv_icmp_eq (tgt := 34) hx hb d_Reading_agreesWith_29 (by decide) (fun c_29 => ?_) (fun c_29 => ?_)
    · replace h := itp c_29 h
      refine lv_iconst (v := 0) hx hb d_Reading_agreesWith_34 (by decide) ?_
      refine lv_istore (lv' := [(4, .int 0), (3, .int (σ.2.1 11 x2.toNatClampNeg)), (0, .ref (A 0)), (1, .ref (B 0)), (2, .int x2)]) hx hb d_Reading_agreesWith_35 hl (by decide) rfl (fun ls hl => ?_)
      exact L_37  FU _ _ h _ _ hP hD hS ls (lv_sub hl [2, 3, 4, 1, 0] rfl)
    · replace h := itf c_29 h
      refine lv_iconst (v := 0) hx hb d_Reading_agreesWith_32 (by decide) ?_
      exact hRet _ rfl h _ _ hP hD hS _ _ d_Reading_agreesWith_33
