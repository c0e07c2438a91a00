/-- the object, its readings, and the law's one long -/
def wH (K : Kst) (a : Nat) (A B : Nat → Nat) (σ τ : Sto) (o : Nat) (f : Nat → Int64) : va_W := wL K a A B σ τ ++ [(o, .inl (K.2.2.1, 1, .inr (.inl f)))]
def HF (a : Nat) (A B : Nat → Nat) (o : Nat) : Nat → Prop := fun q => LF a A B q ∨ q = o
/-- of two exceptions none is the other -/
def NC (U : State) : Prop := va_Nc "java/lang/IllegalStateException" "java/lang/IllegalArgumentException" U ∧ va_Nc "java/lang/IllegalArgumentException" "java/util/NoSuchElementException" U ∧ va_Nc "java/lang/IllegalStateException" "java/util/NoSuchElementException" U
theorem NC.moved {u U : State} (h : u.vm.Alike U.vm) (n : NC u) : NC U := ⟨n.1.moved h, n.2.1.moved h, n.2.2.moved h⟩
def HK (K : Kst) (F : Nat → Prop) (U : State) : Prop := LK K F U ∧ NC U
def HB (K : Kst) (a : Nat) (A B : Nat → Nat) (σ τ : Sto) (o : Nat) (f : Nat → Int64) (U : State) : Prop := va_P K.1 vwCl (wH K a A B σ τ o f) U.heap ∧ HK K (HF a A B o) U ∧ va_D (HF a A B o) (wH K a A B σ τ o f)
theorem tab_of : ∀ (l : List ExceptionTableEntry) (hs : List (Nat × Nat × Nat × Nat)), l.map (fun h => (h.startPc, h.endPc, h.handlerPc, h.catchType)) = hs → l = hs.map (fun q => ⟨q.1, q.2.1, q.2.2.1, q.2.2.2⟩)
  | [], _, h => by subst h; rfl
  | x :: t, _, h => by
    subst h
    show x :: t = ⟨x.startPc, x.endPc, x.handlerPc, x.catchType⟩ :: _
    exact congrArg (List.cons x) (tab_of t _ rfl)
section HB0
variable {K : Kst} {a o : Nat} {A B : Nat → Nat} {σ σ' τ τ' : Sto} {f f' : Nat → Int64} {H H1 : Heap} {F : Nat → Prop}
theorem H_in {q : Nat} (h : HF a A B o q) : ∃ (k : Nat) (x : Nat × va_E), (wH K a A B σ τ o f)[k]? = some x ∧ q = x.1 := by
  rcases h with h | h
  · obtain ⟨k, x, h1, h2⟩ := L_in (K := K) (u := A 0) (v := B 0) (σ := σ) (τ := τ) h
    refine ⟨k, x, ?_, h2⟩
    show (wL K a A B σ τ ++ _)[k]? = some x
    rw [List.getElem?_append_left (List.getElem?_eq_some_iff.mp h1).1]; exact h1
  · exact ⟨59, _, rfl, h⟩
theorem L_is {k : Nat} {x : Nat × va_E} {u v : Nat} (h : (wLx K a u v A B σ τ)[k]? = some x) : LF a A B x.1 := by
  match k, h with
  | 0, h => cases h; exact Or.inl rfl
  | k + 1, h =>
    have h : (wR K A σ ++ wR K B τ)[k]? = some x := h
    by_cases hk : k < (wR K A σ).length
    · rw [List.getElem?_append_left hk] at h
      exact Or.inr (Or.inl (wR_in h))
    · rw [List.getElem?_append_right (Nat.le_of_not_lt hk)] at h
      exact Or.inr (Or.inr (wR_in h))
theorem H_dL (hD : va_D F (wH K a A B σ τ o f)) : va_D (LF a A B) (wL K a A B σ τ) := mid_D (w1 := []) (w2 := [(o, .inl (K.2.2.1, 1, .inr (.inl f)))]) hD (fun _ _ h => L_is h)
theorem H_not (hD : va_D F (wH K a A B σ τ o f)) : ¬ LF a A B o := by
  intro h
  obtain ⟨k, x, h1, h2⟩ := L_in (K := K) (u := A 0) (v := B 0) (σ := σ) (τ := τ) h
  have hk : k < (wL K a A B σ τ).length := (List.getElem?_eq_some_iff.mp h1).1
  have h3 : (wH K a A B σ τ o f)[k]? = some x := by
    show (wL K a A B σ τ ++ _)[k]? = some x
    rw [List.getElem?_append_left hk]; exact h1
  have := hD.1 59 k _ x rfl h3 h2
  have h4 : (wL K a A B σ τ).length = 59 := rfl
  omega
theorem H_P (h1 : va_P K.1 vwCl (wL K a A B σ τ) H) (h2 : va_at K.1 vwCl (o, .inl (K.2.2.1, 1, .inr (.inl f))) H) : va_P K.1 vwCl (wH K a A B σ τ o f) H := h1.app (one_P h2)
/-- behind a call on the object: its world anew, the long as it was -/
theorem H_back (hP : va_P K.1 vwCl (wH K a A B σ τ o f) H) (hD : va_D (HF a A B o) (wH K a A B σ τ o f)) (h1 : va_P K.1 vwCl (wL K a A B σ' τ') H1) (hk : ∀ q : Nat, q < H.size → ¬ LF a A B q → H1[q]? = H[q]?) : va_P K.1 vwCl (wH K a A B σ' τ' o f) H1 ∧ va_D (HF a A B o) (wH K a A B σ' τ' o f) := by
  have ho : va_at K.1 vwCl (o, .inl (K.2.2.1, 1, .inr (.inl f))) H := hP 59 _ rfl
  exact ⟨H_P h1 (ho.kept (hk o ho.lt (H_not hD))), fr_D hD rfl⟩
theorem H_backS (hP : va_P K.1 vwCl (wH K a A B σ τ o f) H) (hD : va_D (HF a A B o) (wH K a A B σ τ o f)) (h1 : va_P K.1 vwCl (wL K a B A τ' σ') H1) (hk : ∀ q : Nat, q < H.size → ¬ LF a A B q → H1[q]? = H[q]?) : va_P K.1 vwCl (wH K a B A τ' σ' o f) H1 ∧ va_D (HF a A B o) (wH K a B A τ' σ' o f) := by
  have ho : va_at K.1 vwCl (o, .inl (K.2.2.1, 1, .inr (.inl f))) H := hP 59 _ rfl
  refine ⟨H_P h1 (ho.kept (hk o ho.lt (H_not hD))), ?_⟩
  have h3 : va_D (LF a B A) (wL K a B A τ' σ') := fr_D (L_dsw (H_dL hD)) rfl
  refine (h3.weaken (fun _ _ _ h => Or.inl (LF_sw h))).app (one_D (F := HF a A B o) (q := (o, .inl (K.2.2.1, 1, .inr (.inl f)))) (Or.inr rfl)) ?_
  intro i j x y hx hy e
  have hy0 : y.1 = o := by
    match j, hy with
    | 0, hy => cases hy; rfl
    | j + 1, hy => simp at hy
  exact H_not hD (by rw [← hy0, ← e]; exact LF_sw (L_is hx))
theorem HF_sw {q : Nat} (h : HF a B A o q) : HF a A B o q := h.elim (fun h => Or.inl (LF_sw h)) Or.inr
theorem HB_of {s t : State} {locs : List Loc} {G : Nat → Prop} (hHK : HK K (HF a A B o) s) (hS : va_S (HF a A B o) s.heap H locs) (hW : s.WarmedH t.vm) (ht : t.heap = H) (hG : ∀ q, G q → HF a A B o q) : HK K G t :=
  ⟨⟨RK.warm hW hHK.1.1, hHK.1.2.1.warm hW, hHK.1.2.2.to hS hW.alike (fun q _ _ => by rw [ht]) hG⟩, hHK.2.moved hW.alike⟩
end HB0
section HCALL
variable {p : Program} {l : Launch} {e : Env} {R : Room} {s : State} {m : MethodId} {args : Array Value} {below : List Frame} {meth : Method} {c : Code} {H H0 : Heap} {locs : List Loc} {cells slots : Nat} {Q : State → Prop}
variable {cc : ByteArray} {pc : Nat} {ls : Array Slot} {rest st0 : List Value} {av : Array Value} {K : Kst} {a o : Nat} {A B : Nat → Nat} {σ σ' τ τ' : Sto} {f : Nat → Int64}
theorem H_pv {As : List Value} (hHK : HK K (HF a A B o) s) (hS : va_S (HF a A B o) s.heap H locs) (hP : va_P K.1 vwCl (wH K a A B σ τ o f) H) (hD : va_D (HF a A B o) (wH K a A B σ τ o f)) : PreV s H "LanguageServer" a (va_Pc (.ref a :: As) (LB K a A B σ τ)) As :=
  ⟨L_blind, va_recv hHK.1.1.1 (P_l hP) (ci := 0) (q := ("LanguageServer", T_LS, 2)) (q0 := 0) rfl rfl, fun U hU hW => ⟨rfl, by rw [hU]; exact P_l hP, ⟨RK.warm hW hHK.1.1, hHK.1.2.1.warm hW, hHK.1.2.2.to hS hW.alike (fun q _ _ => by rw [hU]) (fun q h => Or.inl h)⟩, H_dL hD⟩⟩
theorem H_calli {r : Int32} (hr : va_Run p l e R s m args below meth c H locs cells slots 0 0 (F0 m pc ls st0) rest (va_Qi (S := Unit) (fun v _ => v = r) (fun _ t => LB K a A B σ' τ' t) (LF a A B) av) (LF a A B)) (hP : va_P K.1 vwCl (wH K a A B σ τ o f) H) (hD : va_D (HF a A B o) (wH K a A B σ τ o f)) (hS : va_S (HF a A B o) H0 H locs)
    (kk : ∀ (H1 : Heap) (locs1 : List Loc), va_P K.1 vwCl (wH K a A B σ' τ' o f) H1 → va_D (HF a A B o) (wH K a A B σ' τ' o f) → va_S (HF a A B o) H0 H1 locs1 → W p l e R s m args below meth c H1 locs1 cells slots Q (F0 m (pc + 3) ls (.int r :: rest))) : W p l e R s m args below meth c H locs cells slots Q (F0 m pc ls st0) := by
  refine va_calli hr hS (fun q _ h => Or.inl h) (fun q h => Or.inl h) (fun v u t H1 locs1 ht hvm hw hB hz hk hS1 => ?_)
  subst hw
  obtain ⟨h1, -, h3⟩ := hB
  rw [ht] at h1
  obtain ⟨g1, g2⟩ := H_back hP hD h1 hk
  exact kk H1 locs1 g1 g2 hS1
theorem H_calliS {r : Int32} (hr : va_Run p l e R s m args below meth c H locs cells slots 0 0 (F0 m pc ls st0) rest (va_Qi (S := Unit) (fun v _ => v = r) (fun _ t => LB K a B A τ' σ' t) (LF a A B) av) (LF a A B)) (hP : va_P K.1 vwCl (wH K a A B σ τ o f) H) (hD : va_D (HF a A B o) (wH K a A B σ τ o f)) (hS : va_S (HF a A B o) H0 H locs)
    (kk : ∀ (H1 : Heap) (locs1 : List Loc), va_P K.1 vwCl (wH K a B A τ' σ' o f) H1 → va_D (HF a A B o) (wH K a B A τ' σ' o f) → va_S (HF a A B o) H0 H1 locs1 → W p l e R s m args below meth c H1 locs1 cells slots Q (F0 m (pc + 3) ls (.int r :: rest))) : W p l e R s m args below meth c H locs cells slots Q (F0 m pc ls st0) := by
  refine va_calli hr hS (fun q _ h => Or.inl h) (fun q h => Or.inl h) (fun v u t H1 locs1 ht hvm hw hB hz hk hS1 => ?_)
  subst hw
  obtain ⟨h1, -, h3⟩ := hB
  rw [ht] at h1
  obtain ⟨g1, g2⟩ := H_backS hP hD h1 hk
  exact kk H1 locs1 g1 g2 hS1
variable {y : MethodName} {bytes : ByteArray} {maxL nL mc ms n index : Nat} {ret : Option FieldType} {hh : List (Nat × Nat × Nat × Nat)} {ws : List Cond} {rm : Room} {Pc : Array Value → State → Prop} {Qc : Array Value → State → Outcome → State → Prop} {free : Addr → Prop} {Ts : List Cond} {own : String} {As : List Value} {g : JFrame}
/-- a static call of a method with handlers -/
theorem H_runS (S : CallFix p m c cc nL s args Ts own) (hM : Met l y ws rm Pc Qc mc ms free) (hrc : rm.cells = mc) (hrs : rm.slots = ms) (hfr : rm.frames + 1 ≤ R.frames) (hlo : 8 + (maxL + 11) + rm.locals ≤ R.locals) (hws : ∀ w ∈ ws, ∀ (a' : Array Value) (U : State), s.WarmedH U.vm → w.before a' U = true) (hcw : Cond.codeWith y bytes maxL ret hh ∈ ws)
    (hcode : (Cond.codeWith y bytes maxL ret hh).before args s = true) (hini : (Cond.initialized y.cls).before args s = true) (hd : y.cls ≠ "java/lang/invoke/MethodHandle" ∧ y.cls ≠ "java/lang/invoke/VarHandle" ∧ (parseMethodDescriptor y.desc).map (fun d => d.parameters.length) = some n)
    (hlk : (Cond.methodLink own index y).before args s = true) (hst : (Cond.static y).before args s = true) (hp : PreS s H Pc As)
    (hg : g.method = m) (hn : As.length = n) (hsize : g.locals.size = nL) (hstack : g.stack = As.reverse ++ rest) (hW : 2 * g.monitorRoom + (rest.map fun v => v.category).sum ≤ 8) (hdg : decode cc g.pc = .ok (.invokestatic index, 3)) (hf : cells + mc ≤ R.cells ∧ slots + ms ≤ R.slots) :
    va_Run p l e R s m args below meth c H locs cells slots mc ms g rest (Qc As.toArray) (free) := by
  have hK : Back l R p e below s args y 3 8 (PreOf R mc ms Pc) (PostOf Qc mc ms free) := va_backW hM hp.1 hrc hrs hfr hlo hws hcw (fun a' U hW => word_at hW (Or.inl (by first | rfl | simp [Cond.onTables, Cond.keeps, Cond.steady])) hini)
  obtain ⟨hx, hb, hml, ho, -⟩ := S
  intro T hT X
  obtain ⟨mk, methM, cM, hnamed, hmethM, -, -, -, -, -, -, hsigM⟩ := Cond.codeWith_spec hcode
  have hlen : As.length = methM.sig.parameters.length := by
    have h2 := hd.2.2
    rw [hsigM] at h2
    exact hn.trans (Option.some.inj h2).symm
  have hstatic : methM.isStatic = true := Cond.static_spec hnamed hmethM hst
  obtain ⟨kP, hkP, -⟩ := className_of_methodNamed hnamed
  have hinitP : kP.init = .initialized := Cond.initialized_spec (findClass_of_methodNamed hnamed) hkP hini
  have hdg' : decode c.code g.pc = .ok (.invokestatic index, 3) := by rw [hb]; exact hdg
  obtain ⟨vm₁, X₁, hstep₁⟩ := X.invokestatic hx ho hlk hnamed hmethM hstatic hkP hinitP ⟨hd.1, hd.2.1⟩ (g := g) hg (argsL := As) (rest := rest) hlen hstack hdg'
  obtain ⟨v, ⟨U', l2, c2, s2⟩, X', ⟨g', mk', t, L, e1, e2, hq, h1, hL, h2, h3⟩, hsteps⟩ := hK m meth c ⟨T.setVm vm₁, locs, cells, slots⟩ { g with stack := rest } (.invokestatic index) mk As.toArray X₁ hg (hsize.trans hml.symm) hdg' hW (X₁.named hnamed) ⟨hf.1, hf.2, hp.2 (T.setVm vm₁) hT X₁.warmed⟩
  dsimp only [Pt.U, Pt.locs, Pt.cells, Pt.slots] at X' e1 e2 h1 h2 h3 hsteps
  subst h1; subst h2; subst h3
  exact ⟨v, (T.setVm vm₁).calling g' mk' As.toArray, t, U', L, hT, X', hL, e1, e2, hq, fun target h => hstep₁ _ fun acts => by rw [doInvoke_state]; exact hsteps.trans h⟩
end HCALL
