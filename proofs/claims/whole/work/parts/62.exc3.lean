section EXC3
variable {p : Program} {l : Launch} {e : Env} {R : Room} {s : State} {m : MethodId} {args : Array Value} {below : List Frame} {meth : Method} {c : Code} {H H0 : Heap} {locs : List Loc} {cells slots : Nat} {Q : State → Prop}
variable {cc : ByteArray} {mc ms : Nat} {E : String} {B : State → Prop} {A F A0 : Nat → Prop} {free : Addr → Prop} {own : String} {rest st0 : List Value} {ls : Array Slot} {pc : Nat}
set_option maxHeartbeats 1000000 in
/-- throw new X("text") -/
theorem T_throw {X text : String} {ik is ic ix : Nat} {rx : ByteArray} (hx : p.tables.exec = Jvm.exec) (hb : c.code = cc) (hl : l.stackTraces = false) (hown : s.vm.findClass own = some m.cls) (hfit : Bundle.fit X = true) (hat : ∀ w ∈ xAt own ic X ix rx, w.before args s = true)
    (x0 : decode rx 0 = .ok (.aload_n 0, 1)) (x1 : decode rx 1 = .ok (.aload_n 1, 1)) (x2 : decode rx 2 = .ok (.invokespecial ix, 3)) (x5 : decode rx 5 = .ok (.return_, 1))
    (hcl : (Cond.classLink own ik X).before args s = true) (hini : (Cond.initialized X).before args s = true) (hstr : (Cond.stringRef own is text).before args s = true)
    (hsz : ls.size = c.maxLocals) (hemp : ∀ x ∈ c.exceptionTable.toList, False) (hlocks : meth.locks = false) (hS : va_S F s.heap H locs) (hFs : ∀ (q : Nat) (cell : Cell), s.heap[q]? = some cell → cell.vm.isStatics = true → ¬ F q)
    (hB : ∀ t : State, s.WarmedH t.vm → H.size ≤ t.heap.size → (∀ q : Nat, q < H.size → t.heap[q]? = H[q]?) → B t) (hfree : ∀ z ∈ locs, free z.base)
    (hc : cells + 1 ≤ R.cells) (hs : slots + 6 ≤ R.slots) (hmc : cells + 1 ≤ mc) (hms : slots + 6 ≤ ms) (hfr : 5 < R.frames) (hlo : (rest.map fun v => v.category).sum + 82 ≤ R.locals)
    (d0 : decode cc pc = .ok (.new ik, 3)) (d3 : decode cc (pc + 3) = .ok (.dup, 1)) (d4 : decode cc (pc + 4) = .ok (.ldc is, 2)) (d6 : decode cc (pc + 6) = .ok (.invokespecial ic, 3)) (d9 : decode cc (pc + 9) = .ok (.athrow, 1)) :
    W p l e R s m args below meth c H locs cells slots (TQ below X B F s mc ms free) (F0 m pc ls rest) := by
  intro T hT X0
  have htr : e.platform.stackTraces = false := by rw [X0.admits.platform]; exact hl
  obtain ⟨vm₁, cX, kX, hfX, hkX, -, -, X₁, st1⟩ := X0.newCold hx (own := own) (C := X) (index := ik) (n := 6) hown hcl (hat (.instantiable X 6) (by simp [xAt])) hini (g := F0 m pc ls rest) rfl (by rw [hb]; exact d0) hc hs
  generalize hT1 : (T.setVm vm₁).pushCell { cls := cX, slots := kX.instanceTypes.map defaultValue, vm := .none } = T1 at X₁ st1
  have hcellA : T1.heap[T.heap.size]? = some (freshCell cX kX) := by rw [← hT1]; exact State.heap_pushCell_size _ _
  have hold : ∀ q : Nat, q < T.heap.size → T1.heap[q]? = T.heap[q]? := fun q hq => by
    rw [← hT1]
    show (T.heap.push _)[q]? = T.heap[q]?
    rw [Array.getElem?_push_lt hq, Array.getElem?_eq_getElem hq]
  have hsT : s.heap.size ≤ T.heap.size := by rw [hT]; exact hS.1
  have hst : ∀ (q : Nat) (cell : Cell), s.heap[q]? = some cell → cell.vm.isStatics = true → T1.heap[q]? = some cell := fun q cell h1 h2 => by
    have hlt : q < s.heap.size := (Array.getElem?_eq_some_iff.mp h1).1
    rw [hold q (Nat.lt_of_lt_of_le hlt hsT), hT, hS.2.1 q hlt (hFs q cell h1 h2)]
    exact h1
  obtain ⟨-, -, -, sa, -, -, -, -, -, hev⟩ := Cond.stringRef_spec hown hstr
  obtain ⟨U, ce, hsteps, hrun, hend, hW, hsame, hce, hcv, hcc, hoth⟩ := thr_made X₁ hx htr (own := own) (cls := X) (ic := ic) hown hfit hat x0 x1 x2 x5 hst hfX hkX hcellA hsT (msg := .ref sa) rfl
    (g := F0 m (pc + 6) ls (.ref sa :: .ref T.heap.size :: .ref T.heap.size :: rest)) rfl hsz rfl rfl (rest := rest) rfl (by rw [hb]; exact d6) (by rw [hb]; exact d9) (fun x h => (hemp x h).elim) hfr
    (by
      show 2 * 0 + (1 + (rest.map fun v => v.category).sum) + 81 ≤ R.locals
      omega) hlocks
  have hkeep : ∀ q : Nat, q < H.size → U.heap[q]? = H[q]? := fun q hq => by
    rw [hoth q (by rw [hT]; omega), hold q (by rw [hT]; exact hq), hT]
  have hzU : H.size ≤ U.heap.size := by
    have h1 := hsteps.heap_le
    have h2 : T1.heap.size = H.size + 1 := by rw [← hT1]; show (T.heap.push _).size = _; rw [Array.size_push, hT]
    have h3 : (T1.setTop (F0 m (pc + 6) ls (.ref sa :: .ref T.heap.size :: .ref T.heap.size :: rest))).heap.size = T1.heap.size := by simp [State.setTop, State.modifyTopJava]
    omega
  refine ⟨U, ?_, .threw T.heap.size, hrun, hend, T.heap.size, ce, locs, rfl, hce, hcv, by rw [hcc]; exact hfX, hB U hW hzU hkeep, ?_, hW, hsame.mono hmc hms, hfree⟩
  · refine st1 _ ?_
    show Steps p.tables e below (T1.setTop (F0 m (pc + 3) ls (.ref T.heap.size :: rest))) _
    have d3' : decode c.code (pc + 3) = .ok (.dup, 1) := by rw [hb]; exact d3
    jvm_step X₁.here [X₁.here.top, hx, d3', Value.category]
    exact X₁.ldcString hx (own := own) (text := text) (index := is) (a := sa) hown hstr hev (g := F0 m (pc + 4) ls (.ref T.heap.size :: .ref T.heap.size :: rest)) rfl (by rw [hb]; exact d4) _ hsteps
  · exact ⟨Nat.le_trans hS.1 hzU, fun q h1 h2 => by rw [hkeep q (Nat.lt_of_lt_of_le h1 hS.1)]; exact hS.2.1 q h1 h2⟩
/-- a row of the table whose class isn't looked up yet -/
theorem fh_row {Qh : Handler → Pre} {Eh : CtlPost} {d : Bool} {acts : List Action} {S : State} {f : JFrame} {a : Addr} {x : ExceptionTableEntry} {t : List ExceptionTableEntry} {cT : ClassId} {cell : Cell} (hx : covers x f.pc = true) (h0 : x.catchType ≠ 0)
    (hl : S.vm.ClassLinks e.platform f.method.cls x.catchType cT) (hcell : S.heap[a]? = some cell) (hobj : ∀ k, cell.vm ≠ .statics k) (hk : ∃ k, S.vm.classes[cell.cls]? = some k) (hc : ∃ k, S.vm.classes[cT]? = some k) :
    wp (findHandler.go f a (x :: t)) Qh Eh e d acts S ↔ if S.vm.assignable cell.cls cT = true then Qh (.found x.handlerPc) d acts (S.setVm (S.vm.noted f.method.cls x.catchType (.cls cT))) else wp (findHandler.go f a t) Qh Eh e d acts (S.setVm (S.vm.noted f.method.cls x.catchType (.cls cT))) := by
  simp only [covers] at hx
  obtain ⟨ha, ht⟩ := (resolveClass_links e.toSetting hl).op (op := VmOp.resolveClass f.method.cls x.catchType) rfl
  have hal : S.vm.Alike (S.vm.noted f.method.cls x.catchType (.cls cT)) := (Vm.Alike.refl S.vm).noted _ _ _
  obtain ⟨k1, hk1⟩ := hk
  obtain ⟨k2, hk2⟩ := hc
  obtain ⟨k1', hk1', -⟩ := hal.2.2 _ _ hk1
  obtain ⟨k2', hk2', -⟩ := hal.2.2 _ _ hk2
  cases hfit : S.vm.assignable cell.cls cT with
  | true =>
    have hf' : (S.vm.noted f.method.cls x.catchType (.cls cT)).assignable cell.cls cT = true := by rw [hal.assignable]; exact hfit
    simp [findHandler.go, hx, h0, ha, ht, hcell, hobj, hk1', hk2', hf', VmOp.dirties, VmOp.acts]
  | false =>
    have hf' : (S.vm.noted f.method.cls x.catchType (.cls cT)).assignable cell.cls cT = false := by rw [hal.assignable]; exact hfit
    simp [findHandler.go, hx, h0, ha, ht, hcell, hobj, hk1', hk2', hf', VmOp.dirties, VmOp.acts]
/-- the search: rows that are passed by, then the row z that takes the object -/
theorem fh_go {s₀ : State} {f : JFrame} {a : Addr} {cell : Cell} (hobj : ∀ k, cell.vm ≠ .statics k) (hk0 : ∃ k, s₀.vm.classes[cell.cls]? = some k) (z : ExceptionTableEntry) (suf : List ExceptionTableEntry) (hz : covers z f.pc = true) (hz0 : z.catchType ≠ 0)
    (hzl : ∃ cT, s₀.vm.ClassLinks e.platform f.method.cls z.catchType cT ∧ s₀.vm.assignable cell.cls cT = true) :
    ∀ (pre : List ExceptionTableEntry) (S : State), s₀.WarmedH S.vm → S.heap[a]? = some cell → (∀ x ∈ pre, covers x f.pc = true ∧ x.catchType ≠ 0 ∧ ∃ cT, s₀.vm.ClassLinks e.platform f.method.cls x.catchType cT ∧ s₀.vm.assignable cell.cls cT = false) →
      ∃ vm', s₀.WarmedH vm' ∧ ∀ (Qh : Handler → Pre) (Eh : CtlPost) (d : Bool) (acts : List Action), wp (findHandler.go f a (pre ++ z :: suf)) Qh Eh e d acts S ↔ Qh (.found z.handlerPc) d acts (S.setVm vm') := by
  obtain ⟨k0, hk0⟩ := hk0
  intro pre
  induction pre with
  | nil =>
    intro S hW hcell _
    obtain ⟨cT, hl, hfit⟩ := hzl
    obtain ⟨k0', hk0', -⟩ := hW.alike.2.2 _ _ hk0
    obtain ⟨dk, _, _, kt, hd, _, _, _, _, hkt, _, hopen⟩ := hl.here
    obtain ⟨kt', hkt', -⟩ := hW.alike.2.2 _ _ hkt
    refine ⟨_, hW.noted hd hopen (State.rightAt_cls hl), fun Qh Eh d acts => ?_⟩
    rw [List.nil_append, fh_row hz hz0 (hW.classLinks hl) hcell hobj ⟨k0', hk0'⟩ ⟨kt', hkt'⟩, if_pos (by rw [hW.alike.assignable]; exact hfit)]
  | cons y ys ih =>
    intro S hW hcell hpass
    obtain ⟨hcov, h0, cT, hl, hno⟩ := hpass y List.mem_cons_self
    obtain ⟨k0', hk0', -⟩ := hW.alike.2.2 _ _ hk0
    obtain ⟨dk, _, _, kt, hd, _, _, _, _, hkt, _, hopen⟩ := hl.here
    obtain ⟨kt', hkt', -⟩ := hW.alike.2.2 _ _ hkt
    obtain ⟨vm', hW', hq⟩ := ih (S.setVm (S.vm.noted f.method.cls y.catchType (.cls cT))) (hW.noted hd hopen (State.rightAt_cls hl)) hcell (fun x hx => hpass x (List.mem_cons_of_mem _ hx))
    refine ⟨vm', hW', fun Qh Eh d acts => ?_⟩
    rw [List.cons_append, fh_row hcov h0 (hW.classLinks hl) hcell hobj ⟨k0', hk0'⟩ ⟨kt', hkt'⟩, if_neg (by rw [hW.alike.assignable, hno]; decide)]
    exact hq Qh Eh d acts
theorem st_catch {S : State} {a : Addr} {f : JFrame} {r : List Frame} {hp : Nat} {vm' : Vm} (hfind : ∀ (Qh : Handler → Pre) (Eh : CtlPost) (d : Bool) (acts : List Action), wp (findHandler f a) Qh Eh e d acts S ↔ Qh (.found hp) d acts (S.setVm vm')) :
    (stepThrowing e S a (.java f :: r)).Is ((S.setVm vm').setFrames (.java { f with pc := hp, stack := [.ref a] } :: r)) [] := by
  simp only [stepThrowing, searchFrame, vmDo]
  generalize hr : Sem.go _ e false [] S = res
  obtain ⟨as, rfl, ha⟩ := Sem.eq_ok_of hr (a := Handler.found hp) (s' := S.setVm vm') (acts' := []) (by simp [hfind _ _ _ _])
  exact ⟨rfl, ha⟩
set_option maxHeartbeats 1000000 in
/-- the exception is caught in this method -/
theorem T_caught {nm : String} (hr : T_Run p l e R s m args below meth c H locs cells slots mc ms (F0 m pc ls st0) rest E B A free) (hown : s.vm.findClass own = some m.cls)
    (pre : List ExceptionTableEntry) (z : ExceptionTableEntry) (suf : List ExceptionTableEntry) (hsplit : c.exceptionTable.toList = pre ++ z :: suf)
    (hpass : ∀ x ∈ pre, covers x pc = true ∧ x.catchType ≠ 0 ∧ ∃ n2 : String, (Cond.classLink own x.catchType n2).before args s = true ∧ va_Nc E n2 s) (hz : covers z pc = true) (hz0 : z.catchType ≠ 0)
    (hlink : (Cond.classLink own z.catchType nm).before args s = true) (hcast : (Cond.castable E nm).before args s = true)
    (hS : va_S A0 H0 H locs) (hA : ∀ q, q < H.size → A q → A0 q) (hf : ∀ q, free q → A0 q)
    (kk : ∀ (x : Nat) (t : State) (H1 : Heap) (locs1 : List Loc), t.heap = H1 → s.WarmedH t.vm → B t → H.size ≤ H1.size → (∀ q : Nat, q < H.size → ¬ A q → H1[q]? = H[q]?) → va_S A0 H0 H1 locs1 → W p l e R s m args below meth c H1 locs1 (cells + mc) (slots + ms) Q (F0 m z.handlerPc ls [.ref x])) :
    W p l e R s m args below meth c H locs cells slots Q (F0 m pc ls st0) := by
  intro T hT X
  obtain ⟨x, ce, t, T', L, X', hL, e1, e2, hce, hcv, hcl, hBt, hzz, hk, st⟩ := hr T hT X
  have hpl : e.platform.magicAccessors = ({} : Platform).magicAccessors := by rw [X.admits.platform]
  obtain ⟨c3, c4, hc3, hc4, hasg⟩ := Cond.castable_spec hcast
  cases Option.some.inj (hc3.symm.trans hcl)
  obtain ⟨c5, hc5, hcl5⟩ := Cond.classLink_spec hown hlink e.platform hpl
  cases Option.some.inj (hc4.symm.trans hc5)
  obtain ⟨g, hg⟩ : ∃ g : JFrame, g = F0 m pc ls rest := ⟨_, rfl⟩
  have hgm : g.method = m := by rw [hg]
  have hgp : g.pc = pc := by rw [hg]
  have hm' : ((T'.setTop g).pushFrame (.throwing x)).vm.method? g.method = some meth := by rw [Stand.throwing_vm, hgm]; exact X'.method'
  obtain ⟨vm', hW', hq⟩ := fh_go (e := e) (s₀ := s) (f := g) (a := x) (cell := ce) (fun k h => by rw [hcv] at h; cases h) (by obtain ⟨k9, h9, -⟩ := Vm.findClass_spec hcl; exact ⟨k9, h9⟩) z suf (by rw [hgp]; exact hz) hz0 ⟨c4, by rw [hgm]; exact hcl5, hasg⟩ pre ((T'.setTop g).pushFrame (.throwing x)) (by rw [Stand.throwing_vm]; exact X'.warmed) (by rw [Stand.throwing_heap]; exact hce)
    (fun y hy => by
      obtain ⟨h1, h2, n2, h3, h4⟩ := hpass y hy
      obtain ⟨c6, hc6, hcl6⟩ := Cond.classLink_spec hown h3 e.platform hpl
      obtain ⟨a8, b8, g1, g2, g3⟩ := h4
      cases Option.some.inj (g1.symm.trans hcl)
      cases Option.some.inj (g2.symm.trans hc6)
      exact ⟨by rw [hgp]; exact h1, h2, _, by rw [hgm]; exact hcl6, g3⟩)
  have hfind : ∀ (Qh : Handler → Pre) (Eh : CtlPost) (d : Bool) (acts : List Action), wp (findHandler g x) Qh Eh e d acts ((T'.setTop g).pushFrame (.throwing x)) ↔ Qh (.found z.handlerPc) d acts (((T'.setTop g).pushFrame (.throwing x)).setVm vm') := fun Qh Eh d acts => by
    rw [Jvm.W.findHandler_eq hm' X'.code, hsplit]
    exact hq Qh Eh d acts
  have X2 := X'.noted hW'
  obtain ⟨t2, a1, b1⟩ := kk x t T'.heap (locs ++ L) e1.symm (by rw [← e2]; exact X'.warmed) hBt hzz hk
    ⟨Nat.le_trans hS.1 hzz, fun q h1 h2 => by rw [hk q (Nat.lt_of_lt_of_le h1 hS.1) (fun w => h2 (hA q (Nat.lt_of_lt_of_le h1 hS.1) w))]; exact hS.2.1 q h1 h2, fun q hq => by
      rcases List.mem_append.mp hq with h | h
      · exact hS.2.2 q h
      · exact hf _ (hL q h)⟩ (T'.setVm vm') rfl X2
  refine ⟨t2, st.trans ?_, b1⟩
  have hAt : At T' g.method c below := by rw [hgm]; exact X'.here
  obtain ⟨hgo, hw⟩ := hAt.throwing x
  have hg2 : ({ (F0 m pc ls st0) with stack := rest } : JFrame) = g := by rw [hg]
  rw [hg2]
  refine Steps.head hgo hw ?_
  rw [stepThread_throwing (frames_entered hAt.top _), (st_catch (S := (T'.setTop g).pushFrame (.throwing x)) hfind).1]
  obtain ⟨g₀, hg0⟩ := Option.isSome_iff_exists.mp hAt.top
  obtain ⟨r, hr9⟩ := State.topJava?_eq_some.mp hg0
  have hr8 : (T'.setVm vm').frames = .java g₀ :: r := hr9
  have a1' := a1
  rw [State.setTop_of_frames _ hr8] at a1'
  have h8 : (((T'.setTop g).pushFrame (.throwing x)).setVm vm').setFrames (.java { g with pc := z.handlerPc, stack := [.ref x] } :: T'.frames.tail) = (T'.setVm vm').setFrames (.java (F0 m z.handlerPc ls [.ref x]) :: r) := by
    rw [State.pushFrame, State.setTop_of_frames _ hr9, State.setFrames_setFrames, hr9, hg]
    show ((T'.setVm vm').setFrames _).setFrames _ = _
    rw [State.setFrames_setFrames]
    rfl
  rw [h8]
  exact a1'
end EXC3
