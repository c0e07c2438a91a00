theorem wd_34 : (Jvm.Cond.methodLink "LanguageServer$Reading" (3 : Nat) ({ cls := "java/lang/Object", name := "<init>", desc := "()V" } : Jvm.MethodName)) ∈ Tg := tg_1 (i := 34) rfl rfl
theorem wd_35 : (Jvm.Cond.classLink "LanguageServer$Reading" (9 : Nat) "LanguageServer$Text") ∈ Tg := tg_1 (i := 35) rfl rfl
theorem wd_36 : (Jvm.Cond.instantiable "LanguageServer$Text" (2 : Nat)) ∈ Tg := tg_1 (i := 36) rfl rfl
theorem wd_38 : (Jvm.Cond.instanceMethod ({ cls := "LanguageServer$Text", name := "<init>", desc := "()V" } : Jvm.MethodName)) ∈ Tg := tg_1 (i := 38) rfl rfl
theorem wd_39 : (Jvm.Cond.code ({ cls := "LanguageServer$Text", name := "<init>", desc := "()V" } : Jvm.MethodName) prog_10_method_1_code (1 : Nat) (Option.none : Option Jvm.ClassFile.FieldType)) ∈ Tg := tg_1 (i := 39) rfl rfl
theorem wd_40 : (Jvm.Cond.methodLink "LanguageServer$Text" (3 : Nat) ({ cls := "java/lang/Object", name := "<init>", desc := "()V" } : Jvm.MethodName)) ∈ Tg := tg_1 (i := 40) rfl rfl
theorem wd_53 : (Jvm.Cond.arrayClass Jvm.ClassFile.FieldType.int) ∈ Tg := tg_1 (i := 53) rfl rfl
theorem wd_54 : (Jvm.Cond.classLink "LanguageServer$Reading" (18 : Nat) "LanguageServer$Tokens") ∈ Tg := tg_1 (i := 54) rfl rfl
theorem wd_55 : (Jvm.Cond.instantiable "LanguageServer$Tokens" (5 : Nat)) ∈ Tg := tg_1 (i := 55) rfl rfl
theorem wd_57 : (Jvm.Cond.instanceMethod ({ cls := "LanguageServer$Tokens", name := "<init>", desc := "()V" } : Jvm.MethodName)) ∈ Tg := tg_1 (i := 57) rfl rfl
theorem wd_58 : (Jvm.Cond.code ({ cls := "LanguageServer$Tokens", name := "<init>", desc := "()V" } : Jvm.MethodName) prog_11_method_1_code (1 : Nat) (Option.none : Option Jvm.ClassFile.FieldType)) ∈ Tg := tg_1 (i := 58) rfl rfl
theorem wd_59 : (Jvm.Cond.methodLink "LanguageServer$Tokens" (3 : Nat) ({ cls := "java/lang/Object", name := "<init>", desc := "()V" } : Jvm.MethodName)) ∈ Tg := tg_1 (i := 59) rfl rfl
theorem wd_89 : (Jvm.Cond.arrayClass Jvm.ClassFile.FieldType.long) ∈ Tg := tg_1 (i := 89) rfl rfl
theorem wd_90 : (Jvm.Cond.classLink "LanguageServer$Reading" (25 : Nat) "LanguageServer$Outline") ∈ Tg := tg_1 (i := 90) rfl rfl
theorem wd_91 : (Jvm.Cond.instantiable "LanguageServer$Outline" (10 : Nat)) ∈ Tg := tg_1 (i := 91) rfl rfl
theorem wd_92 : (Jvm.Cond.methodLink "LanguageServer$Reading" (27 : Nat) ({ cls := "LanguageServer$Outline", name := "<init>", desc := "(LLanguageServer$Tokens;)V" } : Jvm.MethodName)) ∈ Tg := tg_1 (i := 92) rfl rfl
theorem wd_93 : (Jvm.Cond.instanceMethod ({ cls := "LanguageServer$Outline", name := "<init>", desc := "(LLanguageServer$Tokens;)V" } : Jvm.MethodName)) ∈ Tg := tg_1 (i := 93) rfl rfl
theorem wd_94 : (Jvm.Cond.code ({ cls := "LanguageServer$Outline", name := "<init>", desc := "(LLanguageServer$Tokens;)V" } : Jvm.MethodName) prog_5_method_1_code (2 : Nat) (Option.none : Option Jvm.ClassFile.FieldType)) ∈ Tg := tg_1 (i := 94) rfl rfl
theorem wd_95 : (Jvm.Cond.methodLink "LanguageServer$Outline" (3 : Nat) ({ cls := "java/lang/Object", name := "<init>", desc := "()V" } : Jvm.MethodName)) ∈ Tg := tg_1 (i := 95) rfl rfl
theorem wd_147 : (Jvm.Cond.classLink "LanguageServer$Reading" (34 : Nat) "LanguageServer$Complaints") ∈ Tg := tg_1 (i := 147) rfl rfl
theorem wd_148 : (Jvm.Cond.instantiable "LanguageServer$Complaints" (2 : Nat)) ∈ Tg := tg_1 (i := 148) rfl rfl
theorem wd_150 : (Jvm.Cond.instanceMethod ({ cls := "LanguageServer$Complaints", name := "<init>", desc := "()V" } : Jvm.MethodName)) ∈ Tg := tg_1 (i := 150) rfl rfl
theorem wd_151 : (Jvm.Cond.code ({ cls := "LanguageServer$Complaints", name := "<init>", desc := "()V" } : Jvm.MethodName) prog_2_method_1_code (1 : Nat) (Option.none : Option Jvm.ClassFile.FieldType)) ∈ Tg := tg_1 (i := 151) rfl rfl
theorem wd_152 : (Jvm.Cond.methodLink "LanguageServer$Complaints" (3 : Nat) ({ cls := "java/lang/Object", name := "<init>", desc := "()V" } : Jvm.MethodName)) ∈ Tg := tg_1 (i := 152) rfl rfl
theorem wd_160 : (Jvm.Cond.classLink "LanguageServer$Reading" (41 : Nat) "LanguageServer$Parser") ∈ Tg := tg_1 (i := 160) rfl rfl
theorem wd_161 : (Jvm.Cond.instantiable "LanguageServer$Parser" (8 : Nat)) ∈ Tg := tg_1 (i := 161) rfl rfl
theorem wd_162 : (Jvm.Cond.methodLink "LanguageServer$Reading" (43 : Nat) ({ cls := "LanguageServer$Parser", name := "<init>", desc := "(LLanguageServer$Tokens;LLanguageServer$Outline;LLanguageServer$Complaints;)V" } : Jvm.MethodName)) ∈ Tg := tg_1 (i := 162) rfl rfl
theorem wd_163 : (Jvm.Cond.instanceMethod ({ cls := "LanguageServer$Parser", name := "<init>", desc := "(LLanguageServer$Tokens;LLanguageServer$Outline;LLanguageServer$Complaints;)V" } : Jvm.MethodName)) ∈ Tg := tg_1 (i := 163) rfl rfl
theorem wd_164 : (Jvm.Cond.code ({ cls := "LanguageServer$Parser", name := "<init>", desc := "(LLanguageServer$Tokens;LLanguageServer$Outline;LLanguageServer$Complaints;)V" } : Jvm.MethodName) prog_6_method_1_code (4 : Nat) (Option.none : Option Jvm.ClassFile.FieldType)) ∈ Tg := tg_1 (i := 164) rfl rfl
theorem wd_165 : (Jvm.Cond.methodLink "LanguageServer$Parser" (3 : Nat) ({ cls := "java/lang/Object", name := "<init>", desc := "()V" } : Jvm.MethodName)) ∈ Tg := tg_1 (i := 165) rfl rfl
theorem wd_191 : (Jvm.Cond.classLink "LanguageServer$Reading" (50 : Nat) "LanguageServer$Declarer") ∈ Tg := tg_1 (i := 191) rfl rfl
theorem wd_192 : (Jvm.Cond.instantiable "LanguageServer$Declarer" (6 : Nat)) ∈ Tg := tg_1 (i := 192) rfl rfl
theorem wd_193 : (Jvm.Cond.methodLink "LanguageServer$Reading" (52 : Nat) ({ cls := "LanguageServer$Declarer", name := "<init>", desc := "(LLanguageServer$Tokens;LLanguageServer$Outline;LLanguageServer$Complaints;)V" } : Jvm.MethodName)) ∈ Tg := tg_1 (i := 193) rfl rfl
theorem wd_194 : (Jvm.Cond.instanceMethod ({ cls := "LanguageServer$Declarer", name := "<init>", desc := "(LLanguageServer$Tokens;LLanguageServer$Outline;LLanguageServer$Complaints;)V" } : Jvm.MethodName)) ∈ Tg := tg_1 (i := 194) rfl rfl
theorem wd_195 : (Jvm.Cond.code ({ cls := "LanguageServer$Declarer", name := "<init>", desc := "(LLanguageServer$Tokens;LLanguageServer$Outline;LLanguageServer$Complaints;)V" } : Jvm.MethodName) prog_3_method_1_code (4 : Nat) (Option.none : Option Jvm.ClassFile.FieldType)) ∈ Tg := tg_1 (i := 195) rfl rfl
theorem wd_196 : (Jvm.Cond.methodLink "LanguageServer$Declarer" (3 : Nat) ({ cls := "java/lang/Object", name := "<init>", desc := "()V" } : Jvm.MethodName)) ∈ Tg := tg_1 (i := 196) rfl rfl
theorem wd_216 : (Jvm.Cond.classLink "LanguageServer$Reading" (57 : Nat) "LanguageServer$Judge") ∈ Tg := tg_1 (i := 216) rfl rfl
theorem wd_217 : (Jvm.Cond.instantiable "LanguageServer$Judge" (15 : Nat)) ∈ Tg := tg_1 (i := 217) rfl rfl
theorem wd_218 : (Jvm.Cond.methodLink "LanguageServer$Reading" (59 : Nat) ({ cls := "LanguageServer$Judge", name := "<init>", desc := "(LLanguageServer$Tokens;LLanguageServer$Outline;LLanguageServer$Complaints;)V" } : Jvm.MethodName)) ∈ Tg := tg_1 (i := 218) rfl rfl
theorem wd_219 : (Jvm.Cond.instanceMethod ({ cls := "LanguageServer$Judge", name := "<init>", desc := "(LLanguageServer$Tokens;LLanguageServer$Outline;LLanguageServer$Complaints;)V" } : Jvm.MethodName)) ∈ Tg := tg_1 (i := 219) rfl rfl
theorem wd_220 : (Jvm.Cond.code ({ cls := "LanguageServer$Judge", name := "<init>", desc := "(LLanguageServer$Tokens;LLanguageServer$Outline;LLanguageServer$Complaints;)V" } : Jvm.MethodName) prog_4_method_1_code (4 : Nat) (Option.none : Option Jvm.ClassFile.FieldType)) ∈ Tg := tg_1 (i := 220) rfl rfl
theorem wd_221 : (Jvm.Cond.methodLink "LanguageServer$Judge" (3 : Nat) ({ cls := "java/lang/Object", name := "<init>", desc := "()V" } : Jvm.MethodName)) ∈ Tg := tg_1 (i := 221) rfl rfl
theorem wd_268 : (Jvm.Cond.arrayClass Jvm.ClassFile.FieldType.boolean) ∈ Tg := tg_2 (i := 28) rfl rfl
theorem wd_898 : (Jvm.Cond.methodLink "LanguageServerModel" (1 : Nat) ({ cls := "java/lang/Object", name := "<init>", desc := "()V" } : Jvm.MethodName)) ∈ Tg := tg_4 (i := 178) rfl rfl
theorem wd_927 : (Jvm.Cond.fieldLink "LanguageServerModel" (75 : Nat) "LanguageServerModel" "given" "[I") ∈ Tg := tg_4 (i := 207) rfl rfl
def KC (U : State) : Prop := va_Nw (Jvm.Cond.methodLinkNest "LanguageServer" (9 : Nat) ({ cls := "LanguageServer$Reading", name := "<init>", desc := "()V" } : Jvm.MethodName) "LanguageServer") U ∧ va_Nw (Jvm.Cond.methodLinkNest "LanguageServer$Reading" (11 : Nat) ({ cls := "LanguageServer$Text", name := "<init>", desc := "()V" } : Jvm.MethodName) "LanguageServer") U ∧ va_Nw (Jvm.Cond.methodLinkNest "LanguageServer$Reading" (20 : Nat) ({ cls := "LanguageServer$Tokens", name := "<init>", desc := "()V" } : Jvm.MethodName) "LanguageServer") U ∧ va_Nw (Jvm.Cond.methodLinkNest "LanguageServer$Reading" (36 : Nat) ({ cls := "LanguageServer$Complaints", name := "<init>", desc := "()V" } : Jvm.MethodName) "LanguageServer") U
theorem KC.warm {s U : State} (hW : s.WarmedH U.vm) (h : KC s) : KC U := ⟨va_Nw.warmM hW h.1, va_Nw.warmM hW h.2.1, va_Nw.warmM hW h.2.2.1, va_Nw.warmM hW h.2.2.2⟩
theorem KC.same {s U : State} (hv : s.vm = U.vm) (h : KC s) : KC U := ⟨va_Nw.same rfl hv h.1, va_Nw.same rfl hv h.2.1, va_Nw.same rfl hv h.2.2.1, va_Nw.same rfl hv h.2.2.2⟩
section CTOR
variable {p : Program} {l : Launch} {e : Env} {R : Room} {s : State} {m : MethodId} {args : Array Value} {below : List Frame} {meth : Method} {c : Code} {H H0 : Heap} {locs : List Loc} {cells slots : Nat} {Q : State → Prop}
variable {cc : ByteArray} {pc : Nat} {ls : Array Slot} {rest : List Value} {K : Kst} {A : Nat → Prop} {ws : va_W}
theorem zero_i (n : Nat) (cA : ClassId) : vp_cell cA (n, .inl fun _ => 0) = arrV cA n (fun _ => defaultValue .int) := rfl
theorem zero_z (n : Nat) (cA : ClassId) : vp_cell cA (n, .inl fun _ => 0) = arrV cA n (fun _ => defaultValue .boolean) := rfl
theorem zero_l (n : Nat) (cA : ClassId) : vp_cell cA (n, .inr (.inl fun _ => 0)) = arrV cA n (fun _ => defaultValue .long) := rfl
theorem C_newi (hx : p.tables.exec = Jvm.exec) (hb : c.code = cc) (hg : ∀ w ∈ Tg, w.before args s = true) (hK : RK K s) (hP : va_P K.1 vwCl ws H) (hD : va_D A ws) (hS : va_S A H0 H locs) (hA : ∀ q, H0.size ≤ q → A q) {n : Int32} {N : Nat} (hn : ¬ n < 0) (hN : n.toNatClampNeg = N) (hby : N * componentBytes .int ≤ 536870912) (hc : cells + 1 ≤ R.cells) (hs : slots + N ≤ R.slots) (hdg : decode cc pc = .ok (.newarray .int, 2))
    (kk : ∀ (q : Nat) (H1 : Heap), va_P K.1 vwCl (ws ++ [(q, .inl (K.2.1, N, .inl fun _ => 0))]) H1 → va_D A (ws ++ [(q, .inl (K.2.1, N, .inl fun _ => 0))]) → va_S A H0 H1 locs → W p l e R s m args below meth c H1 locs (cells + 1) (slots + N) Q (F0 m (pc + 2) ls (.ref q :: rest))) : W p l e R s m args below meth c H locs cells slots Q (F0 m pc ls (.int n :: rest)) := by
  refine va_newa (atype := .int) hx hb (hg _ wd_53) (ty := .int) rfl hK.1 hP hD hS hA (a0 := (N, .inl fun _ => 0)) (zero_i N) hn hN hby hc hs hdg (fun q cA H1 hK1 hP1 hD1 hS1 => ?_)
  have h1 : s.vm.findClass ("[" ++ FieldType.int.toString) = some cA := (hK1.2 3 _ rfl).2
  have h2 : s.vm.findClass ("[" ++ FieldType.int.toString) = some K.2.1 := (hK.1.2 0 _ rfl).2
  cases Option.some.inj (h1.symm.trans h2)
  exact kk q H1 hP1 hD1 hS1
theorem C_newl (hx : p.tables.exec = Jvm.exec) (hb : c.code = cc) (hg : ∀ w ∈ Tg, w.before args s = true) (hK : RK K s) (hP : va_P K.1 vwCl ws H) (hD : va_D A ws) (hS : va_S A H0 H locs) (hA : ∀ q, H0.size ≤ q → A q) {n : Int32} {N : Nat} (hn : ¬ n < 0) (hN : n.toNatClampNeg = N) (hby : N * componentBytes .long ≤ 536870912) (hc : cells + 1 ≤ R.cells) (hs : slots + N ≤ R.slots) (hdg : decode cc pc = .ok (.newarray .long, 2))
    (kk : ∀ (q : Nat) (H1 : Heap), va_P K.1 vwCl (ws ++ [(q, .inl (K.2.2.1, N, .inr (.inl fun _ => 0)))]) H1 → va_D A (ws ++ [(q, .inl (K.2.2.1, N, .inr (.inl fun _ => 0)))]) → va_S A H0 H1 locs → W p l e R s m args below meth c H1 locs (cells + 1) (slots + N) Q (F0 m (pc + 2) ls (.ref q :: rest))) : W p l e R s m args below meth c H locs cells slots Q (F0 m pc ls (.int n :: rest)) := by
  refine va_newa (atype := .long) hx hb (hg _ wd_89) (ty := .long) rfl hK.1 hP hD hS hA (a0 := (N, .inr (.inl fun _ => 0))) (zero_l N) hn hN hby hc hs hdg (fun q cA H1 hK1 hP1 hD1 hS1 => ?_)
  have h1 : s.vm.findClass ("[" ++ FieldType.long.toString) = some cA := (hK1.2 3 _ rfl).2
  have h2 : s.vm.findClass ("[" ++ FieldType.long.toString) = some K.2.2.1 := (hK.1.2 1 _ rfl).2
  cases Option.some.inj (h1.symm.trans h2)
  exact kk q H1 hP1 hD1 hS1
theorem C_newz (hx : p.tables.exec = Jvm.exec) (hb : c.code = cc) (hg : ∀ w ∈ Tg, w.before args s = true) (hK : RK K s) (hP : va_P K.1 vwCl ws H) (hD : va_D A ws) (hS : va_S A H0 H locs) (hA : ∀ q, H0.size ≤ q → A q) {n : Int32} {N : Nat} (hn : ¬ n < 0) (hN : n.toNatClampNeg = N) (hby : N * componentBytes .boolean ≤ 536870912) (hc : cells + 1 ≤ R.cells) (hs : slots + N ≤ R.slots) (hdg : decode cc pc = .ok (.newarray .boolean, 2))
    (kk : ∀ (q : Nat) (H1 : Heap), va_P K.1 vwCl (ws ++ [(q, .inl (K.2.2.2, N, .inl fun _ => 0))]) H1 → va_D A (ws ++ [(q, .inl (K.2.2.2, N, .inl fun _ => 0))]) → va_S A H0 H1 locs → W p l e R s m args below meth c H1 locs (cells + 1) (slots + N) Q (F0 m (pc + 2) ls (.ref q :: rest))) : W p l e R s m args below meth c H locs cells slots Q (F0 m pc ls (.int n :: rest)) := by
  refine va_newa (atype := .boolean) hx hb (hg _ wd_268) (ty := .boolean) rfl hK.1 hP hD hS hA (a0 := (N, .inl fun _ => 0)) (zero_z N) hn hN hby hc hs hdg (fun q cA H1 hK1 hP1 hD1 hS1 => ?_)
  have h1 : s.vm.findClass ("[" ++ FieldType.boolean.toString) = some cA := (hK1.2 3 _ rfl).2
  have h2 : s.vm.findClass ("[" ++ FieldType.boolean.toString) = some K.2.2.2 := (hK.1.2 2 _ rfl).2
  cases Option.some.inj (h1.symm.trans h2)
  exact kk q H1 hP1 hD1 hS1
end CTOR
def σR : Sto := (fun k => if k = 5 then -1 else 0, fun _ _ => 0, fun _ => 0)
def σR0 : Sto := (fun _ => 0, fun _ _ => 0, fun _ => 0)
abbrev y_Text_init : MethodName := ⟨"LanguageServer$Text", "<init>", "()V"⟩
abbrev b_Text_init : ByteArray := prog_10_method_1_code
theorem d_Text_init_0 : decode b_Text_init 0 = .ok (.aload_n 0, 1) := by decide +kernel
theorem d_Text_init_1 : decode b_Text_init 1 = .ok (.invokespecial 3, 3) := by decide +kernel
theorem d_Text_init_4 : decode b_Text_init 4 = .ok (.aload_n 0, 1) := by decide +kernel
theorem d_Text_init_5 : decode b_Text_init 5 = .ok (.sipush 240, 3) := by decide +kernel
theorem d_Text_init_8 : decode b_Text_init 8 = .ok (.newarray .int, 2) := by decide +kernel
theorem d_Text_init_10 : decode b_Text_init 10 = .ok (.putfield 9, 3) := by decide +kernel
theorem d_Text_init_13 : decode b_Text_init 13 = .ok (.return_, 1) := by decide +kernel
abbrev w_Text_init : List Cond := Cond.code y_Text_init b_Text_init 1 none :: Tg
theorem ds_Text_init : y_Text_init.cls ≠ "java/lang/invoke/MethodHandle" ∧ y_Text_init.cls ≠ "java/lang/invoke/VarHandle" ∧ (parseMethodDescriptor y_Text_init.desc).map (fun d => d.parameters.length) = some 0 := by decide +kernel
theorem bl_Text : ∀ j, j < 2 → defaultValue (t_Text j) = vp_V [.null, .int 0] j := by
  intro j hj
  match j, hj with
  | 0, _ => rfl
  | 1, _ => rfl
  | k + 2, h => exact absurd h (by omega)
set_option maxHeartbeats 4000000 in
set_option maxRecDepth 100000 in
theorem c_Text_init (l : Launch) (K : Kst) (q0 sz : Nat) : Met l y_Text_init w_Text_init { frames := 1, cells := 1, slots := 240, locals := 12 } (va_Pc [.ref q0] (fun U => U.heap.size = sz ∧ va_P K.1 vwCl [(q0, .inr (2, [.null, .int 0]))] U.heap ∧ RK K U)) (va_Qv (S := Nat → Nat) (fun u => True) (fun u t => va_P K.1 vwCl ([(q0, .inr (2, [.ref (u 0), .int 0])), ((u 0), .inl (K.2.1, 240, .inl fun _ => 0))]) t.heap ∧ va_D (va_A [(q0, .inr (2, [.null, .int 0]))] sz) ([(q0, .inr (2, [.ref (u 0), .int 0])), ((u 0), .inl (K.2.1, 240, .inl fun _ => 0))])) (va_A [(q0, .inr (2, [.null, .int 0]))] sz)) 1 240 (va_A [(q0, .inr (2, [.null, .int 0]))] sz) := by
  refine Met.ofW (cc := b_Text_init) (maxL := 1) (ret := none) (by decide) rfl ?_
  intro p e s m args below meth c s₁ Bd hml hv
  obtain ⟨rfl, hsz, hP, hK⟩ := hv
  have hx := Bd.exec
  have hb := Bd.bytes
  have hr := Bd.returns
  have hts := atoms_spec (ws := w_Text_init) Bd.pre
  have hg : ∀ w ∈ Tg, w.before _ s = true := fun w q => hts w (List.mem_cons_of_mem _ q)
  have hown : s.vm.findClass "LanguageServer$Text" = some m.cls := findClass_of_methodNamed Bd.named
  have hlocks := Bd.notSynchronized
  have hin : meth.name = "<init>" := (name_of_methodNamed Bd.named Bd.method).1
  subst hsz
  have hD : va_D (va_A [(q0, .inr (2, [.null, .int 0]))] s.heap.size) [(q0, .inr (2, [.null, .int 0]))] := (one_D (F := fun _ => True) trivial).self
  generalize hAe : va_A [(q0, .inr (2, [.null, .int 0]))] s.heap.size = A at hD ⊢
  have hA : ∀ q : Nat, s.heap.size ≤ q → A q := fun q h => by rw [← hAe]; exact Or.inr h
  have hS : va_S A s.heap s.heap [] := va_S.rf
  have hl := lv_entry ([.ref q0]) (n := 1) (Nat.le_of_ble_eq_true rfl)
  rw [lg_entry_eq]
  generalize (lg_sl ([.ref q0]) ++ List.replicate (1 - (lg_sl ([.ref q0])).length) Slot.unset).toArray = ls at hl ⊢
  have hl : lv_has ls 1 [(0, .ref q0)] := hl
  refine lv_aload_n hx hb d_Text_init_0 rfl (lv_at hl 0 rfl) ?_
  refine W.objInit hx hb hown (hg _ wd_40) (hg _ wd_27) (hg _ wd_28) rfl (by rw [hml]; exact hl.1) rfl d_Text_init_1 (Nat.le_of_ble_eq_true rfl) (Nat.le_of_ble_eq_true rfl) ?_
  refine W.eq (g2 := F0 m 4 ls []) rfl ?_
  refine lv_aload_n hx hb d_Text_init_4 rfl (lv_at hl 0 rfl) ?_
  refine lv_sipush (v := 240) hx hb d_Text_init_5 (by decide) ?_
  refine C_newi (N := 240) hx hb hg hK hP hD hS hA (by decide) (by decide) (by decide) (Nat.le_of_ble_eq_true rfl) (Nat.le_of_ble_eq_true rfl) d_Text_init_8 (fun q8 H hP hD hS => ?_)
  refine W.widen (k := 1) (n := 240) (by omega) (by omega) ?_
  have hP : va_P K.1 vwCl [(q0, .inr (2, [.null, .int 0])), (q8, .inl (K.2.1, 240, .inl fun _ => 0))] H := hP
  have hD : va_D A [(q0, .inr (2, [.null, .int 0])), (q8, .inl (K.2.1, 240, .inl fun _ => 0))] := hD
  refine va_putF (D := K.1) (ci := 2) (v := .ref q8) (ty := .array .int) (C := "LanguageServer$Text") (T := T_Text) (N := 2) hx hb hg in_Text t_Text t_Text_ok n_Text hown hK.1 hP hD hS 0 rfl rfl 0 (by decide) (hg _ wd_41) (fun _ h9 => h9) rfl hin rfl (by decide +kernel) rfl rfl (Nat.le_of_ble_eq_true rfl) d_Text_init_10 (fun H locs hP hD hS => ?_)
  have hP : va_P K.1 vwCl [(q0, .inr (2, [.ref q8, .int 0])), (q8, .inl (K.2.1, 240, .inl fun _ => 0))] H := hP
  have hD : va_D A [(q0, .inr (2, [.ref q8, .int 0])), (q8, .inl (K.2.1, 240, .inl fun _ => 0))] := hD
  exact W.vret hx hb hr (fun t ht hW => ⟨⟨fun k => [q8].getD k 0, rfl, trivial, by show va_P K.1 vwCl _ t.heap; rw [ht]; exact hP, hD⟩, hS.F ht⟩) hS.2.2 d_Text_init_13
abbrev y_Tokens_init : MethodName := ⟨"LanguageServer$Tokens", "<init>", "()V"⟩
abbrev b_Tokens_init : ByteArray := prog_11_method_1_code
theorem d_Tokens_init_0 : decode b_Tokens_init 0 = .ok (.aload_n 0, 1) := by decide +kernel
theorem d_Tokens_init_1 : decode b_Tokens_init 1 = .ok (.invokespecial 3, 3) := by decide +kernel
theorem d_Tokens_init_4 : decode b_Tokens_init 4 = .ok (.aload_n 0, 1) := by decide +kernel
theorem d_Tokens_init_5 : decode b_Tokens_init 5 = .ok (.bipush 121, 2) := by decide +kernel
theorem d_Tokens_init_7 : decode b_Tokens_init 7 = .ok (.newarray .int, 2) := by decide +kernel
theorem d_Tokens_init_9 : decode b_Tokens_init 9 = .ok (.putfield 11, 3) := by decide +kernel
theorem d_Tokens_init_12 : decode b_Tokens_init 12 = .ok (.aload_n 0, 1) := by decide +kernel
theorem d_Tokens_init_13 : decode b_Tokens_init 13 = .ok (.bipush 121, 2) := by decide +kernel
theorem d_Tokens_init_15 : decode b_Tokens_init 15 = .ok (.newarray .int, 2) := by decide +kernel
theorem d_Tokens_init_17 : decode b_Tokens_init 17 = .ok (.putfield 15, 3) := by decide +kernel
theorem d_Tokens_init_20 : decode b_Tokens_init 20 = .ok (.aload_n 0, 1) := by decide +kernel
theorem d_Tokens_init_21 : decode b_Tokens_init 21 = .ok (.bipush 121, 2) := by decide +kernel
theorem d_Tokens_init_23 : decode b_Tokens_init 23 = .ok (.newarray .int, 2) := by decide +kernel
theorem d_Tokens_init_25 : decode b_Tokens_init 25 = .ok (.putfield 18, 3) := by decide +kernel
theorem d_Tokens_init_28 : decode b_Tokens_init 28 = .ok (.aload_n 0, 1) := by decide +kernel
theorem d_Tokens_init_29 : decode b_Tokens_init 29 = .ok (.bipush 121, 2) := by decide +kernel
theorem d_Tokens_init_31 : decode b_Tokens_init 31 = .ok (.newarray .long, 2) := by decide +kernel
theorem d_Tokens_init_33 : decode b_Tokens_init 33 = .ok (.putfield 21, 3) := by decide +kernel
theorem d_Tokens_init_36 : decode b_Tokens_init 36 = .ok (.return_, 1) := by decide +kernel
abbrev w_Tokens_init : List Cond := Cond.code y_Tokens_init b_Tokens_init 1 none :: Tg
theorem ds_Tokens_init : y_Tokens_init.cls ≠ "java/lang/invoke/MethodHandle" ∧ y_Tokens_init.cls ≠ "java/lang/invoke/VarHandle" ∧ (parseMethodDescriptor y_Tokens_init.desc).map (fun d => d.parameters.length) = some 0 := by decide +kernel
theorem bl_Tokens : ∀ j, j < 5 → defaultValue (t_Tokens j) = vp_V [.null, .null, .null, .null, .int 0] j := by
  intro j hj
  match j, hj with
  | 0, _ => rfl
  | 1, _ => rfl
  | 2, _ => rfl
  | 3, _ => rfl
  | 4, _ => rfl
  | k + 5, h => exact absurd h (by omega)
set_option maxHeartbeats 4000000 in
set_option maxRecDepth 100000 in
theorem c_Tokens_init (l : Launch) (K : Kst) (q0 sz : Nat) : Met l y_Tokens_init w_Tokens_init { frames := 1, cells := 4, slots := 484, locals := 12 } (va_Pc [.ref q0] (fun U => U.heap.size = sz ∧ va_P K.1 vwCl [(q0, .inr (3, [.null, .null, .null, .null, .int 0]))] U.heap ∧ RK K U)) (va_Qv (S := Nat → Nat) (fun u => True) (fun u t => va_P K.1 vwCl ([(q0, .inr (3, [.ref (u 0), .ref (u 1), .ref (u 2), .ref (u 3), .int 0])), ((u 0), .inl (K.2.1, 121, .inl fun _ => 0)), ((u 1), .inl (K.2.1, 121, .inl fun _ => 0)), ((u 2), .inl (K.2.1, 121, .inl fun _ => 0)), ((u 3), .inl (K.2.2.1, 121, .inr (.inl fun _ => 0)))]) t.heap ∧ va_D (va_A [(q0, .inr (3, [.null, .null, .null, .null, .int 0]))] sz) ([(q0, .inr (3, [.ref (u 0), .ref (u 1), .ref (u 2), .ref (u 3), .int 0])), ((u 0), .inl (K.2.1, 121, .inl fun _ => 0)), ((u 1), .inl (K.2.1, 121, .inl fun _ => 0)), ((u 2), .inl (K.2.1, 121, .inl fun _ => 0)), ((u 3), .inl (K.2.2.1, 121, .inr (.inl fun _ => 0)))])) (va_A [(q0, .inr (3, [.null, .null, .null, .null, .int 0]))] sz)) 4 484 (va_A [(q0, .inr (3, [.null, .null, .null, .null, .int 0]))] sz) := by
  refine Met.ofW (cc := b_Tokens_init) (maxL := 1) (ret := none) (by decide) rfl ?_
  intro p e s m args below meth c s₁ Bd hml hv
  obtain ⟨rfl, hsz, hP, hK⟩ := hv
  have hx := Bd.exec
  have hb := Bd.bytes
  have hr := Bd.returns
  have hts := atoms_spec (ws := w_Tokens_init) Bd.pre
  have hg : ∀ w ∈ Tg, w.before _ s = true := fun w q => hts w (List.mem_cons_of_mem _ q)
  have hown : s.vm.findClass "LanguageServer$Tokens" = some m.cls := findClass_of_methodNamed Bd.named
  have hlocks := Bd.notSynchronized
  have hin : meth.name = "<init>" := (name_of_methodNamed Bd.named Bd.method).1
  subst hsz
  have hD : va_D (va_A [(q0, .inr (3, [.null, .null, .null, .null, .int 0]))] s.heap.size) [(q0, .inr (3, [.null, .null, .null, .null, .int 0]))] := (one_D (F := fun _ => True) trivial).self
  generalize hAe : va_A [(q0, .inr (3, [.null, .null, .null, .null, .int 0]))] s.heap.size = A at hD ⊢
  have hA : ∀ q : Nat, s.heap.size ≤ q → A q := fun q h => by rw [← hAe]; exact Or.inr h
  have hS : va_S A s.heap s.heap [] := va_S.rf
  have hl := lv_entry ([.ref q0]) (n := 1) (Nat.le_of_ble_eq_true rfl)
  rw [lg_entry_eq]
  generalize (lg_sl ([.ref q0]) ++ List.replicate (1 - (lg_sl ([.ref q0])).length) Slot.unset).toArray = ls at hl ⊢
  have hl : lv_has ls 1 [(0, .ref q0)] := hl
  refine lv_aload_n hx hb d_Tokens_init_0 rfl (lv_at hl 0 rfl) ?_
  refine W.objInit hx hb hown (hg _ wd_59) (hg _ wd_27) (hg _ wd_28) rfl (by rw [hml]; exact hl.1) rfl d_Tokens_init_1 (Nat.le_of_ble_eq_true rfl) (Nat.le_of_ble_eq_true rfl) ?_
  refine W.eq (g2 := F0 m 4 ls []) rfl ?_
  refine lv_aload_n hx hb d_Tokens_init_4 rfl (lv_at hl 0 rfl) ?_
  refine lv_bipush (v := 121) hx hb d_Tokens_init_5 (by decide) ?_
  refine C_newi (N := 121) hx hb hg hK hP hD hS hA (by decide) (by decide) (by decide) (Nat.le_of_ble_eq_true rfl) (Nat.le_of_ble_eq_true rfl) d_Tokens_init_7 (fun q7 H hP hD hS => ?_)
  refine W.widen (k := 1) (n := 121) (by omega) (by omega) ?_
  have hP : va_P K.1 vwCl [(q0, .inr (3, [.null, .null, .null, .null, .int 0])), (q7, .inl (K.2.1, 121, .inl fun _ => 0))] H := hP
  have hD : va_D A [(q0, .inr (3, [.null, .null, .null, .null, .int 0])), (q7, .inl (K.2.1, 121, .inl fun _ => 0))] := hD
  refine va_putF (D := K.1) (ci := 3) (v := .ref q7) (ty := .array .int) (C := "LanguageServer$Tokens") (T := T_Tokens) (N := 5) hx hb hg in_Tokens t_Tokens t_Tokens_ok n_Tokens hown hK.1 hP hD hS 0 rfl rfl 0 (by decide) (hg _ wd_60) (fun _ h9 => h9) rfl hin rfl (by decide +kernel) rfl rfl (Nat.le_of_ble_eq_true rfl) d_Tokens_init_9 (fun H locs hP hD hS => ?_)
  have hP : va_P K.1 vwCl [(q0, .inr (3, [.ref q7, .null, .null, .null, .int 0])), (q7, .inl (K.2.1, 121, .inl fun _ => 0))] H := hP
  have hD : va_D A [(q0, .inr (3, [.ref q7, .null, .null, .null, .int 0])), (q7, .inl (K.2.1, 121, .inl fun _ => 0))] := hD
  refine lv_aload_n hx hb d_Tokens_init_12 rfl (lv_at hl 0 rfl) ?_
  refine lv_bipush (v := 121) hx hb d_Tokens_init_13 (by decide) ?_
  refine C_newi (N := 121) hx hb hg hK hP hD hS hA (by decide) (by decide) (by decide) (Nat.le_of_ble_eq_true rfl) (Nat.le_of_ble_eq_true rfl) d_Tokens_init_15 (fun q15 H hP hD hS => ?_)
  refine W.widen (k := 2) (n := 242) (by omega) (by omega) ?_
  have hP : va_P K.1 vwCl [(q0, .inr (3, [.ref q7, .null, .null, .null, .int 0])), (q7, .inl (K.2.1, 121, .inl fun _ => 0)), (q15, .inl (K.2.1, 121, .inl fun _ => 0))] H := hP
  have hD : va_D A [(q0, .inr (3, [.ref q7, .null, .null, .null, .int 0])), (q7, .inl (K.2.1, 121, .inl fun _ => 0)), (q15, .inl (K.2.1, 121, .inl fun _ => 0))] := hD
  refine va_putF (D := K.1) (ci := 3) (v := .ref q15) (ty := .array .int) (C := "LanguageServer$Tokens") (T := T_Tokens) (N := 5) hx hb hg in_Tokens t_Tokens t_Tokens_ok n_Tokens hown hK.1 hP hD hS 0 rfl rfl 1 (by decide) (hg _ wd_65) (fun _ h9 => h9) rfl hin rfl (by decide +kernel) rfl rfl (Nat.le_of_ble_eq_true rfl) d_Tokens_init_17 (fun H locs hP hD hS => ?_)
  have hP : va_P K.1 vwCl [(q0, .inr (3, [.ref q7, .ref q15, .null, .null, .int 0])), (q7, .inl (K.2.1, 121, .inl fun _ => 0)), (q15, .inl (K.2.1, 121, .inl fun _ => 0))] H := hP
  have hD : va_D A [(q0, .inr (3, [.ref q7, .ref q15, .null, .null, .int 0])), (q7, .inl (K.2.1, 121, .inl fun _ => 0)), (q15, .inl (K.2.1, 121, .inl fun _ => 0))] := hD
  refine lv_aload_n hx hb d_Tokens_init_20 rfl (lv_at hl 0 rfl) ?_
  refine lv_bipush (v := 121) hx hb d_Tokens_init_21 (by decide) ?_
  refine C_newi (N := 121) hx hb hg hK hP hD hS hA (by decide) (by decide) (by decide) (Nat.le_of_ble_eq_true rfl) (Nat.le_of_ble_eq_true rfl) d_Tokens_init_23 (fun q23 H hP hD hS => ?_)
  refine W.widen (k := 3) (n := 363) (by omega) (by omega) ?_
  have hP : va_P K.1 vwCl [(q0, .inr (3, [.ref q7, .ref q15, .null, .null, .int 0])), (q7, .inl (K.2.1, 121, .inl fun _ => 0)), (q15, .inl (K.2.1, 121, .inl fun _ => 0)), (q23, .inl (K.2.1, 121, .inl fun _ => 0))] H := hP
  have hD : va_D A [(q0, .inr (3, [.ref q7, .ref q15, .null, .null, .int 0])), (q7, .inl (K.2.1, 121, .inl fun _ => 0)), (q15, .inl (K.2.1, 121, .inl fun _ => 0)), (q23, .inl (K.2.1, 121, .inl fun _ => 0))] := hD
  refine va_putF (D := K.1) (ci := 3) (v := .ref q23) (ty := .array .int) (C := "LanguageServer$Tokens") (T := T_Tokens) (N := 5) hx hb hg in_Tokens t_Tokens t_Tokens_ok n_Tokens hown hK.1 hP hD hS 0 rfl rfl 2 (by decide) (hg _ wd_69) (fun _ h9 => h9) rfl hin rfl (by decide +kernel) rfl rfl (Nat.le_of_ble_eq_true rfl) d_Tokens_init_25 (fun H locs hP hD hS => ?_)
  have hP : va_P K.1 vwCl [(q0, .inr (3, [.ref q7, .ref q15, .ref q23, .null, .int 0])), (q7, .inl (K.2.1, 121, .inl fun _ => 0)), (q15, .inl (K.2.1, 121, .inl fun _ => 0)), (q23, .inl (K.2.1, 121, .inl fun _ => 0))] H := hP
  have hD : va_D A [(q0, .inr (3, [.ref q7, .ref q15, .ref q23, .null, .int 0])), (q7, .inl (K.2.1, 121, .inl fun _ => 0)), (q15, .inl (K.2.1, 121, .inl fun _ => 0)), (q23, .inl (K.2.1, 121, .inl fun _ => 0))] := hD
  refine lv_aload_n hx hb d_Tokens_init_28 rfl (lv_at hl 0 rfl) ?_
  refine lv_bipush (v := 121) hx hb d_Tokens_init_29 (by decide) ?_
  refine C_newl (N := 121) hx hb hg hK hP hD hS hA (by decide) (by decide) (by decide) (Nat.le_of_ble_eq_true rfl) (Nat.le_of_ble_eq_true rfl) d_Tokens_init_31 (fun q31 H hP hD hS => ?_)
  refine W.widen (k := 4) (n := 484) (by omega) (by omega) ?_
  have hP : va_P K.1 vwCl [(q0, .inr (3, [.ref q7, .ref q15, .ref q23, .null, .int 0])), (q7, .inl (K.2.1, 121, .inl fun _ => 0)), (q15, .inl (K.2.1, 121, .inl fun _ => 0)), (q23, .inl (K.2.1, 121, .inl fun _ => 0)), (q31, .inl (K.2.2.1, 121, .inr (.inl fun _ => 0)))] H := hP
  have hD : va_D A [(q0, .inr (3, [.ref q7, .ref q15, .ref q23, .null, .int 0])), (q7, .inl (K.2.1, 121, .inl fun _ => 0)), (q15, .inl (K.2.1, 121, .inl fun _ => 0)), (q23, .inl (K.2.1, 121, .inl fun _ => 0)), (q31, .inl (K.2.2.1, 121, .inr (.inl fun _ => 0)))] := hD
  refine va_putF (D := K.1) (ci := 3) (v := .ref q31) (ty := .array .long) (C := "LanguageServer$Tokens") (T := T_Tokens) (N := 5) hx hb hg in_Tokens t_Tokens t_Tokens_ok n_Tokens hown hK.1 hP hD hS 0 rfl rfl 3 (by decide) (hg _ wd_72) (fun _ h9 => h9) rfl hin rfl (by decide +kernel) rfl rfl (Nat.le_of_ble_eq_true rfl) d_Tokens_init_33 (fun H locs hP hD hS => ?_)
  have hP : va_P K.1 vwCl [(q0, .inr (3, [.ref q7, .ref q15, .ref q23, .ref q31, .int 0])), (q7, .inl (K.2.1, 121, .inl fun _ => 0)), (q15, .inl (K.2.1, 121, .inl fun _ => 0)), (q23, .inl (K.2.1, 121, .inl fun _ => 0)), (q31, .inl (K.2.2.1, 121, .inr (.inl fun _ => 0)))] H := hP
  have hD : va_D A [(q0, .inr (3, [.ref q7, .ref q15, .ref q23, .ref q31, .int 0])), (q7, .inl (K.2.1, 121, .inl fun _ => 0)), (q15, .inl (K.2.1, 121, .inl fun _ => 0)), (q23, .inl (K.2.1, 121, .inl fun _ => 0)), (q31, .inl (K.2.2.1, 121, .inr (.inl fun _ => 0)))] := hD
  exact W.vret hx hb hr (fun t ht hW => ⟨⟨fun k => [q7, q15, q23, q31].getD k 0, rfl, trivial, by show va_P K.1 vwCl _ t.heap; rw [ht]; exact hP, hD⟩, hS.F ht⟩) hS.2.2 d_Tokens_init_36
abbrev y_Outline_init : MethodName := ⟨"LanguageServer$Outline", "<init>", "(LLanguageServer$Tokens;)V"⟩
abbrev b_Outline_init : ByteArray := prog_5_method_1_code
theorem d_Outline_init_0 : decode b_Outline_init 0 = .ok (.aload_n 0, 1) := by decide +kernel
theorem d_Outline_init_1 : decode b_Outline_init 1 = .ok (.invokespecial 3, 3) := by decide +kernel
theorem d_Outline_init_4 : decode b_Outline_init 4 = .ok (.aload_n 0, 1) := by decide +kernel
theorem d_Outline_init_5 : decode b_Outline_init 5 = .ok (.bipush 121, 2) := by decide +kernel
theorem d_Outline_init_7 : decode b_Outline_init 7 = .ok (.newarray .int, 2) := by decide +kernel
theorem d_Outline_init_9 : decode b_Outline_init 9 = .ok (.putfield 11, 3) := by decide +kernel
theorem d_Outline_init_12 : decode b_Outline_init 12 = .ok (.aload_n 0, 1) := by decide +kernel
theorem d_Outline_init_13 : decode b_Outline_init 13 = .ok (.bipush 121, 2) := by decide +kernel
theorem d_Outline_init_15 : decode b_Outline_init 15 = .ok (.newarray .int, 2) := by decide +kernel
theorem d_Outline_init_17 : decode b_Outline_init 17 = .ok (.putfield 17, 3) := by decide +kernel
theorem d_Outline_init_20 : decode b_Outline_init 20 = .ok (.aload_n 0, 1) := by decide +kernel
theorem d_Outline_init_21 : decode b_Outline_init 21 = .ok (.bipush 121, 2) := by decide +kernel
theorem d_Outline_init_23 : decode b_Outline_init 23 = .ok (.newarray .int, 2) := by decide +kernel
theorem d_Outline_init_25 : decode b_Outline_init 25 = .ok (.putfield 20, 3) := by decide +kernel
theorem d_Outline_init_28 : decode b_Outline_init 28 = .ok (.aload_n 0, 1) := by decide +kernel
theorem d_Outline_init_29 : decode b_Outline_init 29 = .ok (.bipush 121, 2) := by decide +kernel
theorem d_Outline_init_31 : decode b_Outline_init 31 = .ok (.newarray .int, 2) := by decide +kernel
theorem d_Outline_init_33 : decode b_Outline_init 33 = .ok (.putfield 23, 3) := by decide +kernel
theorem d_Outline_init_36 : decode b_Outline_init 36 = .ok (.aload_n 0, 1) := by decide +kernel
theorem d_Outline_init_37 : decode b_Outline_init 37 = .ok (.bipush 31, 2) := by decide +kernel
theorem d_Outline_init_39 : decode b_Outline_init 39 = .ok (.newarray .int, 2) := by decide +kernel
theorem d_Outline_init_41 : decode b_Outline_init 41 = .ok (.putfield 26, 3) := by decide +kernel
theorem d_Outline_init_44 : decode b_Outline_init 44 = .ok (.aload_n 0, 1) := by decide +kernel
theorem d_Outline_init_45 : decode b_Outline_init 45 = .ok (.bipush 30, 2) := by decide +kernel
theorem d_Outline_init_47 : decode b_Outline_init 47 = .ok (.newarray .int, 2) := by decide +kernel
theorem d_Outline_init_49 : decode b_Outline_init 49 = .ok (.putfield 29, 3) := by decide +kernel
theorem d_Outline_init_52 : decode b_Outline_init 52 = .ok (.aload_n 0, 1) := by decide +kernel
theorem d_Outline_init_53 : decode b_Outline_init 53 = .ok (.bipush 121, 2) := by decide +kernel
theorem d_Outline_init_55 : decode b_Outline_init 55 = .ok (.newarray .int, 2) := by decide +kernel
theorem d_Outline_init_57 : decode b_Outline_init 57 = .ok (.putfield 32, 3) := by decide +kernel
theorem d_Outline_init_60 : decode b_Outline_init 60 = .ok (.aload_n 0, 1) := by decide +kernel
theorem d_Outline_init_61 : decode b_Outline_init 61 = .ok (.aload_n 1, 1) := by decide +kernel
theorem d_Outline_init_62 : decode b_Outline_init 62 = .ok (.putfield 35, 3) := by decide +kernel
theorem d_Outline_init_65 : decode b_Outline_init 65 = .ok (.return_, 1) := by decide +kernel
abbrev w_Outline_init : List Cond := Cond.code y_Outline_init b_Outline_init 2 none :: Tg
theorem ds_Outline_init : y_Outline_init.cls ≠ "java/lang/invoke/MethodHandle" ∧ y_Outline_init.cls ≠ "java/lang/invoke/VarHandle" ∧ (parseMethodDescriptor y_Outline_init.desc).map (fun d => d.parameters.length) = some 1 := by decide +kernel
theorem bl_Outline : ∀ j, j < 10 → defaultValue (t_Outline j) = vp_V [.null, .null, .null, .null, .null, .null, .null, .null, .int 0, .int 0] j := by
  intro j hj
  match j, hj with
  | 0, _ => rfl
  | 1, _ => rfl
  | 2, _ => rfl
  | 3, _ => rfl
  | 4, _ => rfl
  | 5, _ => rfl
  | 6, _ => rfl
  | 7, _ => rfl
  | 8, _ => rfl
  | 9, _ => rfl
  | k + 10, h => exact absurd h (by omega)
set_option maxHeartbeats 4000000 in
set_option maxRecDepth 100000 in
theorem c_Outline_init (l : Launch) (K : Kst) (q0 sz p1 : Nat) : Met l y_Outline_init w_Outline_init { frames := 1, cells := 7, slots := 666, locals := 12 } (va_Pc [.ref q0, .ref p1] (fun U => U.heap.size = sz ∧ va_P K.1 vwCl [(q0, .inr (4, [.null, .null, .null, .null, .null, .null, .null, .null, .int 0, .int 0]))] U.heap ∧ RK K U)) (va_Qv (S := Nat → Nat) (fun u => True) (fun u t => va_P K.1 vwCl ([(q0, .inr (4, [.ref p1, .ref (u 0), .ref (u 1), .ref (u 2), .ref (u 3), .ref (u 4), .ref (u 5), .ref (u 6), .int 0, .int 0])), ((u 0), .inl (K.2.1, 121, .inl fun _ => 0)), ((u 1), .inl (K.2.1, 121, .inl fun _ => 0)), ((u 2), .inl (K.2.1, 121, .inl fun _ => 0)), ((u 3), .inl (K.2.1, 121, .inl fun _ => 0)), ((u 4), .inl (K.2.1, 31, .inl fun _ => 0)), ((u 5), .inl (K.2.1, 30, .inl fun _ => 0)), ((u 6), .inl (K.2.1, 121, .inl fun _ => 0))]) t.heap ∧ va_D (va_A [(q0, .inr (4, [.null, .null, .null, .null, .null, .null, .null, .null, .int 0, .int 0]))] sz) ([(q0, .inr (4, [.ref p1, .ref (u 0), .ref (u 1), .ref (u 2), .ref (u 3), .ref (u 4), .ref (u 5), .ref (u 6), .int 0, .int 0])), ((u 0), .inl (K.2.1, 121, .inl fun _ => 0)), ((u 1), .inl (K.2.1, 121, .inl fun _ => 0)), ((u 2), .inl (K.2.1, 121, .inl fun _ => 0)), ((u 3), .inl (K.2.1, 121, .inl fun _ => 0)), ((u 4), .inl (K.2.1, 31, .inl fun _ => 0)), ((u 5), .inl (K.2.1, 30, .inl fun _ => 0)), ((u 6), .inl (K.2.1, 121, .inl fun _ => 0))])) (va_A [(q0, .inr (4, [.null, .null, .null, .null, .null, .null, .null, .null, .int 0, .int 0]))] sz)) 7 666 (va_A [(q0, .inr (4, [.null, .null, .null, .null, .null, .null, .null, .null, .int 0, .int 0]))] sz) := by
  refine Met.ofW (cc := b_Outline_init) (maxL := 2) (ret := none) (by decide) rfl ?_
  intro p e s m args below meth c s₁ Bd hml hv
  obtain ⟨rfl, hsz, hP, hK⟩ := hv
  have hx := Bd.exec
  have hb := Bd.bytes
  have hr := Bd.returns
  have hts := atoms_spec (ws := w_Outline_init) Bd.pre
  have hg : ∀ w ∈ Tg, w.before _ s = true := fun w q => hts w (List.mem_cons_of_mem _ q)
  have hown : s.vm.findClass "LanguageServer$Outline" = some m.cls := findClass_of_methodNamed Bd.named
  have hlocks := Bd.notSynchronized
  have hin : meth.name = "<init>" := (name_of_methodNamed Bd.named Bd.method).1
  subst hsz
  have hD : va_D (va_A [(q0, .inr (4, [.null, .null, .null, .null, .null, .null, .null, .null, .int 0, .int 0]))] s.heap.size) [(q0, .inr (4, [.null, .null, .null, .null, .null, .null, .null, .null, .int 0, .int 0]))] := (one_D (F := fun _ => True) trivial).self
  generalize hAe : va_A [(q0, .inr (4, [.null, .null, .null, .null, .null, .null, .null, .null, .int 0, .int 0]))] s.heap.size = A at hD ⊢
  have hA : ∀ q : Nat, s.heap.size ≤ q → A q := fun q h => by rw [← hAe]; exact Or.inr h
  have hS : va_S A s.heap s.heap [] := va_S.rf
  have hl := lv_entry ([.ref q0, .ref p1]) (n := 2) (Nat.le_of_ble_eq_true rfl)
  rw [lg_entry_eq]
  generalize (lg_sl ([.ref q0, .ref p1]) ++ List.replicate (2 - (lg_sl ([.ref q0, .ref p1])).length) Slot.unset).toArray = ls at hl ⊢
  have hl : lv_has ls 2 [(0, .ref q0), (1, .ref p1)] := hl
  refine lv_aload_n hx hb d_Outline_init_0 rfl (lv_at hl 0 rfl) ?_
  refine W.objInit hx hb hown (hg _ wd_95) (hg _ wd_27) (hg _ wd_28) rfl (by rw [hml]; exact hl.1) rfl d_Outline_init_1 (Nat.le_of_ble_eq_true rfl) (Nat.le_of_ble_eq_true rfl) ?_
  refine W.eq (g2 := F0 m 4 ls []) rfl ?_
  refine lv_aload_n hx hb d_Outline_init_4 rfl (lv_at hl 0 rfl) ?_
  refine lv_bipush (v := 121) hx hb d_Outline_init_5 (by decide) ?_
  refine C_newi (N := 121) hx hb hg hK hP hD hS hA (by decide) (by decide) (by decide) (Nat.le_of_ble_eq_true rfl) (Nat.le_of_ble_eq_true rfl) d_Outline_init_7 (fun q7 H hP hD hS => ?_)
  refine W.widen (k := 1) (n := 121) (by omega) (by omega) ?_
  have hP : va_P K.1 vwCl [(q0, .inr (4, [.null, .null, .null, .null, .null, .null, .null, .null, .int 0, .int 0])), (q7, .inl (K.2.1, 121, .inl fun _ => 0))] H := hP
  have hD : va_D A [(q0, .inr (4, [.null, .null, .null, .null, .null, .null, .null, .null, .int 0, .int 0])), (q7, .inl (K.2.1, 121, .inl fun _ => 0))] := hD
  refine va_putF (D := K.1) (ci := 4) (v := .ref q7) (ty := .array .int) (C := "LanguageServer$Outline") (T := T_Outline) (N := 10) hx hb hg in_Outline t_Outline t_Outline_ok n_Outline hown hK.1 hP hD hS 0 rfl rfl 1 (by decide) (hg _ wd_97) (fun _ h9 => h9) rfl hin rfl (by decide +kernel) rfl rfl (Nat.le_of_ble_eq_true rfl) d_Outline_init_9 (fun H locs hP hD hS => ?_)
  have hP : va_P K.1 vwCl [(q0, .inr (4, [.null, .ref q7, .null, .null, .null, .null, .null, .null, .int 0, .int 0])), (q7, .inl (K.2.1, 121, .inl fun _ => 0))] H := hP
  have hD : va_D A [(q0, .inr (4, [.null, .ref q7, .null, .null, .null, .null, .null, .null, .int 0, .int 0])), (q7, .inl (K.2.1, 121, .inl fun _ => 0))] := hD
  refine lv_aload_n hx hb d_Outline_init_12 rfl (lv_at hl 0 rfl) ?_
  refine lv_bipush (v := 121) hx hb d_Outline_init_13 (by decide) ?_
  refine C_newi (N := 121) hx hb hg hK hP hD hS hA (by decide) (by decide) (by decide) (Nat.le_of_ble_eq_true rfl) (Nat.le_of_ble_eq_true rfl) d_Outline_init_15 (fun q15 H hP hD hS => ?_)
  refine W.widen (k := 2) (n := 242) (by omega) (by omega) ?_
  have hP : va_P K.1 vwCl [(q0, .inr (4, [.null, .ref q7, .null, .null, .null, .null, .null, .null, .int 0, .int 0])), (q7, .inl (K.2.1, 121, .inl fun _ => 0)), (q15, .inl (K.2.1, 121, .inl fun _ => 0))] H := hP
  have hD : va_D A [(q0, .inr (4, [.null, .ref q7, .null, .null, .null, .null, .null, .null, .int 0, .int 0])), (q7, .inl (K.2.1, 121, .inl fun _ => 0)), (q15, .inl (K.2.1, 121, .inl fun _ => 0))] := hD
  refine va_putF (D := K.1) (ci := 4) (v := .ref q15) (ty := .array .int) (C := "LanguageServer$Outline") (T := T_Outline) (N := 10) hx hb hg in_Outline t_Outline t_Outline_ok n_Outline hown hK.1 hP hD hS 0 rfl rfl 2 (by decide) (hg _ wd_101) (fun _ h9 => h9) rfl hin rfl (by decide +kernel) rfl rfl (Nat.le_of_ble_eq_true rfl) d_Outline_init_17 (fun H locs hP hD hS => ?_)
  have hP : va_P K.1 vwCl [(q0, .inr (4, [.null, .ref q7, .ref q15, .null, .null, .null, .null, .null, .int 0, .int 0])), (q7, .inl (K.2.1, 121, .inl fun _ => 0)), (q15, .inl (K.2.1, 121, .inl fun _ => 0))] H := hP
  have hD : va_D A [(q0, .inr (4, [.null, .ref q7, .ref q15, .null, .null, .null, .null, .null, .int 0, .int 0])), (q7, .inl (K.2.1, 121, .inl fun _ => 0)), (q15, .inl (K.2.1, 121, .inl fun _ => 0))] := hD
  refine lv_aload_n hx hb d_Outline_init_20 rfl (lv_at hl 0 rfl) ?_
  refine lv_bipush (v := 121) hx hb d_Outline_init_21 (by decide) ?_
  refine C_newi (N := 121) hx hb hg hK hP hD hS hA (by decide) (by decide) (by decide) (Nat.le_of_ble_eq_true rfl) (Nat.le_of_ble_eq_true rfl) d_Outline_init_23 (fun q23 H hP hD hS => ?_)
  refine W.widen (k := 3) (n := 363) (by omega) (by omega) ?_
  have hP : va_P K.1 vwCl [(q0, .inr (4, [.null, .ref q7, .ref q15, .null, .null, .null, .null, .null, .int 0, .int 0])), (q7, .inl (K.2.1, 121, .inl fun _ => 0)), (q15, .inl (K.2.1, 121, .inl fun _ => 0)), (q23, .inl (K.2.1, 121, .inl fun _ => 0))] H := hP
  have hD : va_D A [(q0, .inr (4, [.null, .ref q7, .ref q15, .null, .null, .null, .null, .null, .int 0, .int 0])), (q7, .inl (K.2.1, 121, .inl fun _ => 0)), (q15, .inl (K.2.1, 121, .inl fun _ => 0)), (q23, .inl (K.2.1, 121, .inl fun _ => 0))] := hD
  refine va_putF (D := K.1) (ci := 4) (v := .ref q23) (ty := .array .int) (C := "LanguageServer$Outline") (T := T_Outline) (N := 10) hx hb hg in_Outline t_Outline t_Outline_ok n_Outline hown hK.1 hP hD hS 0 rfl rfl 3 (by decide) (hg _ wd_104) (fun _ h9 => h9) rfl hin rfl (by decide +kernel) rfl rfl (Nat.le_of_ble_eq_true rfl) d_Outline_init_25 (fun H locs hP hD hS => ?_)
  have hP : va_P K.1 vwCl [(q0, .inr (4, [.null, .ref q7, .ref q15, .ref q23, .null, .null, .null, .null, .int 0, .int 0])), (q7, .inl (K.2.1, 121, .inl fun _ => 0)), (q15, .inl (K.2.1, 121, .inl fun _ => 0)), (q23, .inl (K.2.1, 121, .inl fun _ => 0))] H := hP
  have hD : va_D A [(q0, .inr (4, [.null, .ref q7, .ref q15, .ref q23, .null, .null, .null, .null, .int 0, .int 0])), (q7, .inl (K.2.1, 121, .inl fun _ => 0)), (q15, .inl (K.2.1, 121, .inl fun _ => 0)), (q23, .inl (K.2.1, 121, .inl fun _ => 0))] := hD
  refine lv_aload_n hx hb d_Outline_init_28 rfl (lv_at hl 0 rfl) ?_
  refine lv_bipush (v := 121) hx hb d_Outline_init_29 (by decide) ?_
  refine C_newi (N := 121) hx hb hg hK hP hD hS hA (by decide) (by decide) (by decide) (Nat.le_of_ble_eq_true rfl) (Nat.le_of_ble_eq_true rfl) d_Outline_init_31 (fun q31 H hP hD hS => ?_)
  refine W.widen (k := 4) (n := 484) (by omega) (by omega) ?_
  have hP : va_P K.1 vwCl [(q0, .inr (4, [.null, .ref q7, .ref q15, .ref q23, .null, .null, .null, .null, .int 0, .int 0])), (q7, .inl (K.2.1, 121, .inl fun _ => 0)), (q15, .inl (K.2.1, 121, .inl fun _ => 0)), (q23, .inl (K.2.1, 121, .inl fun _ => 0)), (q31, .inl (K.2.1, 121, .inl fun _ => 0))] H := hP
  have hD : va_D A [(q0, .inr (4, [.null, .ref q7, .ref q15, .ref q23, .null, .null, .null, .null, .int 0, .int 0])), (q7, .inl (K.2.1, 121, .inl fun _ => 0)), (q15, .inl (K.2.1, 121, .inl fun _ => 0)), (q23, .inl (K.2.1, 121, .inl fun _ => 0)), (q31, .inl (K.2.1, 121, .inl fun _ => 0))] := hD
  refine va_putF (D := K.1) (ci := 4) (v := .ref q31) (ty := .array .int) (C := "LanguageServer$Outline") (T := T_Outline) (N := 10) hx hb hg in_Outline t_Outline t_Outline_ok n_Outline hown hK.1 hP hD hS 0 rfl rfl 4 (by decide) (hg _ wd_108) (fun _ h9 => h9) rfl hin rfl (by decide +kernel) rfl rfl (Nat.le_of_ble_eq_true rfl) d_Outline_init_33 (fun H locs hP hD hS => ?_)
  have hP : va_P K.1 vwCl [(q0, .inr (4, [.null, .ref q7, .ref q15, .ref q23, .ref q31, .null, .null, .null, .int 0, .int 0])), (q7, .inl (K.2.1, 121, .inl fun _ => 0)), (q15, .inl (K.2.1, 121, .inl fun _ => 0)), (q23, .inl (K.2.1, 121, .inl fun _ => 0)), (q31, .inl (K.2.1, 121, .inl fun _ => 0))] H := hP
  have hD : va_D A [(q0, .inr (4, [.null, .ref q7, .ref q15, .ref q23, .ref q31, .null, .null, .null, .int 0, .int 0])), (q7, .inl (K.2.1, 121, .inl fun _ => 0)), (q15, .inl (K.2.1, 121, .inl fun _ => 0)), (q23, .inl (K.2.1, 121, .inl fun _ => 0)), (q31, .inl (K.2.1, 121, .inl fun _ => 0))] := hD
  refine lv_aload_n hx hb d_Outline_init_36 rfl (lv_at hl 0 rfl) ?_
  refine lv_bipush (v := 31) hx hb d_Outline_init_37 (by decide) ?_
  refine C_newi (N := 31) hx hb hg hK hP hD hS hA (by decide) (by decide) (by decide) (Nat.le_of_ble_eq_true rfl) (Nat.le_of_ble_eq_true rfl) d_Outline_init_39 (fun q39 H hP hD hS => ?_)
  refine W.widen (k := 5) (n := 515) (by omega) (by omega) ?_
  have hP : va_P K.1 vwCl [(q0, .inr (4, [.null, .ref q7, .ref q15, .ref q23, .ref q31, .null, .null, .null, .int 0, .int 0])), (q7, .inl (K.2.1, 121, .inl fun _ => 0)), (q15, .inl (K.2.1, 121, .inl fun _ => 0)), (q23, .inl (K.2.1, 121, .inl fun _ => 0)), (q31, .inl (K.2.1, 121, .inl fun _ => 0)), (q39, .inl (K.2.1, 31, .inl fun _ => 0))] H := hP
  have hD : va_D A [(q0, .inr (4, [.null, .ref q7, .ref q15, .ref q23, .ref q31, .null, .null, .null, .int 0, .int 0])), (q7, .inl (K.2.1, 121, .inl fun _ => 0)), (q15, .inl (K.2.1, 121, .inl fun _ => 0)), (q23, .inl (K.2.1, 121, .inl fun _ => 0)), (q31, .inl (K.2.1, 121, .inl fun _ => 0)), (q39, .inl (K.2.1, 31, .inl fun _ => 0))] := hD
  refine va_putF (D := K.1) (ci := 4) (v := .ref q39) (ty := .array .int) (C := "LanguageServer$Outline") (T := T_Outline) (N := 10) hx hb hg in_Outline t_Outline t_Outline_ok n_Outline hown hK.1 hP hD hS 0 rfl rfl 5 (by decide) (hg _ wd_112) (fun _ h9 => h9) rfl hin rfl (by decide +kernel) rfl rfl (Nat.le_of_ble_eq_true rfl) d_Outline_init_41 (fun H locs hP hD hS => ?_)
  have hP : va_P K.1 vwCl [(q0, .inr (4, [.null, .ref q7, .ref q15, .ref q23, .ref q31, .ref q39, .null, .null, .int 0, .int 0])), (q7, .inl (K.2.1, 121, .inl fun _ => 0)), (q15, .inl (K.2.1, 121, .inl fun _ => 0)), (q23, .inl (K.2.1, 121, .inl fun _ => 0)), (q31, .inl (K.2.1, 121, .inl fun _ => 0)), (q39, .inl (K.2.1, 31, .inl fun _ => 0))] H := hP
  have hD : va_D A [(q0, .inr (4, [.null, .ref q7, .ref q15, .ref q23, .ref q31, .ref q39, .null, .null, .int 0, .int 0])), (q7, .inl (K.2.1, 121, .inl fun _ => 0)), (q15, .inl (K.2.1, 121, .inl fun _ => 0)), (q23, .inl (K.2.1, 121, .inl fun _ => 0)), (q31, .inl (K.2.1, 121, .inl fun _ => 0)), (q39, .inl (K.2.1, 31, .inl fun _ => 0))] := hD
  refine lv_aload_n hx hb d_Outline_init_44 rfl (lv_at hl 0 rfl) ?_
  refine lv_bipush (v := 30) hx hb d_Outline_init_45 (by decide) ?_
  refine C_newi (N := 30) hx hb hg hK hP hD hS hA (by decide) (by decide) (by decide) (Nat.le_of_ble_eq_true rfl) (Nat.le_of_ble_eq_true rfl) d_Outline_init_47 (fun q47 H hP hD hS => ?_)
  refine W.widen (k := 6) (n := 545) (by omega) (by omega) ?_
  have hP : va_P K.1 vwCl [(q0, .inr (4, [.null, .ref q7, .ref q15, .ref q23, .ref q31, .ref q39, .null, .null, .int 0, .int 0])), (q7, .inl (K.2.1, 121, .inl fun _ => 0)), (q15, .inl (K.2.1, 121, .inl fun _ => 0)), (q23, .inl (K.2.1, 121, .inl fun _ => 0)), (q31, .inl (K.2.1, 121, .inl fun _ => 0)), (q39, .inl (K.2.1, 31, .inl fun _ => 0)), (q47, .inl (K.2.1, 30, .inl fun _ => 0))] H := hP
  have hD : va_D A [(q0, .inr (4, [.null, .ref q7, .ref q15, .ref q23, .ref q31, .ref q39, .null, .null, .int 0, .int 0])), (q7, .inl (K.2.1, 121, .inl fun _ => 0)), (q15, .inl (K.2.1, 121, .inl fun _ => 0)), (q23, .inl (K.2.1, 121, .inl fun _ => 0)), (q31, .inl (K.2.1, 121, .inl fun _ => 0)), (q39, .inl (K.2.1, 31, .inl fun _ => 0)), (q47, .inl (K.2.1, 30, .inl fun _ => 0))] := hD
  refine va_putF (D := K.1) (ci := 4) (v := .ref q47) (ty := .array .int) (C := "LanguageServer$Outline") (T := T_Outline) (N := 10) hx hb hg in_Outline t_Outline t_Outline_ok n_Outline hown hK.1 hP hD hS 0 rfl rfl 6 (by decide) (hg _ wd_114) (fun _ h9 => h9) rfl hin rfl (by decide +kernel) rfl rfl (Nat.le_of_ble_eq_true rfl) d_Outline_init_49 (fun H locs hP hD hS => ?_)
  have hP : va_P K.1 vwCl [(q0, .inr (4, [.null, .ref q7, .ref q15, .ref q23, .ref q31, .ref q39, .ref q47, .null, .int 0, .int 0])), (q7, .inl (K.2.1, 121, .inl fun _ => 0)), (q15, .inl (K.2.1, 121, .inl fun _ => 0)), (q23, .inl (K.2.1, 121, .inl fun _ => 0)), (q31, .inl (K.2.1, 121, .inl fun _ => 0)), (q39, .inl (K.2.1, 31, .inl fun _ => 0)), (q47, .inl (K.2.1, 30, .inl fun _ => 0))] H := hP
  have hD : va_D A [(q0, .inr (4, [.null, .ref q7, .ref q15, .ref q23, .ref q31, .ref q39, .ref q47, .null, .int 0, .int 0])), (q7, .inl (K.2.1, 121, .inl fun _ => 0)), (q15, .inl (K.2.1, 121, .inl fun _ => 0)), (q23, .inl (K.2.1, 121, .inl fun _ => 0)), (q31, .inl (K.2.1, 121, .inl fun _ => 0)), (q39, .inl (K.2.1, 31, .inl fun _ => 0)), (q47, .inl (K.2.1, 30, .inl fun _ => 0))] := hD
  refine lv_aload_n hx hb d_Outline_init_52 rfl (lv_at hl 0 rfl) ?_
  refine lv_bipush (v := 121) hx hb d_Outline_init_53 (by decide) ?_
  refine C_newi (N := 121) hx hb hg hK hP hD hS hA (by decide) (by decide) (by decide) (Nat.le_of_ble_eq_true rfl) (Nat.le_of_ble_eq_true rfl) d_Outline_init_55 (fun q55 H hP hD hS => ?_)
  refine W.widen (k := 7) (n := 666) (by omega) (by omega) ?_
  have hP : va_P K.1 vwCl [(q0, .inr (4, [.null, .ref q7, .ref q15, .ref q23, .ref q31, .ref q39, .ref q47, .null, .int 0, .int 0])), (q7, .inl (K.2.1, 121, .inl fun _ => 0)), (q15, .inl (K.2.1, 121, .inl fun _ => 0)), (q23, .inl (K.2.1, 121, .inl fun _ => 0)), (q31, .inl (K.2.1, 121, .inl fun _ => 0)), (q39, .inl (K.2.1, 31, .inl fun _ => 0)), (q47, .inl (K.2.1, 30, .inl fun _ => 0)), (q55, .inl (K.2.1, 121, .inl fun _ => 0))] H := hP
  have hD : va_D A [(q0, .inr (4, [.null, .ref q7, .ref q15, .ref q23, .ref q31, .ref q39, .ref q47, .null, .int 0, .int 0])), (q7, .inl (K.2.1, 121, .inl fun _ => 0)), (q15, .inl (K.2.1, 121, .inl fun _ => 0)), (q23, .inl (K.2.1, 121, .inl fun _ => 0)), (q31, .inl (K.2.1, 121, .inl fun _ => 0)), (q39, .inl (K.2.1, 31, .inl fun _ => 0)), (q47, .inl (K.2.1, 30, .inl fun _ => 0)), (q55, .inl (K.2.1, 121, .inl fun _ => 0))] := hD
  refine va_putF (D := K.1) (ci := 4) (v := .ref q55) (ty := .array .int) (C := "LanguageServer$Outline") (T := T_Outline) (N := 10) hx hb hg in_Outline t_Outline t_Outline_ok n_Outline hown hK.1 hP hD hS 0 rfl rfl 7 (by decide) (hg _ wd_116) (fun _ h9 => h9) rfl hin rfl (by decide +kernel) rfl rfl (Nat.le_of_ble_eq_true rfl) d_Outline_init_57 (fun H locs hP hD hS => ?_)
  have hP : va_P K.1 vwCl [(q0, .inr (4, [.null, .ref q7, .ref q15, .ref q23, .ref q31, .ref q39, .ref q47, .ref q55, .int 0, .int 0])), (q7, .inl (K.2.1, 121, .inl fun _ => 0)), (q15, .inl (K.2.1, 121, .inl fun _ => 0)), (q23, .inl (K.2.1, 121, .inl fun _ => 0)), (q31, .inl (K.2.1, 121, .inl fun _ => 0)), (q39, .inl (K.2.1, 31, .inl fun _ => 0)), (q47, .inl (K.2.1, 30, .inl fun _ => 0)), (q55, .inl (K.2.1, 121, .inl fun _ => 0))] H := hP
  have hD : va_D A [(q0, .inr (4, [.null, .ref q7, .ref q15, .ref q23, .ref q31, .ref q39, .ref q47, .ref q55, .int 0, .int 0])), (q7, .inl (K.2.1, 121, .inl fun _ => 0)), (q15, .inl (K.2.1, 121, .inl fun _ => 0)), (q23, .inl (K.2.1, 121, .inl fun _ => 0)), (q31, .inl (K.2.1, 121, .inl fun _ => 0)), (q39, .inl (K.2.1, 31, .inl fun _ => 0)), (q47, .inl (K.2.1, 30, .inl fun _ => 0)), (q55, .inl (K.2.1, 121, .inl fun _ => 0))] := hD
  refine lv_aload_n hx hb d_Outline_init_60 rfl (lv_at hl 0 rfl) ?_
  refine lv_aload_n hx hb d_Outline_init_61 rfl (lv_at hl 1 rfl) ?_
  refine va_putF (D := K.1) (ci := 4) (v := .ref p1) (ty := .object "LanguageServer$Tokens") (C := "LanguageServer$Outline") (T := T_Outline) (N := 10) hx hb hg in_Outline t_Outline t_Outline_ok n_Outline hown hK.1 hP hD hS 0 rfl rfl 0 (by decide) (hg _ wd_96) (fun _ h9 => h9) rfl hin rfl (by decide +kernel) rfl rfl (Nat.le_of_ble_eq_true rfl) d_Outline_init_62 (fun H locs hP hD hS => ?_)
  have hP : va_P K.1 vwCl [(q0, .inr (4, [.ref p1, .ref q7, .ref q15, .ref q23, .ref q31, .ref q39, .ref q47, .ref q55, .int 0, .int 0])), (q7, .inl (K.2.1, 121, .inl fun _ => 0)), (q15, .inl (K.2.1, 121, .inl fun _ => 0)), (q23, .inl (K.2.1, 121, .inl fun _ => 0)), (q31, .inl (K.2.1, 121, .inl fun _ => 0)), (q39, .inl (K.2.1, 31, .inl fun _ => 0)), (q47, .inl (K.2.1, 30, .inl fun _ => 0)), (q55, .inl (K.2.1, 121, .inl fun _ => 0))] H := hP
  have hD : va_D A [(q0, .inr (4, [.ref p1, .ref q7, .ref q15, .ref q23, .ref q31, .ref q39, .ref q47, .ref q55, .int 0, .int 0])), (q7, .inl (K.2.1, 121, .inl fun _ => 0)), (q15, .inl (K.2.1, 121, .inl fun _ => 0)), (q23, .inl (K.2.1, 121, .inl fun _ => 0)), (q31, .inl (K.2.1, 121, .inl fun _ => 0)), (q39, .inl (K.2.1, 31, .inl fun _ => 0)), (q47, .inl (K.2.1, 30, .inl fun _ => 0)), (q55, .inl (K.2.1, 121, .inl fun _ => 0))] := hD
  exact W.vret hx hb hr (fun t ht hW => ⟨⟨fun k => [q7, q15, q23, q31, q39, q47, q55].getD k 0, rfl, trivial, by show va_P K.1 vwCl _ t.heap; rw [ht]; exact hP, hD⟩, hS.F ht⟩) hS.2.2 d_Outline_init_65
abbrev y_Complaints_init : MethodName := ⟨"LanguageServer$Complaints", "<init>", "()V"⟩
abbrev b_Complaints_init : ByteArray := prog_2_method_1_code
theorem d_Complaints_init_0 : decode b_Complaints_init 0 = .ok (.aload_n 0, 1) := by decide +kernel
theorem d_Complaints_init_1 : decode b_Complaints_init 1 = .ok (.invokespecial 3, 3) := by decide +kernel
theorem d_Complaints_init_4 : decode b_Complaints_init 4 = .ok (.aload_n 0, 1) := by decide +kernel
theorem d_Complaints_init_5 : decode b_Complaints_init 5 = .ok (.bipush 121, 2) := by decide +kernel
theorem d_Complaints_init_7 : decode b_Complaints_init 7 = .ok (.newarray .int, 2) := by decide +kernel
theorem d_Complaints_init_9 : decode b_Complaints_init 9 = .ok (.putfield 11, 3) := by decide +kernel
theorem d_Complaints_init_12 : decode b_Complaints_init 12 = .ok (.aload_n 0, 1) := by decide +kernel
theorem d_Complaints_init_13 : decode b_Complaints_init 13 = .ok (.iconst (-1), 1) := by decide +kernel
theorem d_Complaints_init_14 : decode b_Complaints_init 14 = .ok (.putfield 17, 3) := by decide +kernel
theorem d_Complaints_init_17 : decode b_Complaints_init 17 = .ok (.return_, 1) := by decide +kernel
abbrev w_Complaints_init : List Cond := Cond.code y_Complaints_init b_Complaints_init 1 none :: Tg
theorem ds_Complaints_init : y_Complaints_init.cls ≠ "java/lang/invoke/MethodHandle" ∧ y_Complaints_init.cls ≠ "java/lang/invoke/VarHandle" ∧ (parseMethodDescriptor y_Complaints_init.desc).map (fun d => d.parameters.length) = some 0 := by decide +kernel
theorem bl_Complaints : ∀ j, j < 2 → defaultValue (t_Complaints j) = vp_V [.null, .int 0] j := by
  intro j hj
  match j, hj with
  | 0, _ => rfl
  | 1, _ => rfl
  | k + 2, h => exact absurd h (by omega)
set_option maxHeartbeats 4000000 in
set_option maxRecDepth 100000 in
theorem c_Complaints_init (l : Launch) (K : Kst) (q0 sz : Nat) : Met l y_Complaints_init w_Complaints_init { frames := 1, cells := 1, slots := 121, locals := 12 } (va_Pc [.ref q0] (fun U => U.heap.size = sz ∧ va_P K.1 vwCl [(q0, .inr (5, [.null, .int 0]))] U.heap ∧ RK K U)) (va_Qv (S := Nat → Nat) (fun u => True) (fun u t => va_P K.1 vwCl ([(q0, .inr (5, [.ref (u 0), .int (-1)])), ((u 0), .inl (K.2.1, 121, .inl fun _ => 0))]) t.heap ∧ va_D (va_A [(q0, .inr (5, [.null, .int 0]))] sz) ([(q0, .inr (5, [.ref (u 0), .int (-1)])), ((u 0), .inl (K.2.1, 121, .inl fun _ => 0))])) (va_A [(q0, .inr (5, [.null, .int 0]))] sz)) 1 121 (va_A [(q0, .inr (5, [.null, .int 0]))] sz) := by
  refine Met.ofW (cc := b_Complaints_init) (maxL := 1) (ret := none) (by decide) rfl ?_
  intro p e s m args below meth c s₁ Bd hml hv
  obtain ⟨rfl, hsz, hP, hK⟩ := hv
  have hx := Bd.exec
  have hb := Bd.bytes
  have hr := Bd.returns
  have hts := atoms_spec (ws := w_Complaints_init) Bd.pre
  have hg : ∀ w ∈ Tg, w.before _ s = true := fun w q => hts w (List.mem_cons_of_mem _ q)
  have hown : s.vm.findClass "LanguageServer$Complaints" = some m.cls := findClass_of_methodNamed Bd.named
  have hlocks := Bd.notSynchronized
  have hin : meth.name = "<init>" := (name_of_methodNamed Bd.named Bd.method).1
  subst hsz
  have hD : va_D (va_A [(q0, .inr (5, [.null, .int 0]))] s.heap.size) [(q0, .inr (5, [.null, .int 0]))] := (one_D (F := fun _ => True) trivial).self
  generalize hAe : va_A [(q0, .inr (5, [.null, .int 0]))] s.heap.size = A at hD ⊢
  have hA : ∀ q : Nat, s.heap.size ≤ q → A q := fun q h => by rw [← hAe]; exact Or.inr h
  have hS : va_S A s.heap s.heap [] := va_S.rf
  have hl := lv_entry ([.ref q0]) (n := 1) (Nat.le_of_ble_eq_true rfl)
  rw [lg_entry_eq]
  generalize (lg_sl ([.ref q0]) ++ List.replicate (1 - (lg_sl ([.ref q0])).length) Slot.unset).toArray = ls at hl ⊢
  have hl : lv_has ls 1 [(0, .ref q0)] := hl
  refine lv_aload_n hx hb d_Complaints_init_0 rfl (lv_at hl 0 rfl) ?_
  refine W.objInit hx hb hown (hg _ wd_152) (hg _ wd_27) (hg _ wd_28) rfl (by rw [hml]; exact hl.1) rfl d_Complaints_init_1 (Nat.le_of_ble_eq_true rfl) (Nat.le_of_ble_eq_true rfl) ?_
  refine W.eq (g2 := F0 m 4 ls []) rfl ?_
  refine lv_aload_n hx hb d_Complaints_init_4 rfl (lv_at hl 0 rfl) ?_
  refine lv_bipush (v := 121) hx hb d_Complaints_init_5 (by decide) ?_
  refine C_newi (N := 121) hx hb hg hK hP hD hS hA (by decide) (by decide) (by decide) (Nat.le_of_ble_eq_true rfl) (Nat.le_of_ble_eq_true rfl) d_Complaints_init_7 (fun q7 H hP hD hS => ?_)
  refine W.widen (k := 1) (n := 121) (by omega) (by omega) ?_
  have hP : va_P K.1 vwCl [(q0, .inr (5, [.null, .int 0])), (q7, .inl (K.2.1, 121, .inl fun _ => 0))] H := hP
  have hD : va_D A [(q0, .inr (5, [.null, .int 0])), (q7, .inl (K.2.1, 121, .inl fun _ => 0))] := hD
  refine va_putF (D := K.1) (ci := 5) (v := .ref q7) (ty := .array .int) (C := "LanguageServer$Complaints") (T := T_Complaints) (N := 2) hx hb hg in_Complaints t_Complaints t_Complaints_ok n_Complaints hown hK.1 hP hD hS 0 rfl rfl 0 (by decide) (hg _ wd_153) (fun _ h9 => h9) rfl hin rfl (by decide +kernel) rfl rfl (Nat.le_of_ble_eq_true rfl) d_Complaints_init_9 (fun H locs hP hD hS => ?_)
  have hP : va_P K.1 vwCl [(q0, .inr (5, [.ref q7, .int 0])), (q7, .inl (K.2.1, 121, .inl fun _ => 0))] H := hP
  have hD : va_D A [(q0, .inr (5, [.ref q7, .int 0])), (q7, .inl (K.2.1, 121, .inl fun _ => 0))] := hD
  refine lv_aload_n hx hb d_Complaints_init_12 rfl (lv_at hl 0 rfl) ?_
  refine lv_iconst (v := (-1)) hx hb d_Complaints_init_13 (by decide) ?_
  refine va_put (D := K.1) (ci := 5) (v := .int (-1)) (ty := .int) (C := "LanguageServer$Complaints") (T := T_Complaints) (N := 2) hx hb hg in_Complaints t_Complaints t_Complaints_ok n_Complaints hown hK.1 hP hD hS 0 rfl rfl 1 (by decide) (hg _ wd_154) (fun _ h9 => h9) rfl (by decide +kernel) rfl rfl (Nat.le_of_ble_eq_true rfl) d_Complaints_init_14 (fun H locs hP hD hS => ?_)
  have hP : va_P K.1 vwCl [(q0, .inr (5, [.ref q7, .int (-1)])), (q7, .inl (K.2.1, 121, .inl fun _ => 0))] H := hP
  have hD : va_D A [(q0, .inr (5, [.ref q7, .int (-1)])), (q7, .inl (K.2.1, 121, .inl fun _ => 0))] := hD
  exact W.vret hx hb hr (fun t ht hW => ⟨⟨fun k => [q7].getD k 0, rfl, trivial, by show va_P K.1 vwCl _ t.heap; rw [ht]; exact hP, hD⟩, hS.F ht⟩) hS.2.2 d_Complaints_init_17
abbrev y_Parser_init : MethodName := ⟨"LanguageServer$Parser", "<init>", "(LLanguageServer$Tokens;LLanguageServer$Outline;LLanguageServer$Complaints;)V"⟩
abbrev b_Parser_init : ByteArray := prog_6_method_1_code
theorem d_Parser_init_0 : decode b_Parser_init 0 = .ok (.aload_n 0, 1) := by decide +kernel
theorem d_Parser_init_1 : decode b_Parser_init 1 = .ok (.invokespecial 3, 3) := by decide +kernel
theorem d_Parser_init_4 : decode b_Parser_init 4 = .ok (.aload_n 0, 1) := by decide +kernel
theorem d_Parser_init_5 : decode b_Parser_init 5 = .ok (.bipush 8, 2) := by decide +kernel
theorem d_Parser_init_7 : decode b_Parser_init 7 = .ok (.newarray .int, 2) := by decide +kernel
theorem d_Parser_init_9 : decode b_Parser_init 9 = .ok (.putfield 9, 3) := by decide +kernel
theorem d_Parser_init_12 : decode b_Parser_init 12 = .ok (.aload_n 0, 1) := by decide +kernel
theorem d_Parser_init_13 : decode b_Parser_init 13 = .ok (.aload_n 1, 1) := by decide +kernel
theorem d_Parser_init_14 : decode b_Parser_init 14 = .ok (.putfield 15, 3) := by decide +kernel
theorem d_Parser_init_17 : decode b_Parser_init 17 = .ok (.aload_n 0, 1) := by decide +kernel
theorem d_Parser_init_18 : decode b_Parser_init 18 = .ok (.aload_n 2, 1) := by decide +kernel
theorem d_Parser_init_19 : decode b_Parser_init 19 = .ok (.putfield 19, 3) := by decide +kernel
theorem d_Parser_init_22 : decode b_Parser_init 22 = .ok (.aload_n 0, 1) := by decide +kernel
theorem d_Parser_init_23 : decode b_Parser_init 23 = .ok (.aload_n 3, 1) := by decide +kernel
theorem d_Parser_init_24 : decode b_Parser_init 24 = .ok (.putfield 23, 3) := by decide +kernel
theorem d_Parser_init_27 : decode b_Parser_init 27 = .ok (.return_, 1) := by decide +kernel
abbrev w_Parser_init : List Cond := Cond.code y_Parser_init b_Parser_init 4 none :: Tg
theorem ds_Parser_init : y_Parser_init.cls ≠ "java/lang/invoke/MethodHandle" ∧ y_Parser_init.cls ≠ "java/lang/invoke/VarHandle" ∧ (parseMethodDescriptor y_Parser_init.desc).map (fun d => d.parameters.length) = some 3 := by decide +kernel
theorem bl_Parser : ∀ j, j < 8 → defaultValue (t_Parser j) = vp_V [.null, .null, .null, .null, .int 0, .int 0, .int 0, .int 0] j := by
  intro j hj
  match j, hj with
  | 0, _ => rfl
  | 1, _ => rfl
  | 2, _ => rfl
  | 3, _ => rfl
  | 4, _ => rfl
  | 5, _ => rfl
  | 6, _ => rfl
  | 7, _ => rfl
  | k + 8, h => exact absurd h (by omega)
set_option maxHeartbeats 4000000 in
set_option maxRecDepth 100000 in
theorem c_Parser_init (l : Launch) (K : Kst) (q0 sz p1 p2 p3 : Nat) : Met l y_Parser_init w_Parser_init { frames := 1, cells := 1, slots := 8, locals := 12 } (va_Pc [.ref q0, .ref p1, .ref p2, .ref p3] (fun U => U.heap.size = sz ∧ va_P K.1 vwCl [(q0, .inr (6, [.null, .null, .null, .null, .int 0, .int 0, .int 0, .int 0]))] U.heap ∧ RK K U)) (va_Qv (S := Nat → Nat) (fun u => True) (fun u t => va_P K.1 vwCl ([(q0, .inr (6, [.ref p1, .ref p2, .ref p3, .ref (u 0), .int 0, .int 0, .int 0, .int 0])), ((u 0), .inl (K.2.1, 8, .inl fun _ => 0))]) t.heap ∧ va_D (va_A [(q0, .inr (6, [.null, .null, .null, .null, .int 0, .int 0, .int 0, .int 0]))] sz) ([(q0, .inr (6, [.ref p1, .ref p2, .ref p3, .ref (u 0), .int 0, .int 0, .int 0, .int 0])), ((u 0), .inl (K.2.1, 8, .inl fun _ => 0))])) (va_A [(q0, .inr (6, [.null, .null, .null, .null, .int 0, .int 0, .int 0, .int 0]))] sz)) 1 8 (va_A [(q0, .inr (6, [.null, .null, .null, .null, .int 0, .int 0, .int 0, .int 0]))] sz) := by
  refine Met.ofW (cc := b_Parser_init) (maxL := 4) (ret := none) (by decide) rfl ?_
  intro p e s m args below meth c s₁ Bd hml hv
  obtain ⟨rfl, hsz, hP, hK⟩ := hv
  have hx := Bd.exec
  have hb := Bd.bytes
  have hr := Bd.returns
  have hts := atoms_spec (ws := w_Parser_init) Bd.pre
  have hg : ∀ w ∈ Tg, w.before _ s = true := fun w q => hts w (List.mem_cons_of_mem _ q)
  have hown : s.vm.findClass "LanguageServer$Parser" = some m.cls := findClass_of_methodNamed Bd.named
  have hlocks := Bd.notSynchronized
  have hin : meth.name = "<init>" := (name_of_methodNamed Bd.named Bd.method).1
  subst hsz
  have hD : va_D (va_A [(q0, .inr (6, [.null, .null, .null, .null, .int 0, .int 0, .int 0, .int 0]))] s.heap.size) [(q0, .inr (6, [.null, .null, .null, .null, .int 0, .int 0, .int 0, .int 0]))] := (one_D (F := fun _ => True) trivial).self
  generalize hAe : va_A [(q0, .inr (6, [.null, .null, .null, .null, .int 0, .int 0, .int 0, .int 0]))] s.heap.size = A at hD ⊢
  have hA : ∀ q : Nat, s.heap.size ≤ q → A q := fun q h => by rw [← hAe]; exact Or.inr h
  have hS : va_S A s.heap s.heap [] := va_S.rf
  have hl := lv_entry ([.ref q0, .ref p1, .ref p2, .ref p3]) (n := 4) (Nat.le_of_ble_eq_true rfl)
  rw [lg_entry_eq]
  generalize (lg_sl ([.ref q0, .ref p1, .ref p2, .ref p3]) ++ List.replicate (4 - (lg_sl ([.ref q0, .ref p1, .ref p2, .ref p3])).length) Slot.unset).toArray = ls at hl ⊢
  have hl : lv_has ls 4 [(0, .ref q0), (1, .ref p1), (2, .ref p2), (3, .ref p3)] := hl
  refine lv_aload_n hx hb d_Parser_init_0 rfl (lv_at hl 0 rfl) ?_
  refine W.objInit hx hb hown (hg _ wd_165) (hg _ wd_27) (hg _ wd_28) rfl (by rw [hml]; exact hl.1) rfl d_Parser_init_1 (Nat.le_of_ble_eq_true rfl) (Nat.le_of_ble_eq_true rfl) ?_
  refine W.eq (g2 := F0 m 4 ls []) rfl ?_
  refine lv_aload_n hx hb d_Parser_init_4 rfl (lv_at hl 0 rfl) ?_
  refine lv_bipush (v := 8) hx hb d_Parser_init_5 (by decide) ?_
  refine C_newi (N := 8) hx hb hg hK hP hD hS hA (by decide) (by decide) (by decide) (Nat.le_of_ble_eq_true rfl) (Nat.le_of_ble_eq_true rfl) d_Parser_init_7 (fun q7 H hP hD hS => ?_)
  refine W.widen (k := 1) (n := 8) (by omega) (by omega) ?_
  have hP : va_P K.1 vwCl [(q0, .inr (6, [.null, .null, .null, .null, .int 0, .int 0, .int 0, .int 0])), (q7, .inl (K.2.1, 8, .inl fun _ => 0))] H := hP
  have hD : va_D A [(q0, .inr (6, [.null, .null, .null, .null, .int 0, .int 0, .int 0, .int 0])), (q7, .inl (K.2.1, 8, .inl fun _ => 0))] := hD
  refine va_putF (D := K.1) (ci := 6) (v := .ref q7) (ty := .array .int) (C := "LanguageServer$Parser") (T := T_Parser) (N := 8) hx hb hg in_Parser t_Parser t_Parser_ok n_Parser hown hK.1 hP hD hS 0 rfl rfl 3 (by decide) (hg _ wd_169) (fun _ h9 => h9) rfl hin rfl (by decide +kernel) rfl rfl (Nat.le_of_ble_eq_true rfl) d_Parser_init_9 (fun H locs hP hD hS => ?_)
  have hP : va_P K.1 vwCl [(q0, .inr (6, [.null, .null, .null, .ref q7, .int 0, .int 0, .int 0, .int 0])), (q7, .inl (K.2.1, 8, .inl fun _ => 0))] H := hP
  have hD : va_D A [(q0, .inr (6, [.null, .null, .null, .ref q7, .int 0, .int 0, .int 0, .int 0])), (q7, .inl (K.2.1, 8, .inl fun _ => 0))] := hD
  refine lv_aload_n hx hb d_Parser_init_12 rfl (lv_at hl 0 rfl) ?_
  refine lv_aload_n hx hb d_Parser_init_13 rfl (lv_at hl 1 rfl) ?_
  refine va_putF (D := K.1) (ci := 6) (v := .ref p1) (ty := .object "LanguageServer$Tokens") (C := "LanguageServer$Parser") (T := T_Parser) (N := 8) hx hb hg in_Parser t_Parser t_Parser_ok n_Parser hown hK.1 hP hD hS 0 rfl rfl 0 (by decide) (hg _ wd_166) (fun _ h9 => h9) rfl hin rfl (by decide +kernel) rfl rfl (Nat.le_of_ble_eq_true rfl) d_Parser_init_14 (fun H locs hP hD hS => ?_)
  have hP : va_P K.1 vwCl [(q0, .inr (6, [.ref p1, .null, .null, .ref q7, .int 0, .int 0, .int 0, .int 0])), (q7, .inl (K.2.1, 8, .inl fun _ => 0))] H := hP
  have hD : va_D A [(q0, .inr (6, [.ref p1, .null, .null, .ref q7, .int 0, .int 0, .int 0, .int 0])), (q7, .inl (K.2.1, 8, .inl fun _ => 0))] := hD
  refine lv_aload_n hx hb d_Parser_init_17 rfl (lv_at hl 0 rfl) ?_
  refine lv_aload_n hx hb d_Parser_init_18 rfl (lv_at hl 2 rfl) ?_
  refine va_putF (D := K.1) (ci := 6) (v := .ref p2) (ty := .object "LanguageServer$Outline") (C := "LanguageServer$Parser") (T := T_Parser) (N := 8) hx hb hg in_Parser t_Parser t_Parser_ok n_Parser hown hK.1 hP hD hS 0 rfl rfl 1 (by decide) (hg _ wd_167) (fun _ h9 => h9) rfl hin rfl (by decide +kernel) rfl rfl (Nat.le_of_ble_eq_true rfl) d_Parser_init_19 (fun H locs hP hD hS => ?_)
  have hP : va_P K.1 vwCl [(q0, .inr (6, [.ref p1, .ref p2, .null, .ref q7, .int 0, .int 0, .int 0, .int 0])), (q7, .inl (K.2.1, 8, .inl fun _ => 0))] H := hP
  have hD : va_D A [(q0, .inr (6, [.ref p1, .ref p2, .null, .ref q7, .int 0, .int 0, .int 0, .int 0])), (q7, .inl (K.2.1, 8, .inl fun _ => 0))] := hD
  refine lv_aload_n hx hb d_Parser_init_22 rfl (lv_at hl 0 rfl) ?_
  refine lv_aload_n hx hb d_Parser_init_23 rfl (lv_at hl 3 rfl) ?_
  refine va_putF (D := K.1) (ci := 6) (v := .ref p3) (ty := .object "LanguageServer$Complaints") (C := "LanguageServer$Parser") (T := T_Parser) (N := 8) hx hb hg in_Parser t_Parser t_Parser_ok n_Parser hown hK.1 hP hD hS 0 rfl rfl 2 (by decide) (hg _ wd_168) (fun _ h9 => h9) rfl hin rfl (by decide +kernel) rfl rfl (Nat.le_of_ble_eq_true rfl) d_Parser_init_24 (fun H locs hP hD hS => ?_)
  have hP : va_P K.1 vwCl [(q0, .inr (6, [.ref p1, .ref p2, .ref p3, .ref q7, .int 0, .int 0, .int 0, .int 0])), (q7, .inl (K.2.1, 8, .inl fun _ => 0))] H := hP
  have hD : va_D A [(q0, .inr (6, [.ref p1, .ref p2, .ref p3, .ref q7, .int 0, .int 0, .int 0, .int 0])), (q7, .inl (K.2.1, 8, .inl fun _ => 0))] := hD
  exact W.vret hx hb hr (fun t ht hW => ⟨⟨fun k => [q7].getD k 0, rfl, trivial, by show va_P K.1 vwCl _ t.heap; rw [ht]; exact hP, hD⟩, hS.F ht⟩) hS.2.2 d_Parser_init_27
abbrev y_Declarer_init : MethodName := ⟨"LanguageServer$Declarer", "<init>", "(LLanguageServer$Tokens;LLanguageServer$Outline;LLanguageServer$Complaints;)V"⟩
abbrev b_Declarer_init : ByteArray := prog_3_method_1_code
theorem d_Declarer_init_0 : decode b_Declarer_init 0 = .ok (.aload_n 0, 1) := by decide +kernel
theorem d_Declarer_init_1 : decode b_Declarer_init 1 = .ok (.invokespecial 3, 3) := by decide +kernel
theorem d_Declarer_init_4 : decode b_Declarer_init 4 = .ok (.aload_n 0, 1) := by decide +kernel
theorem d_Declarer_init_5 : decode b_Declarer_init 5 = .ok (.bipush 30, 2) := by decide +kernel
theorem d_Declarer_init_7 : decode b_Declarer_init 7 = .ok (.newarray .int, 2) := by decide +kernel
theorem d_Declarer_init_9 : decode b_Declarer_init 9 = .ok (.putfield 11, 3) := by decide +kernel
theorem d_Declarer_init_12 : decode b_Declarer_init 12 = .ok (.aload_n 0, 1) := by decide +kernel
theorem d_Declarer_init_13 : decode b_Declarer_init 13 = .ok (.aload_n 1, 1) := by decide +kernel
theorem d_Declarer_init_14 : decode b_Declarer_init 14 = .ok (.putfield 17, 3) := by decide +kernel
theorem d_Declarer_init_17 : decode b_Declarer_init 17 = .ok (.aload_n 0, 1) := by decide +kernel
theorem d_Declarer_init_18 : decode b_Declarer_init 18 = .ok (.aload_n 2, 1) := by decide +kernel
theorem d_Declarer_init_19 : decode b_Declarer_init 19 = .ok (.putfield 21, 3) := by decide +kernel
theorem d_Declarer_init_22 : decode b_Declarer_init 22 = .ok (.aload_n 0, 1) := by decide +kernel
theorem d_Declarer_init_23 : decode b_Declarer_init 23 = .ok (.aload_n 3, 1) := by decide +kernel
theorem d_Declarer_init_24 : decode b_Declarer_init 24 = .ok (.putfield 25, 3) := by decide +kernel
theorem d_Declarer_init_27 : decode b_Declarer_init 27 = .ok (.return_, 1) := by decide +kernel
abbrev w_Declarer_init : List Cond := Cond.code y_Declarer_init b_Declarer_init 4 none :: Tg
theorem ds_Declarer_init : y_Declarer_init.cls ≠ "java/lang/invoke/MethodHandle" ∧ y_Declarer_init.cls ≠ "java/lang/invoke/VarHandle" ∧ (parseMethodDescriptor y_Declarer_init.desc).map (fun d => d.parameters.length) = some 3 := by decide +kernel
theorem bl_Declarer : ∀ j, j < 6 → defaultValue (t_Declarer j) = vp_V [.null, .null, .null, .null, .int 0, .int 0] j := by
  intro j hj
  match j, hj with
  | 0, _ => rfl
  | 1, _ => rfl
  | 2, _ => rfl
  | 3, _ => rfl
  | 4, _ => rfl
  | 5, _ => rfl
  | k + 6, h => exact absurd h (by omega)
set_option maxHeartbeats 4000000 in
set_option maxRecDepth 100000 in
theorem c_Declarer_init (l : Launch) (K : Kst) (q0 sz p1 p2 p3 : Nat) : Met l y_Declarer_init w_Declarer_init { frames := 1, cells := 1, slots := 30, locals := 12 } (va_Pc [.ref q0, .ref p1, .ref p2, .ref p3] (fun U => U.heap.size = sz ∧ va_P K.1 vwCl [(q0, .inr (7, [.null, .null, .null, .null, .int 0, .int 0]))] U.heap ∧ RK K U)) (va_Qv (S := Nat → Nat) (fun u => True) (fun u t => va_P K.1 vwCl ([(q0, .inr (7, [.ref p1, .ref p2, .ref p3, .ref (u 0), .int 0, .int 0])), ((u 0), .inl (K.2.1, 30, .inl fun _ => 0))]) t.heap ∧ va_D (va_A [(q0, .inr (7, [.null, .null, .null, .null, .int 0, .int 0]))] sz) ([(q0, .inr (7, [.ref p1, .ref p2, .ref p3, .ref (u 0), .int 0, .int 0])), ((u 0), .inl (K.2.1, 30, .inl fun _ => 0))])) (va_A [(q0, .inr (7, [.null, .null, .null, .null, .int 0, .int 0]))] sz)) 1 30 (va_A [(q0, .inr (7, [.null, .null, .null, .null, .int 0, .int 0]))] sz) := by
  refine Met.ofW (cc := b_Declarer_init) (maxL := 4) (ret := none) (by decide) rfl ?_
  intro p e s m args below meth c s₁ Bd hml hv
  obtain ⟨rfl, hsz, hP, hK⟩ := hv
  have hx := Bd.exec
  have hb := Bd.bytes
  have hr := Bd.returns
  have hts := atoms_spec (ws := w_Declarer_init) Bd.pre
  have hg : ∀ w ∈ Tg, w.before _ s = true := fun w q => hts w (List.mem_cons_of_mem _ q)
  have hown : s.vm.findClass "LanguageServer$Declarer" = some m.cls := findClass_of_methodNamed Bd.named
  have hlocks := Bd.notSynchronized
  have hin : meth.name = "<init>" := (name_of_methodNamed Bd.named Bd.method).1
  subst hsz
  have hD : va_D (va_A [(q0, .inr (7, [.null, .null, .null, .null, .int 0, .int 0]))] s.heap.size) [(q0, .inr (7, [.null, .null, .null, .null, .int 0, .int 0]))] := (one_D (F := fun _ => True) trivial).self
  generalize hAe : va_A [(q0, .inr (7, [.null, .null, .null, .null, .int 0, .int 0]))] s.heap.size = A at hD ⊢
  have hA : ∀ q : Nat, s.heap.size ≤ q → A q := fun q h => by rw [← hAe]; exact Or.inr h
  have hS : va_S A s.heap s.heap [] := va_S.rf
  have hl := lv_entry ([.ref q0, .ref p1, .ref p2, .ref p3]) (n := 4) (Nat.le_of_ble_eq_true rfl)
  rw [lg_entry_eq]
  generalize (lg_sl ([.ref q0, .ref p1, .ref p2, .ref p3]) ++ List.replicate (4 - (lg_sl ([.ref q0, .ref p1, .ref p2, .ref p3])).length) Slot.unset).toArray = ls at hl ⊢
  have hl : lv_has ls 4 [(0, .ref q0), (1, .ref p1), (2, .ref p2), (3, .ref p3)] := hl
  refine lv_aload_n hx hb d_Declarer_init_0 rfl (lv_at hl 0 rfl) ?_
  refine W.objInit hx hb hown (hg _ wd_196) (hg _ wd_27) (hg _ wd_28) rfl (by rw [hml]; exact hl.1) rfl d_Declarer_init_1 (Nat.le_of_ble_eq_true rfl) (Nat.le_of_ble_eq_true rfl) ?_
  refine W.eq (g2 := F0 m 4 ls []) rfl ?_
  refine lv_aload_n hx hb d_Declarer_init_4 rfl (lv_at hl 0 rfl) ?_
  refine lv_bipush (v := 30) hx hb d_Declarer_init_5 (by decide) ?_
  refine C_newi (N := 30) hx hb hg hK hP hD hS hA (by decide) (by decide) (by decide) (Nat.le_of_ble_eq_true rfl) (Nat.le_of_ble_eq_true rfl) d_Declarer_init_7 (fun q7 H hP hD hS => ?_)
  refine W.widen (k := 1) (n := 30) (by omega) (by omega) ?_
  have hP : va_P K.1 vwCl [(q0, .inr (7, [.null, .null, .null, .null, .int 0, .int 0])), (q7, .inl (K.2.1, 30, .inl fun _ => 0))] H := hP
  have hD : va_D A [(q0, .inr (7, [.null, .null, .null, .null, .int 0, .int 0])), (q7, .inl (K.2.1, 30, .inl fun _ => 0))] := hD
  refine va_putF (D := K.1) (ci := 7) (v := .ref q7) (ty := .array .int) (C := "LanguageServer$Declarer") (T := T_Declarer) (N := 6) hx hb hg in_Declarer t_Declarer t_Declarer_ok n_Declarer hown hK.1 hP hD hS 0 rfl rfl 3 (by decide) (hg _ wd_200) (fun _ h9 => h9) rfl hin rfl (by decide +kernel) rfl rfl (Nat.le_of_ble_eq_true rfl) d_Declarer_init_9 (fun H locs hP hD hS => ?_)
  have hP : va_P K.1 vwCl [(q0, .inr (7, [.null, .null, .null, .ref q7, .int 0, .int 0])), (q7, .inl (K.2.1, 30, .inl fun _ => 0))] H := hP
  have hD : va_D A [(q0, .inr (7, [.null, .null, .null, .ref q7, .int 0, .int 0])), (q7, .inl (K.2.1, 30, .inl fun _ => 0))] := hD
  refine lv_aload_n hx hb d_Declarer_init_12 rfl (lv_at hl 0 rfl) ?_
  refine lv_aload_n hx hb d_Declarer_init_13 rfl (lv_at hl 1 rfl) ?_
  refine va_putF (D := K.1) (ci := 7) (v := .ref p1) (ty := .object "LanguageServer$Tokens") (C := "LanguageServer$Declarer") (T := T_Declarer) (N := 6) hx hb hg in_Declarer t_Declarer t_Declarer_ok n_Declarer hown hK.1 hP hD hS 0 rfl rfl 0 (by decide) (hg _ wd_197) (fun _ h9 => h9) rfl hin rfl (by decide +kernel) rfl rfl (Nat.le_of_ble_eq_true rfl) d_Declarer_init_14 (fun H locs hP hD hS => ?_)
  have hP : va_P K.1 vwCl [(q0, .inr (7, [.ref p1, .null, .null, .ref q7, .int 0, .int 0])), (q7, .inl (K.2.1, 30, .inl fun _ => 0))] H := hP
  have hD : va_D A [(q0, .inr (7, [.ref p1, .null, .null, .ref q7, .int 0, .int 0])), (q7, .inl (K.2.1, 30, .inl fun _ => 0))] := hD
  refine lv_aload_n hx hb d_Declarer_init_17 rfl (lv_at hl 0 rfl) ?_
  refine lv_aload_n hx hb d_Declarer_init_18 rfl (lv_at hl 2 rfl) ?_
  refine va_putF (D := K.1) (ci := 7) (v := .ref p2) (ty := .object "LanguageServer$Outline") (C := "LanguageServer$Declarer") (T := T_Declarer) (N := 6) hx hb hg in_Declarer t_Declarer t_Declarer_ok n_Declarer hown hK.1 hP hD hS 0 rfl rfl 1 (by decide) (hg _ wd_198) (fun _ h9 => h9) rfl hin rfl (by decide +kernel) rfl rfl (Nat.le_of_ble_eq_true rfl) d_Declarer_init_19 (fun H locs hP hD hS => ?_)
  have hP : va_P K.1 vwCl [(q0, .inr (7, [.ref p1, .ref p2, .null, .ref q7, .int 0, .int 0])), (q7, .inl (K.2.1, 30, .inl fun _ => 0))] H := hP
  have hD : va_D A [(q0, .inr (7, [.ref p1, .ref p2, .null, .ref q7, .int 0, .int 0])), (q7, .inl (K.2.1, 30, .inl fun _ => 0))] := hD
  refine lv_aload_n hx hb d_Declarer_init_22 rfl (lv_at hl 0 rfl) ?_
  refine lv_aload_n hx hb d_Declarer_init_23 rfl (lv_at hl 3 rfl) ?_
  refine va_putF (D := K.1) (ci := 7) (v := .ref p3) (ty := .object "LanguageServer$Complaints") (C := "LanguageServer$Declarer") (T := T_Declarer) (N := 6) hx hb hg in_Declarer t_Declarer t_Declarer_ok n_Declarer hown hK.1 hP hD hS 0 rfl rfl 2 (by decide) (hg _ wd_199) (fun _ h9 => h9) rfl hin rfl (by decide +kernel) rfl rfl (Nat.le_of_ble_eq_true rfl) d_Declarer_init_24 (fun H locs hP hD hS => ?_)
  have hP : va_P K.1 vwCl [(q0, .inr (7, [.ref p1, .ref p2, .ref p3, .ref q7, .int 0, .int 0])), (q7, .inl (K.2.1, 30, .inl fun _ => 0))] H := hP
  have hD : va_D A [(q0, .inr (7, [.ref p1, .ref p2, .ref p3, .ref q7, .int 0, .int 0])), (q7, .inl (K.2.1, 30, .inl fun _ => 0))] := hD
  exact W.vret hx hb hr (fun t ht hW => ⟨⟨fun k => [q7].getD k 0, rfl, trivial, by show va_P K.1 vwCl _ t.heap; rw [ht]; exact hP, hD⟩, hS.F ht⟩) hS.2.2 d_Declarer_init_27
abbrev y_Judge_init : MethodName := ⟨"LanguageServer$Judge", "<init>", "(LLanguageServer$Tokens;LLanguageServer$Outline;LLanguageServer$Complaints;)V"⟩
abbrev b_Judge_init : ByteArray := prog_4_method_1_code
theorem d_Judge_init_0 : decode b_Judge_init 0 = .ok (.aload_n 0, 1) := by decide +kernel
theorem d_Judge_init_1 : decode b_Judge_init 1 = .ok (.invokespecial 3, 3) := by decide +kernel
theorem d_Judge_init_4 : decode b_Judge_init 4 = .ok (.aload_n 0, 1) := by decide +kernel
theorem d_Judge_init_5 : decode b_Judge_init 5 = .ok (.bipush 9, 2) := by decide +kernel
theorem d_Judge_init_7 : decode b_Judge_init 7 = .ok (.newarray .int, 2) := by decide +kernel
theorem d_Judge_init_9 : decode b_Judge_init 9 = .ok (.putfield 11, 3) := by decide +kernel
theorem d_Judge_init_12 : decode b_Judge_init 12 = .ok (.aload_n 0, 1) := by decide +kernel
theorem d_Judge_init_13 : decode b_Judge_init 13 = .ok (.bipush 9, 2) := by decide +kernel
theorem d_Judge_init_15 : decode b_Judge_init 15 = .ok (.newarray .int, 2) := by decide +kernel
theorem d_Judge_init_17 : decode b_Judge_init 17 = .ok (.putfield 15, 3) := by decide +kernel
theorem d_Judge_init_20 : decode b_Judge_init 20 = .ok (.aload_n 0, 1) := by decide +kernel
theorem d_Judge_init_21 : decode b_Judge_init 21 = .ok (.bipush 9, 2) := by decide +kernel
theorem d_Judge_init_23 : decode b_Judge_init 23 = .ok (.newarray .int, 2) := by decide +kernel
theorem d_Judge_init_25 : decode b_Judge_init 25 = .ok (.putfield 18, 3) := by decide +kernel
theorem d_Judge_init_28 : decode b_Judge_init 28 = .ok (.aload_n 0, 1) := by decide +kernel
theorem d_Judge_init_29 : decode b_Judge_init 29 = .ok (.bipush 9, 2) := by decide +kernel
theorem d_Judge_init_31 : decode b_Judge_init 31 = .ok (.newarray .int, 2) := by decide +kernel
theorem d_Judge_init_33 : decode b_Judge_init 33 = .ok (.putfield 21, 3) := by decide +kernel
theorem d_Judge_init_36 : decode b_Judge_init 36 = .ok (.aload_n 0, 1) := by decide +kernel
theorem d_Judge_init_37 : decode b_Judge_init 37 = .ok (.bipush 9, 2) := by decide +kernel
theorem d_Judge_init_39 : decode b_Judge_init 39 = .ok (.newarray .int, 2) := by decide +kernel
theorem d_Judge_init_41 : decode b_Judge_init 41 = .ok (.putfield 24, 3) := by decide +kernel
theorem d_Judge_init_44 : decode b_Judge_init 44 = .ok (.aload_n 0, 1) := by decide +kernel
theorem d_Judge_init_45 : decode b_Judge_init 45 = .ok (.bipush 9, 2) := by decide +kernel
theorem d_Judge_init_47 : decode b_Judge_init 47 = .ok (.newarray .boolean, 2) := by decide +kernel
theorem d_Judge_init_49 : decode b_Judge_init 49 = .ok (.putfield 27, 3) := by decide +kernel
theorem d_Judge_init_52 : decode b_Judge_init 52 = .ok (.aload_n 0, 1) := by decide +kernel
theorem d_Judge_init_53 : decode b_Judge_init 53 = .ok (.aload_n 1, 1) := by decide +kernel
theorem d_Judge_init_54 : decode b_Judge_init 54 = .ok (.putfield 31, 3) := by decide +kernel
theorem d_Judge_init_57 : decode b_Judge_init 57 = .ok (.aload_n 0, 1) := by decide +kernel
theorem d_Judge_init_58 : decode b_Judge_init 58 = .ok (.aload_n 2, 1) := by decide +kernel
theorem d_Judge_init_59 : decode b_Judge_init 59 = .ok (.putfield 35, 3) := by decide +kernel
theorem d_Judge_init_62 : decode b_Judge_init 62 = .ok (.aload_n 0, 1) := by decide +kernel
theorem d_Judge_init_63 : decode b_Judge_init 63 = .ok (.aload_n 3, 1) := by decide +kernel
theorem d_Judge_init_64 : decode b_Judge_init 64 = .ok (.putfield 39, 3) := by decide +kernel
theorem d_Judge_init_67 : decode b_Judge_init 67 = .ok (.return_, 1) := by decide +kernel
abbrev w_Judge_init : List Cond := Cond.code y_Judge_init b_Judge_init 4 none :: Tg
theorem ds_Judge_init : y_Judge_init.cls ≠ "java/lang/invoke/MethodHandle" ∧ y_Judge_init.cls ≠ "java/lang/invoke/VarHandle" ∧ (parseMethodDescriptor y_Judge_init.desc).map (fun d => d.parameters.length) = some 3 := by decide +kernel
theorem bl_Judge : ∀ j, j < 15 → defaultValue (t_Judge j) = vp_V [.null, .null, .null, .null, .null, .null, .null, .null, .null, .int 0, .int 0, .int 0, .int 0, .int 0, .int 0] j := by
  intro j hj
  match j, hj with
  | 0, _ => rfl
  | 1, _ => rfl
  | 2, _ => rfl
  | 3, _ => rfl
  | 4, _ => rfl
  | 5, _ => rfl
  | 6, _ => rfl
  | 7, _ => rfl
  | 8, _ => rfl
  | 9, _ => rfl
  | 10, _ => rfl
  | 11, _ => rfl
  | 12, _ => rfl
  | 13, _ => rfl
  | 14, _ => rfl
  | k + 15, h => exact absurd h (by omega)
set_option maxHeartbeats 4000000 in
set_option maxRecDepth 100000 in
theorem c_Judge_init (l : Launch) (K : Kst) (q0 sz p1 p2 p3 : Nat) : Met l y_Judge_init w_Judge_init { frames := 1, cells := 6, slots := 54, locals := 12 } (va_Pc [.ref q0, .ref p1, .ref p2, .ref p3] (fun U => U.heap.size = sz ∧ va_P K.1 vwCl [(q0, .inr (8, [.null, .null, .null, .null, .null, .null, .null, .null, .null, .int 0, .int 0, .int 0, .int 0, .int 0, .int 0]))] U.heap ∧ RK K U)) (va_Qv (S := Nat → Nat) (fun u => True) (fun u t => va_P K.1 vwCl ([(q0, .inr (8, [.ref p1, .ref p2, .ref p3, .ref (u 0), .ref (u 1), .ref (u 2), .ref (u 3), .ref (u 4), .ref (u 5), .int 0, .int 0, .int 0, .int 0, .int 0, .int 0])), ((u 0), .inl (K.2.1, 9, .inl fun _ => 0)), ((u 1), .inl (K.2.1, 9, .inl fun _ => 0)), ((u 2), .inl (K.2.1, 9, .inl fun _ => 0)), ((u 3), .inl (K.2.1, 9, .inl fun _ => 0)), ((u 4), .inl (K.2.1, 9, .inl fun _ => 0)), ((u 5), .inl (K.2.2.2, 9, .inl fun _ => 0))]) t.heap ∧ va_D (va_A [(q0, .inr (8, [.null, .null, .null, .null, .null, .null, .null, .null, .null, .int 0, .int 0, .int 0, .int 0, .int 0, .int 0]))] sz) ([(q0, .inr (8, [.ref p1, .ref p2, .ref p3, .ref (u 0), .ref (u 1), .ref (u 2), .ref (u 3), .ref (u 4), .ref (u 5), .int 0, .int 0, .int 0, .int 0, .int 0, .int 0])), ((u 0), .inl (K.2.1, 9, .inl fun _ => 0)), ((u 1), .inl (K.2.1, 9, .inl fun _ => 0)), ((u 2), .inl (K.2.1, 9, .inl fun _ => 0)), ((u 3), .inl (K.2.1, 9, .inl fun _ => 0)), ((u 4), .inl (K.2.1, 9, .inl fun _ => 0)), ((u 5), .inl (K.2.2.2, 9, .inl fun _ => 0))])) (va_A [(q0, .inr (8, [.null, .null, .null, .null, .null, .null, .null, .null, .null, .int 0, .int 0, .int 0, .int 0, .int 0, .int 0]))] sz)) 6 54 (va_A [(q0, .inr (8, [.null, .null, .null, .null, .null, .null, .null, .null, .null, .int 0, .int 0, .int 0, .int 0, .int 0, .int 0]))] sz) := by
  refine Met.ofW (cc := b_Judge_init) (maxL := 4) (ret := none) (by decide) rfl ?_
  intro p e s m args below meth c s₁ Bd hml hv
  obtain ⟨rfl, hsz, hP, hK⟩ := hv
  have hx := Bd.exec
  have hb := Bd.bytes
  have hr := Bd.returns
  have hts := atoms_spec (ws := w_Judge_init) Bd.pre
  have hg : ∀ w ∈ Tg, w.before _ s = true := fun w q => hts w (List.mem_cons_of_mem _ q)
  have hown : s.vm.findClass "LanguageServer$Judge" = some m.cls := findClass_of_methodNamed Bd.named
  have hlocks := Bd.notSynchronized
  have hin : meth.name = "<init>" := (name_of_methodNamed Bd.named Bd.method).1
  subst hsz
  have hD : va_D (va_A [(q0, .inr (8, [.null, .null, .null, .null, .null, .null, .null, .null, .null, .int 0, .int 0, .int 0, .int 0, .int 0, .int 0]))] s.heap.size) [(q0, .inr (8, [.null, .null, .null, .null, .null, .null, .null, .null, .null, .int 0, .int 0, .int 0, .int 0, .int 0, .int 0]))] := (one_D (F := fun _ => True) trivial).self
  generalize hAe : va_A [(q0, .inr (8, [.null, .null, .null, .null, .null, .null, .null, .null, .null, .int 0, .int 0, .int 0, .int 0, .int 0, .int 0]))] s.heap.size = A at hD ⊢
  have hA : ∀ q : Nat, s.heap.size ≤ q → A q := fun q h => by rw [← hAe]; exact Or.inr h
  have hS : va_S A s.heap s.heap [] := va_S.rf
  have hl := lv_entry ([.ref q0, .ref p1, .ref p2, .ref p3]) (n := 4) (Nat.le_of_ble_eq_true rfl)
  rw [lg_entry_eq]
  generalize (lg_sl ([.ref q0, .ref p1, .ref p2, .ref p3]) ++ List.replicate (4 - (lg_sl ([.ref q0, .ref p1, .ref p2, .ref p3])).length) Slot.unset).toArray = ls at hl ⊢
  have hl : lv_has ls 4 [(0, .ref q0), (1, .ref p1), (2, .ref p2), (3, .ref p3)] := hl
  refine lv_aload_n hx hb d_Judge_init_0 rfl (lv_at hl 0 rfl) ?_
  refine W.objInit hx hb hown (hg _ wd_221) (hg _ wd_27) (hg _ wd_28) rfl (by rw [hml]; exact hl.1) rfl d_Judge_init_1 (Nat.le_of_ble_eq_true rfl) (Nat.le_of_ble_eq_true rfl) ?_
  refine W.eq (g2 := F0 m 4 ls []) rfl ?_
  refine lv_aload_n hx hb d_Judge_init_4 rfl (lv_at hl 0 rfl) ?_
  refine lv_bipush (v := 9) hx hb d_Judge_init_5 (by decide) ?_
  refine C_newi (N := 9) hx hb hg hK hP hD hS hA (by decide) (by decide) (by decide) (Nat.le_of_ble_eq_true rfl) (Nat.le_of_ble_eq_true rfl) d_Judge_init_7 (fun q7 H hP hD hS => ?_)
  refine W.widen (k := 1) (n := 9) (by omega) (by omega) ?_
  have hP : va_P K.1 vwCl [(q0, .inr (8, [.null, .null, .null, .null, .null, .null, .null, .null, .null, .int 0, .int 0, .int 0, .int 0, .int 0, .int 0])), (q7, .inl (K.2.1, 9, .inl fun _ => 0))] H := hP
  have hD : va_D A [(q0, .inr (8, [.null, .null, .null, .null, .null, .null, .null, .null, .null, .int 0, .int 0, .int 0, .int 0, .int 0, .int 0])), (q7, .inl (K.2.1, 9, .inl fun _ => 0))] := hD
  refine va_putF (D := K.1) (ci := 8) (v := .ref q7) (ty := .array .int) (C := "LanguageServer$Judge") (T := T_Judge) (N := 15) hx hb hg in_Judge t_Judge t_Judge_ok n_Judge hown hK.1 hP hD hS 0 rfl rfl 3 (by decide) (hg _ wd_225) (fun _ h9 => h9) rfl hin rfl (by decide +kernel) rfl rfl (Nat.le_of_ble_eq_true rfl) d_Judge_init_9 (fun H locs hP hD hS => ?_)
  have hP : va_P K.1 vwCl [(q0, .inr (8, [.null, .null, .null, .ref q7, .null, .null, .null, .null, .null, .int 0, .int 0, .int 0, .int 0, .int 0, .int 0])), (q7, .inl (K.2.1, 9, .inl fun _ => 0))] H := hP
  have hD : va_D A [(q0, .inr (8, [.null, .null, .null, .ref q7, .null, .null, .null, .null, .null, .int 0, .int 0, .int 0, .int 0, .int 0, .int 0])), (q7, .inl (K.2.1, 9, .inl fun _ => 0))] := hD
  refine lv_aload_n hx hb d_Judge_init_12 rfl (lv_at hl 0 rfl) ?_
  refine lv_bipush (v := 9) hx hb d_Judge_init_13 (by decide) ?_
  refine C_newi (N := 9) hx hb hg hK hP hD hS hA (by decide) (by decide) (by decide) (Nat.le_of_ble_eq_true rfl) (Nat.le_of_ble_eq_true rfl) d_Judge_init_15 (fun q15 H hP hD hS => ?_)
  refine W.widen (k := 2) (n := 18) (by omega) (by omega) ?_
  have hP : va_P K.1 vwCl [(q0, .inr (8, [.null, .null, .null, .ref q7, .null, .null, .null, .null, .null, .int 0, .int 0, .int 0, .int 0, .int 0, .int 0])), (q7, .inl (K.2.1, 9, .inl fun _ => 0)), (q15, .inl (K.2.1, 9, .inl fun _ => 0))] H := hP
  have hD : va_D A [(q0, .inr (8, [.null, .null, .null, .ref q7, .null, .null, .null, .null, .null, .int 0, .int 0, .int 0, .int 0, .int 0, .int 0])), (q7, .inl (K.2.1, 9, .inl fun _ => 0)), (q15, .inl (K.2.1, 9, .inl fun _ => 0))] := hD
  refine va_putF (D := K.1) (ci := 8) (v := .ref q15) (ty := .array .int) (C := "LanguageServer$Judge") (T := T_Judge) (N := 15) hx hb hg in_Judge t_Judge t_Judge_ok n_Judge hown hK.1 hP hD hS 0 rfl rfl 4 (by decide) (hg _ wd_226) (fun _ h9 => h9) rfl hin rfl (by decide +kernel) rfl rfl (Nat.le_of_ble_eq_true rfl) d_Judge_init_17 (fun H locs hP hD hS => ?_)
  have hP : va_P K.1 vwCl [(q0, .inr (8, [.null, .null, .null, .ref q7, .ref q15, .null, .null, .null, .null, .int 0, .int 0, .int 0, .int 0, .int 0, .int 0])), (q7, .inl (K.2.1, 9, .inl fun _ => 0)), (q15, .inl (K.2.1, 9, .inl fun _ => 0))] H := hP
  have hD : va_D A [(q0, .inr (8, [.null, .null, .null, .ref q7, .ref q15, .null, .null, .null, .null, .int 0, .int 0, .int 0, .int 0, .int 0, .int 0])), (q7, .inl (K.2.1, 9, .inl fun _ => 0)), (q15, .inl (K.2.1, 9, .inl fun _ => 0))] := hD
  refine lv_aload_n hx hb d_Judge_init_20 rfl (lv_at hl 0 rfl) ?_
  refine lv_bipush (v := 9) hx hb d_Judge_init_21 (by decide) ?_
  refine C_newi (N := 9) hx hb hg hK hP hD hS hA (by decide) (by decide) (by decide) (Nat.le_of_ble_eq_true rfl) (Nat.le_of_ble_eq_true rfl) d_Judge_init_23 (fun q23 H hP hD hS => ?_)
  refine W.widen (k := 3) (n := 27) (by omega) (by omega) ?_
  have hP : va_P K.1 vwCl [(q0, .inr (8, [.null, .null, .null, .ref q7, .ref q15, .null, .null, .null, .null, .int 0, .int 0, .int 0, .int 0, .int 0, .int 0])), (q7, .inl (K.2.1, 9, .inl fun _ => 0)), (q15, .inl (K.2.1, 9, .inl fun _ => 0)), (q23, .inl (K.2.1, 9, .inl fun _ => 0))] H := hP
  have hD : va_D A [(q0, .inr (8, [.null, .null, .null, .ref q7, .ref q15, .null, .null, .null, .null, .int 0, .int 0, .int 0, .int 0, .int 0, .int 0])), (q7, .inl (K.2.1, 9, .inl fun _ => 0)), (q15, .inl (K.2.1, 9, .inl fun _ => 0)), (q23, .inl (K.2.1, 9, .inl fun _ => 0))] := hD
  refine va_putF (D := K.1) (ci := 8) (v := .ref q23) (ty := .array .int) (C := "LanguageServer$Judge") (T := T_Judge) (N := 15) hx hb hg in_Judge t_Judge t_Judge_ok n_Judge hown hK.1 hP hD hS 0 rfl rfl 5 (by decide) (hg _ wd_227) (fun _ h9 => h9) rfl hin rfl (by decide +kernel) rfl rfl (Nat.le_of_ble_eq_true rfl) d_Judge_init_25 (fun H locs hP hD hS => ?_)
  have hP : va_P K.1 vwCl [(q0, .inr (8, [.null, .null, .null, .ref q7, .ref q15, .ref q23, .null, .null, .null, .int 0, .int 0, .int 0, .int 0, .int 0, .int 0])), (q7, .inl (K.2.1, 9, .inl fun _ => 0)), (q15, .inl (K.2.1, 9, .inl fun _ => 0)), (q23, .inl (K.2.1, 9, .inl fun _ => 0))] H := hP
  have hD : va_D A [(q0, .inr (8, [.null, .null, .null, .ref q7, .ref q15, .ref q23, .null, .null, .null, .int 0, .int 0, .int 0, .int 0, .int 0, .int 0])), (q7, .inl (K.2.1, 9, .inl fun _ => 0)), (q15, .inl (K.2.1, 9, .inl fun _ => 0)), (q23, .inl (K.2.1, 9, .inl fun _ => 0))] := hD
  refine lv_aload_n hx hb d_Judge_init_28 rfl (lv_at hl 0 rfl) ?_
  refine lv_bipush (v := 9) hx hb d_Judge_init_29 (by decide) ?_
  refine C_newi (N := 9) hx hb hg hK hP hD hS hA (by decide) (by decide) (by decide) (Nat.le_of_ble_eq_true rfl) (Nat.le_of_ble_eq_true rfl) d_Judge_init_31 (fun q31 H hP hD hS => ?_)
  refine W.widen (k := 4) (n := 36) (by omega) (by omega) ?_
  have hP : va_P K.1 vwCl [(q0, .inr (8, [.null, .null, .null, .ref q7, .ref q15, .ref q23, .null, .null, .null, .int 0, .int 0, .int 0, .int 0, .int 0, .int 0])), (q7, .inl (K.2.1, 9, .inl fun _ => 0)), (q15, .inl (K.2.1, 9, .inl fun _ => 0)), (q23, .inl (K.2.1, 9, .inl fun _ => 0)), (q31, .inl (K.2.1, 9, .inl fun _ => 0))] H := hP
  have hD : va_D A [(q0, .inr (8, [.null, .null, .null, .ref q7, .ref q15, .ref q23, .null, .null, .null, .int 0, .int 0, .int 0, .int 0, .int 0, .int 0])), (q7, .inl (K.2.1, 9, .inl fun _ => 0)), (q15, .inl (K.2.1, 9, .inl fun _ => 0)), (q23, .inl (K.2.1, 9, .inl fun _ => 0)), (q31, .inl (K.2.1, 9, .inl fun _ => 0))] := hD
  refine va_putF (D := K.1) (ci := 8) (v := .ref q31) (ty := .array .int) (C := "LanguageServer$Judge") (T := T_Judge) (N := 15) hx hb hg in_Judge t_Judge t_Judge_ok n_Judge hown hK.1 hP hD hS 0 rfl rfl 6 (by decide) (hg _ wd_228) (fun _ h9 => h9) rfl hin rfl (by decide +kernel) rfl rfl (Nat.le_of_ble_eq_true rfl) d_Judge_init_33 (fun H locs hP hD hS => ?_)
  have hP : va_P K.1 vwCl [(q0, .inr (8, [.null, .null, .null, .ref q7, .ref q15, .ref q23, .ref q31, .null, .null, .int 0, .int 0, .int 0, .int 0, .int 0, .int 0])), (q7, .inl (K.2.1, 9, .inl fun _ => 0)), (q15, .inl (K.2.1, 9, .inl fun _ => 0)), (q23, .inl (K.2.1, 9, .inl fun _ => 0)), (q31, .inl (K.2.1, 9, .inl fun _ => 0))] H := hP
  have hD : va_D A [(q0, .inr (8, [.null, .null, .null, .ref q7, .ref q15, .ref q23, .ref q31, .null, .null, .int 0, .int 0, .int 0, .int 0, .int 0, .int 0])), (q7, .inl (K.2.1, 9, .inl fun _ => 0)), (q15, .inl (K.2.1, 9, .inl fun _ => 0)), (q23, .inl (K.2.1, 9, .inl fun _ => 0)), (q31, .inl (K.2.1, 9, .inl fun _ => 0))] := hD
  refine lv_aload_n hx hb d_Judge_init_36 rfl (lv_at hl 0 rfl) ?_
  refine lv_bipush (v := 9) hx hb d_Judge_init_37 (by decide) ?_
  refine C_newi (N := 9) hx hb hg hK hP hD hS hA (by decide) (by decide) (by decide) (Nat.le_of_ble_eq_true rfl) (Nat.le_of_ble_eq_true rfl) d_Judge_init_39 (fun q39 H hP hD hS => ?_)
  refine W.widen (k := 5) (n := 45) (by omega) (by omega) ?_
  have hP : va_P K.1 vwCl [(q0, .inr (8, [.null, .null, .null, .ref q7, .ref q15, .ref q23, .ref q31, .null, .null, .int 0, .int 0, .int 0, .int 0, .int 0, .int 0])), (q7, .inl (K.2.1, 9, .inl fun _ => 0)), (q15, .inl (K.2.1, 9, .inl fun _ => 0)), (q23, .inl (K.2.1, 9, .inl fun _ => 0)), (q31, .inl (K.2.1, 9, .inl fun _ => 0)), (q39, .inl (K.2.1, 9, .inl fun _ => 0))] H := hP
  have hD : va_D A [(q0, .inr (8, [.null, .null, .null, .ref q7, .ref q15, .ref q23, .ref q31, .null, .null, .int 0, .int 0, .int 0, .int 0, .int 0, .int 0])), (q7, .inl (K.2.1, 9, .inl fun _ => 0)), (q15, .inl (K.2.1, 9, .inl fun _ => 0)), (q23, .inl (K.2.1, 9, .inl fun _ => 0)), (q31, .inl (K.2.1, 9, .inl fun _ => 0)), (q39, .inl (K.2.1, 9, .inl fun _ => 0))] := hD
  refine va_putF (D := K.1) (ci := 8) (v := .ref q39) (ty := .array .int) (C := "LanguageServer$Judge") (T := T_Judge) (N := 15) hx hb hg in_Judge t_Judge t_Judge_ok n_Judge hown hK.1 hP hD hS 0 rfl rfl 7 (by decide) (hg _ wd_229) (fun _ h9 => h9) rfl hin rfl (by decide +kernel) rfl rfl (Nat.le_of_ble_eq_true rfl) d_Judge_init_41 (fun H locs hP hD hS => ?_)
  have hP : va_P K.1 vwCl [(q0, .inr (8, [.null, .null, .null, .ref q7, .ref q15, .ref q23, .ref q31, .ref q39, .null, .int 0, .int 0, .int 0, .int 0, .int 0, .int 0])), (q7, .inl (K.2.1, 9, .inl fun _ => 0)), (q15, .inl (K.2.1, 9, .inl fun _ => 0)), (q23, .inl (K.2.1, 9, .inl fun _ => 0)), (q31, .inl (K.2.1, 9, .inl fun _ => 0)), (q39, .inl (K.2.1, 9, .inl fun _ => 0))] H := hP
  have hD : va_D A [(q0, .inr (8, [.null, .null, .null, .ref q7, .ref q15, .ref q23, .ref q31, .ref q39, .null, .int 0, .int 0, .int 0, .int 0, .int 0, .int 0])), (q7, .inl (K.2.1, 9, .inl fun _ => 0)), (q15, .inl (K.2.1, 9, .inl fun _ => 0)), (q23, .inl (K.2.1, 9, .inl fun _ => 0)), (q31, .inl (K.2.1, 9, .inl fun _ => 0)), (q39, .inl (K.2.1, 9, .inl fun _ => 0))] := hD
  refine lv_aload_n hx hb d_Judge_init_44 rfl (lv_at hl 0 rfl) ?_
  refine lv_bipush (v := 9) hx hb d_Judge_init_45 (by decide) ?_
  refine C_newz (N := 9) hx hb hg hK hP hD hS hA (by decide) (by decide) (by decide) (Nat.le_of_ble_eq_true rfl) (Nat.le_of_ble_eq_true rfl) d_Judge_init_47 (fun q47 H hP hD hS => ?_)
  refine W.widen (k := 6) (n := 54) (by omega) (by omega) ?_
  have hP : va_P K.1 vwCl [(q0, .inr (8, [.null, .null, .null, .ref q7, .ref q15, .ref q23, .ref q31, .ref q39, .null, .int 0, .int 0, .int 0, .int 0, .int 0, .int 0])), (q7, .inl (K.2.1, 9, .inl fun _ => 0)), (q15, .inl (K.2.1, 9, .inl fun _ => 0)), (q23, .inl (K.2.1, 9, .inl fun _ => 0)), (q31, .inl (K.2.1, 9, .inl fun _ => 0)), (q39, .inl (K.2.1, 9, .inl fun _ => 0)), (q47, .inl (K.2.2.2, 9, .inl fun _ => 0))] H := hP
  have hD : va_D A [(q0, .inr (8, [.null, .null, .null, .ref q7, .ref q15, .ref q23, .ref q31, .ref q39, .null, .int 0, .int 0, .int 0, .int 0, .int 0, .int 0])), (q7, .inl (K.2.1, 9, .inl fun _ => 0)), (q15, .inl (K.2.1, 9, .inl fun _ => 0)), (q23, .inl (K.2.1, 9, .inl fun _ => 0)), (q31, .inl (K.2.1, 9, .inl fun _ => 0)), (q39, .inl (K.2.1, 9, .inl fun _ => 0)), (q47, .inl (K.2.2.2, 9, .inl fun _ => 0))] := hD
  refine va_putF (D := K.1) (ci := 8) (v := .ref q47) (ty := .array .boolean) (C := "LanguageServer$Judge") (T := T_Judge) (N := 15) hx hb hg in_Judge t_Judge t_Judge_ok n_Judge hown hK.1 hP hD hS 0 rfl rfl 8 (by decide) (hg _ wd_230) (fun _ h9 => h9) rfl hin rfl (by decide +kernel) rfl rfl (Nat.le_of_ble_eq_true rfl) d_Judge_init_49 (fun H locs hP hD hS => ?_)
  have hP : va_P K.1 vwCl [(q0, .inr (8, [.null, .null, .null, .ref q7, .ref q15, .ref q23, .ref q31, .ref q39, .ref q47, .int 0, .int 0, .int 0, .int 0, .int 0, .int 0])), (q7, .inl (K.2.1, 9, .inl fun _ => 0)), (q15, .inl (K.2.1, 9, .inl fun _ => 0)), (q23, .inl (K.2.1, 9, .inl fun _ => 0)), (q31, .inl (K.2.1, 9, .inl fun _ => 0)), (q39, .inl (K.2.1, 9, .inl fun _ => 0)), (q47, .inl (K.2.2.2, 9, .inl fun _ => 0))] H := hP
  have hD : va_D A [(q0, .inr (8, [.null, .null, .null, .ref q7, .ref q15, .ref q23, .ref q31, .ref q39, .ref q47, .int 0, .int 0, .int 0, .int 0, .int 0, .int 0])), (q7, .inl (K.2.1, 9, .inl fun _ => 0)), (q15, .inl (K.2.1, 9, .inl fun _ => 0)), (q23, .inl (K.2.1, 9, .inl fun _ => 0)), (q31, .inl (K.2.1, 9, .inl fun _ => 0)), (q39, .inl (K.2.1, 9, .inl fun _ => 0)), (q47, .inl (K.2.2.2, 9, .inl fun _ => 0))] := hD
  refine lv_aload_n hx hb d_Judge_init_52 rfl (lv_at hl 0 rfl) ?_
  refine lv_aload_n hx hb d_Judge_init_53 rfl (lv_at hl 1 rfl) ?_
  refine va_putF (D := K.1) (ci := 8) (v := .ref p1) (ty := .object "LanguageServer$Tokens") (C := "LanguageServer$Judge") (T := T_Judge) (N := 15) hx hb hg in_Judge t_Judge t_Judge_ok n_Judge hown hK.1 hP hD hS 0 rfl rfl 0 (by decide) (hg _ wd_222) (fun _ h9 => h9) rfl hin rfl (by decide +kernel) rfl rfl (Nat.le_of_ble_eq_true rfl) d_Judge_init_54 (fun H locs hP hD hS => ?_)
  have hP : va_P K.1 vwCl [(q0, .inr (8, [.ref p1, .null, .null, .ref q7, .ref q15, .ref q23, .ref q31, .ref q39, .ref q47, .int 0, .int 0, .int 0, .int 0, .int 0, .int 0])), (q7, .inl (K.2.1, 9, .inl fun _ => 0)), (q15, .inl (K.2.1, 9, .inl fun _ => 0)), (q23, .inl (K.2.1, 9, .inl fun _ => 0)), (q31, .inl (K.2.1, 9, .inl fun _ => 0)), (q39, .inl (K.2.1, 9, .inl fun _ => 0)), (q47, .inl (K.2.2.2, 9, .inl fun _ => 0))] H := hP
  have hD : va_D A [(q0, .inr (8, [.ref p1, .null, .null, .ref q7, .ref q15, .ref q23, .ref q31, .ref q39, .ref q47, .int 0, .int 0, .int 0, .int 0, .int 0, .int 0])), (q7, .inl (K.2.1, 9, .inl fun _ => 0)), (q15, .inl (K.2.1, 9, .inl fun _ => 0)), (q23, .inl (K.2.1, 9, .inl fun _ => 0)), (q31, .inl (K.2.1, 9, .inl fun _ => 0)), (q39, .inl (K.2.1, 9, .inl fun _ => 0)), (q47, .inl (K.2.2.2, 9, .inl fun _ => 0))] := hD
  refine lv_aload_n hx hb d_Judge_init_57 rfl (lv_at hl 0 rfl) ?_
  refine lv_aload_n hx hb d_Judge_init_58 rfl (lv_at hl 2 rfl) ?_
  refine va_putF (D := K.1) (ci := 8) (v := .ref p2) (ty := .object "LanguageServer$Outline") (C := "LanguageServer$Judge") (T := T_Judge) (N := 15) hx hb hg in_Judge t_Judge t_Judge_ok n_Judge hown hK.1 hP hD hS 0 rfl rfl 1 (by decide) (hg _ wd_223) (fun _ h9 => h9) rfl hin rfl (by decide +kernel) rfl rfl (Nat.le_of_ble_eq_true rfl) d_Judge_init_59 (fun H locs hP hD hS => ?_)
  have hP : va_P K.1 vwCl [(q0, .inr (8, [.ref p1, .ref p2, .null, .ref q7, .ref q15, .ref q23, .ref q31, .ref q39, .ref q47, .int 0, .int 0, .int 0, .int 0, .int 0, .int 0])), (q7, .inl (K.2.1, 9, .inl fun _ => 0)), (q15, .inl (K.2.1, 9, .inl fun _ => 0)), (q23, .inl (K.2.1, 9, .inl fun _ => 0)), (q31, .inl (K.2.1, 9, .inl fun _ => 0)), (q39, .inl (K.2.1, 9, .inl fun _ => 0)), (q47, .inl (K.2.2.2, 9, .inl fun _ => 0))] H := hP
  have hD : va_D A [(q0, .inr (8, [.ref p1, .ref p2, .null, .ref q7, .ref q15, .ref q23, .ref q31, .ref q39, .ref q47, .int 0, .int 0, .int 0, .int 0, .int 0, .int 0])), (q7, .inl (K.2.1, 9, .inl fun _ => 0)), (q15, .inl (K.2.1, 9, .inl fun _ => 0)), (q23, .inl (K.2.1, 9, .inl fun _ => 0)), (q31, .inl (K.2.1, 9, .inl fun _ => 0)), (q39, .inl (K.2.1, 9, .inl fun _ => 0)), (q47, .inl (K.2.2.2, 9, .inl fun _ => 0))] := hD
  refine lv_aload_n hx hb d_Judge_init_62 rfl (lv_at hl 0 rfl) ?_
  refine lv_aload_n hx hb d_Judge_init_63 rfl (lv_at hl 3 rfl) ?_
  refine va_putF (D := K.1) (ci := 8) (v := .ref p3) (ty := .object "LanguageServer$Complaints") (C := "LanguageServer$Judge") (T := T_Judge) (N := 15) hx hb hg in_Judge t_Judge t_Judge_ok n_Judge hown hK.1 hP hD hS 0 rfl rfl 2 (by decide) (hg _ wd_224) (fun _ h9 => h9) rfl hin rfl (by decide +kernel) rfl rfl (Nat.le_of_ble_eq_true rfl) d_Judge_init_64 (fun H locs hP hD hS => ?_)
  have hP : va_P K.1 vwCl [(q0, .inr (8, [.ref p1, .ref p2, .ref p3, .ref q7, .ref q15, .ref q23, .ref q31, .ref q39, .ref q47, .int 0, .int 0, .int 0, .int 0, .int 0, .int 0])), (q7, .inl (K.2.1, 9, .inl fun _ => 0)), (q15, .inl (K.2.1, 9, .inl fun _ => 0)), (q23, .inl (K.2.1, 9, .inl fun _ => 0)), (q31, .inl (K.2.1, 9, .inl fun _ => 0)), (q39, .inl (K.2.1, 9, .inl fun _ => 0)), (q47, .inl (K.2.2.2, 9, .inl fun _ => 0))] H := hP
  have hD : va_D A [(q0, .inr (8, [.ref p1, .ref p2, .ref p3, .ref q7, .ref q15, .ref q23, .ref q31, .ref q39, .ref q47, .int 0, .int 0, .int 0, .int 0, .int 0, .int 0])), (q7, .inl (K.2.1, 9, .inl fun _ => 0)), (q15, .inl (K.2.1, 9, .inl fun _ => 0)), (q23, .inl (K.2.1, 9, .inl fun _ => 0)), (q31, .inl (K.2.1, 9, .inl fun _ => 0)), (q39, .inl (K.2.1, 9, .inl fun _ => 0)), (q47, .inl (K.2.2.2, 9, .inl fun _ => 0))] := hD
  exact W.vret hx hb hr (fun t ht hW => ⟨⟨fun k => [q7, q15, q23, q31, q39, q47].getD k 0, rfl, trivial, by show va_P K.1 vwCl _ t.heap; rw [ht]; exact hP, hD⟩, hS.F ht⟩) hS.2.2 d_Judge_init_67
abbrev y_Reading_init : MethodName := ⟨"LanguageServer$Reading", "<init>", "()V"⟩
abbrev b_Reading_init : ByteArray := prog_7_method_1_code
theorem d_Reading_init_0 : decode b_Reading_init 0 = .ok (.aload_n 0, 1) := by decide +kernel
theorem d_Reading_init_1 : decode b_Reading_init 1 = .ok (.invokespecial 3, 3) := by decide +kernel
theorem d_Reading_init_4 : decode b_Reading_init 4 = .ok (.aload_n 0, 1) := by decide +kernel
theorem d_Reading_init_5 : decode b_Reading_init 5 = .ok (.new 9, 3) := by decide +kernel
theorem d_Reading_init_8 : decode b_Reading_init 8 = .ok (.dup, 1) := by decide +kernel
theorem d_Reading_init_9 : decode b_Reading_init 9 = .ok (.invokespecial 11, 3) := by decide +kernel
theorem d_Reading_init_12 : decode b_Reading_init 12 = .ok (.putfield 12, 3) := by decide +kernel
theorem d_Reading_init_15 : decode b_Reading_init 15 = .ok (.aload_n 0, 1) := by decide +kernel
theorem d_Reading_init_16 : decode b_Reading_init 16 = .ok (.new 18, 3) := by decide +kernel
theorem d_Reading_init_19 : decode b_Reading_init 19 = .ok (.dup, 1) := by decide +kernel
theorem d_Reading_init_20 : decode b_Reading_init 20 = .ok (.invokespecial 20, 3) := by decide +kernel
theorem d_Reading_init_23 : decode b_Reading_init 23 = .ok (.putfield 21, 3) := by decide +kernel
theorem d_Reading_init_26 : decode b_Reading_init 26 = .ok (.aload_n 0, 1) := by decide +kernel
theorem d_Reading_init_27 : decode b_Reading_init 27 = .ok (.new 25, 3) := by decide +kernel
theorem d_Reading_init_30 : decode b_Reading_init 30 = .ok (.dup, 1) := by decide +kernel
theorem d_Reading_init_31 : decode b_Reading_init 31 = .ok (.aload_n 0, 1) := by decide +kernel
theorem d_Reading_init_32 : decode b_Reading_init 32 = .ok (.getfield 21, 3) := by decide +kernel
theorem d_Reading_init_35 : decode b_Reading_init 35 = .ok (.invokespecial 27, 3) := by decide +kernel
theorem d_Reading_init_38 : decode b_Reading_init 38 = .ok (.putfield 30, 3) := by decide +kernel
theorem d_Reading_init_41 : decode b_Reading_init 41 = .ok (.aload_n 0, 1) := by decide +kernel
theorem d_Reading_init_42 : decode b_Reading_init 42 = .ok (.new 34, 3) := by decide +kernel
theorem d_Reading_init_45 : decode b_Reading_init 45 = .ok (.dup, 1) := by decide +kernel
theorem d_Reading_init_46 : decode b_Reading_init 46 = .ok (.invokespecial 36, 3) := by decide +kernel
theorem d_Reading_init_49 : decode b_Reading_init 49 = .ok (.putfield 37, 3) := by decide +kernel
theorem d_Reading_init_52 : decode b_Reading_init 52 = .ok (.aload_n 0, 1) := by decide +kernel
theorem d_Reading_init_53 : decode b_Reading_init 53 = .ok (.new 41, 3) := by decide +kernel
theorem d_Reading_init_56 : decode b_Reading_init 56 = .ok (.dup, 1) := by decide +kernel
theorem d_Reading_init_57 : decode b_Reading_init 57 = .ok (.aload_n 0, 1) := by decide +kernel
theorem d_Reading_init_58 : decode b_Reading_init 58 = .ok (.getfield 21, 3) := by decide +kernel
theorem d_Reading_init_61 : decode b_Reading_init 61 = .ok (.aload_n 0, 1) := by decide +kernel
theorem d_Reading_init_62 : decode b_Reading_init 62 = .ok (.getfield 30, 3) := by decide +kernel
theorem d_Reading_init_65 : decode b_Reading_init 65 = .ok (.aload_n 0, 1) := by decide +kernel
theorem d_Reading_init_66 : decode b_Reading_init 66 = .ok (.getfield 37, 3) := by decide +kernel
theorem d_Reading_init_69 : decode b_Reading_init 69 = .ok (.invokespecial 43, 3) := by decide +kernel
theorem d_Reading_init_72 : decode b_Reading_init 72 = .ok (.putfield 46, 3) := by decide +kernel
theorem d_Reading_init_75 : decode b_Reading_init 75 = .ok (.aload_n 0, 1) := by decide +kernel
theorem d_Reading_init_76 : decode b_Reading_init 76 = .ok (.new 50, 3) := by decide +kernel
theorem d_Reading_init_79 : decode b_Reading_init 79 = .ok (.dup, 1) := by decide +kernel
theorem d_Reading_init_80 : decode b_Reading_init 80 = .ok (.aload_n 0, 1) := by decide +kernel
theorem d_Reading_init_81 : decode b_Reading_init 81 = .ok (.getfield 21, 3) := by decide +kernel
theorem d_Reading_init_84 : decode b_Reading_init 84 = .ok (.aload_n 0, 1) := by decide +kernel
theorem d_Reading_init_85 : decode b_Reading_init 85 = .ok (.getfield 30, 3) := by decide +kernel
theorem d_Reading_init_88 : decode b_Reading_init 88 = .ok (.aload_n 0, 1) := by decide +kernel
theorem d_Reading_init_89 : decode b_Reading_init 89 = .ok (.getfield 37, 3) := by decide +kernel
theorem d_Reading_init_92 : decode b_Reading_init 92 = .ok (.invokespecial 52, 3) := by decide +kernel
theorem d_Reading_init_95 : decode b_Reading_init 95 = .ok (.putfield 53, 3) := by decide +kernel
theorem d_Reading_init_98 : decode b_Reading_init 98 = .ok (.aload_n 0, 1) := by decide +kernel
theorem d_Reading_init_99 : decode b_Reading_init 99 = .ok (.new 57, 3) := by decide +kernel
theorem d_Reading_init_102 : decode b_Reading_init 102 = .ok (.dup, 1) := by decide +kernel
theorem d_Reading_init_103 : decode b_Reading_init 103 = .ok (.aload_n 0, 1) := by decide +kernel
theorem d_Reading_init_104 : decode b_Reading_init 104 = .ok (.getfield 21, 3) := by decide +kernel
theorem d_Reading_init_107 : decode b_Reading_init 107 = .ok (.aload_n 0, 1) := by decide +kernel
theorem d_Reading_init_108 : decode b_Reading_init 108 = .ok (.getfield 30, 3) := by decide +kernel
theorem d_Reading_init_111 : decode b_Reading_init 111 = .ok (.aload_n 0, 1) := by decide +kernel
theorem d_Reading_init_112 : decode b_Reading_init 112 = .ok (.getfield 37, 3) := by decide +kernel
theorem d_Reading_init_115 : decode b_Reading_init 115 = .ok (.invokespecial 59, 3) := by decide +kernel
theorem d_Reading_init_118 : decode b_Reading_init 118 = .ok (.putfield 60, 3) := by decide +kernel
theorem d_Reading_init_121 : decode b_Reading_init 121 = .ok (.return_, 1) := by decide +kernel
abbrev w_Reading_init : List Cond := Cond.code y_Reading_init b_Reading_init 1 none :: Tg
theorem ds_Reading_init : y_Reading_init.cls ≠ "java/lang/invoke/MethodHandle" ∧ y_Reading_init.cls ≠ "java/lang/invoke/VarHandle" ∧ (parseMethodDescriptor y_Reading_init.desc).map (fun d => d.parameters.length) = some 0 := by decide +kernel
theorem bl_Reading : ∀ j, j < 8 → defaultValue (t_Reading j) = vp_V [.null, .null, .null, .null, .null, .null, .null, .int 0] j := by
  intro j hj
  match j, hj with
  | 0, _ => rfl
  | 1, _ => rfl
  | 2, _ => rfl
  | 3, _ => rfl
  | 4, _ => rfl
  | 5, _ => rfl
  | 6, _ => rfl
  | 7, _ => rfl
  | k + 8, h => exact absurd h (by omega)
set_option maxHeartbeats 4000000 in
set_option maxRecDepth 100000 in
theorem c_Reading_init (l : Launch) (K : Kst) (q0 sz : Nat) : Met l y_Reading_init w_Reading_init { frames := 2, cells := 28, slots := 1651, locals := 35 } (va_Pc [.ref q0] (fun U => U.heap.size = sz ∧ va_P K.1 vwCl [(q0, .inr (1, [.null, .null, .null, .null, .null, .null, .null, .int 0]))] U.heap ∧ RK K U ∧ KC U)) (va_Qv (S := Nat → Nat) (fun u => u 0 = q0) (fun u t => va_P K.1 vwCl (wR K u σR) t.heap ∧ va_D (va_A [(q0, .inr (1, [.null, .null, .null, .null, .null, .null, .null, .int 0]))] sz) (wR K u σR)) (va_A [(q0, .inr (1, [.null, .null, .null, .null, .null, .null, .null, .int 0]))] sz)) 28 1651 (va_A [(q0, .inr (1, [.null, .null, .null, .null, .null, .null, .null, .int 0]))] sz) := by
  refine Met.ofW (cc := b_Reading_init) (maxL := 1) (ret := none) (by decide) rfl ?_
  intro p e s m args below meth c s₁ Bd hml hv
  obtain ⟨rfl, hsz, hP, hK, hC⟩ := hv
  have hx := Bd.exec
  have hb := Bd.bytes
  have hr := Bd.returns
  have hts := atoms_spec (ws := w_Reading_init) Bd.pre
  have hg : ∀ w ∈ Tg, w.before _ s = true := fun w q => hts w (List.mem_cons_of_mem _ q)
  have hown : s.vm.findClass "LanguageServer$Reading" = some m.cls := findClass_of_methodNamed Bd.named
  have hlocks := Bd.notSynchronized
  have hin : meth.name = "<init>" := (name_of_methodNamed Bd.named Bd.method).1
  subst hsz
  have hD : va_D (va_A [(q0, .inr (1, [.null, .null, .null, .null, .null, .null, .null, .int 0]))] s.heap.size) [(q0, .inr (1, [.null, .null, .null, .null, .null, .null, .null, .int 0]))] := (one_D (F := fun _ => True) trivial).self
  generalize hAe : va_A [(q0, .inr (1, [.null, .null, .null, .null, .null, .null, .null, .int 0]))] s.heap.size = A at hD ⊢
  have hA : ∀ q : Nat, s.heap.size ≤ q → A q := fun q h => by rw [← hAe]; exact Or.inr h
  have hS : va_S A s.heap s.heap [] := va_S.rf
  have hl := lv_entry ([.ref q0]) (n := 1) (Nat.le_of_ble_eq_true rfl)
  rw [lg_entry_eq]
  generalize (lg_sl ([.ref q0]) ++ List.replicate (1 - (lg_sl ([.ref q0])).length) Slot.unset).toArray = ls at hl ⊢
  have hl : lv_has ls 1 [(0, .ref q0)] := hl
  refine lv_aload_n hx hb d_Reading_init_0 rfl (lv_at hl 0 rfl) ?_
  refine W.objInit hx hb hown (hg _ wd_34) (hg _ wd_27) (hg _ wd_28) rfl (by rw [hml]; exact hl.1) rfl d_Reading_init_1 (Nat.le_of_ble_eq_true rfl) (Nat.le_of_ble_eq_true rfl) ?_
  refine W.eq (g2 := F0 m 4 ls []) rfl ?_
  refine lv_aload_n hx hb d_Reading_init_4 rfl (lv_at hl 0 rfl) ?_
  refine va_new (ci := 2) (fs := [.null, .int 0]) (C := "LanguageServer$Text") (T := T_Text) (N := 2) hx hb hg in_Text t_Text t_Text_ok hown (hg _ wd_35) (hg _ wd_36) (hg _ wd_3) hK.1 hP hD hS hA rfl bl_Text (Nat.le_of_ble_eq_true rfl) (Nat.le_of_ble_eq_true rfl) d_Reading_init_5 (fun q5 H hP hD hS => ?_)
  refine W.widen (k := 1) (n := 2) (by omega) (by omega) ?_
  have hP : va_P K.1 vwCl [(q0, .inr (1, [.null, .null, .null, .null, .null, .null, .null, .int 0])), (q5, .inr (2, [.null, .int 0]))] H := hP
  have hD : va_D A [(q0, .inr (1, [.null, .null, .null, .null, .null, .null, .null, .int 0])), (q5, .inr (2, [.null, .int 0]))] := hD
  refine lv_dup hx hb d_Reading_init_8 rfl ?_
  have hFc := va_free (wc := [(q5, .inr (2, [.null, .int 0]))]) hD hS hA [1] rfl
  have hPc := hP.sub (ws' := [(q5, .inr (2, [.null, .int 0]))]) [1] rfl
  refine va_callv (va_runIN (As := []) (rest := [.ref q5, .ref q0]) ⟨hx, hb, hml, hown, hts⟩ (c_Text_init l K q5 H.size) ⟨va_cnB 0 hts (gd_C wd_39) rfl rfl rfl hC.2.1 (hg _ wd_3) ds_Text_init ⟨Nat.le_of_ble_eq_true rfl, Nat.le_of_ble_eq_true rfl⟩, rfl, hg _ wd_38⟩ ⟨fun _ _ _ _ z => ⟨z.1, z.2.1, z.2.2.1, RK.same rfl z.2.2.2⟩, fun U hU hW => ⟨rfl, by rw [hU], by rw [hU]; exact hPc, RK.warm hW hK⟩⟩ rfl rfl hl.1 rfl (lv_room (Nat.le_of_ble_eq_true rfl)) d_Reading_init_9 ⟨Nat.le_of_ble_eq_true rfl, Nat.le_of_ble_eq_true rfl⟩) hS (fun z _ h => hFc z h) hFc (fun u9 t H1 locs ht hvm hw hB hz1 hk1 hS => ?_)
  obtain ⟨hP1, hD1⟩ := hB
  rw [ht] at hP1
  refine W.widen (k := 2) (n := 242) (by omega) (by omega) ?_
  obtain ⟨hP, hD⟩ := va_join (wr := [(q0, .inr (1, [.null, .null, .null, .null, .null, .null, .null, .int 0]))]) (w1 := [(q5, .inr (2, [.ref (u9 0), .int 0])), ((u9 0), .inl (K.2.1, 240, .inl fun _ => 0))]) hP hD [1] [0] rfl rfl (by decide) (by decide) hk1 hFc hP1 hD1
  generalize H1 = H at hP hS ⊢
  have hP : va_P K.1 vwCl [(q0, .inr (1, [.null, .null, .null, .null, .null, .null, .null, .int 0])), (q5, .inr (2, [.ref (u9 0), .int 0])), ((u9 0), .inl (K.2.1, 240, .inl fun _ => 0))] H := hP
  have hD : va_D A [(q0, .inr (1, [.null, .null, .null, .null, .null, .null, .null, .int 0])), (q5, .inr (2, [.ref (u9 0), .int 0])), ((u9 0), .inl (K.2.1, 240, .inl fun _ => 0))] := hD
  refine va_putF (D := K.1) (ci := 1) (v := .ref q5) (ty := .object "LanguageServer$Text") (C := "LanguageServer$Reading") (T := T_Reading) (N := 8) hx hb hg in_Reading t_Reading t_Reading_ok n_Reading hown hK.1 hP hD hS 0 rfl rfl 0 (by decide) (hg _ wd_269) (fun _ h9 => h9) rfl hin rfl (by decide +kernel) rfl rfl (Nat.le_of_ble_eq_true rfl) d_Reading_init_12 (fun H locs hP hD hS => ?_)
  have hP : va_P K.1 vwCl [(q0, .inr (1, [.ref q5, .null, .null, .null, .null, .null, .null, .int 0])), (q5, .inr (2, [.ref (u9 0), .int 0])), ((u9 0), .inl (K.2.1, 240, .inl fun _ => 0))] H := hP
  have hD : va_D A [(q0, .inr (1, [.ref q5, .null, .null, .null, .null, .null, .null, .int 0])), (q5, .inr (2, [.ref (u9 0), .int 0])), ((u9 0), .inl (K.2.1, 240, .inl fun _ => 0))] := hD
  refine lv_aload_n hx hb d_Reading_init_15 rfl (lv_at hl 0 rfl) ?_
  refine va_new (ci := 3) (fs := [.null, .null, .null, .null, .int 0]) (C := "LanguageServer$Tokens") (T := T_Tokens) (N := 5) hx hb hg in_Tokens t_Tokens t_Tokens_ok hown (hg _ wd_54) (hg _ wd_55) (hg _ wd_4) hK.1 hP hD hS hA rfl bl_Tokens (Nat.le_of_ble_eq_true rfl) (Nat.le_of_ble_eq_true rfl) d_Reading_init_16 (fun q16 H hP hD hS => ?_)
  refine W.widen (k := 3) (n := 247) (by omega) (by omega) ?_
  have hP : va_P K.1 vwCl [(q0, .inr (1, [.ref q5, .null, .null, .null, .null, .null, .null, .int 0])), (q5, .inr (2, [.ref (u9 0), .int 0])), ((u9 0), .inl (K.2.1, 240, .inl fun _ => 0)), (q16, .inr (3, [.null, .null, .null, .null, .int 0]))] H := hP
  have hD : va_D A [(q0, .inr (1, [.ref q5, .null, .null, .null, .null, .null, .null, .int 0])), (q5, .inr (2, [.ref (u9 0), .int 0])), ((u9 0), .inl (K.2.1, 240, .inl fun _ => 0)), (q16, .inr (3, [.null, .null, .null, .null, .int 0]))] := hD
  refine lv_dup hx hb d_Reading_init_19 rfl ?_
  have hFc := va_free (wc := [(q16, .inr (3, [.null, .null, .null, .null, .int 0]))]) hD hS hA [3] rfl
  have hPc := hP.sub (ws' := [(q16, .inr (3, [.null, .null, .null, .null, .int 0]))]) [3] rfl
  refine va_callv (va_runIN (As := []) (rest := [.ref q16, .ref q0]) ⟨hx, hb, hml, hown, hts⟩ (c_Tokens_init l K q16 H.size) ⟨va_cnB 0 hts (gd_C wd_58) rfl rfl rfl hC.2.2.1 (hg _ wd_4) ds_Tokens_init ⟨Nat.le_of_ble_eq_true rfl, Nat.le_of_ble_eq_true rfl⟩, rfl, hg _ wd_57⟩ ⟨fun _ _ _ _ z => ⟨z.1, z.2.1, z.2.2.1, RK.same rfl z.2.2.2⟩, fun U hU hW => ⟨rfl, by rw [hU], by rw [hU]; exact hPc, RK.warm hW hK⟩⟩ rfl rfl hl.1 rfl (lv_room (Nat.le_of_ble_eq_true rfl)) d_Reading_init_20 ⟨Nat.le_of_ble_eq_true rfl, Nat.le_of_ble_eq_true rfl⟩) hS (fun z _ h => hFc z h) hFc (fun u20 t H1 locs ht hvm hw hB hz1 hk1 hS => ?_)
  obtain ⟨hP1, hD1⟩ := hB
  rw [ht] at hP1
  refine W.widen (k := 7) (n := 731) (by omega) (by omega) ?_
  obtain ⟨hP, hD⟩ := va_join (wr := [(q0, .inr (1, [.ref q5, .null, .null, .null, .null, .null, .null, .int 0])), (q5, .inr (2, [.ref (u9 0), .int 0])), ((u9 0), .inl (K.2.1, 240, .inl fun _ => 0))]) (w1 := [(q16, .inr (3, [.ref (u20 0), .ref (u20 1), .ref (u20 2), .ref (u20 3), .int 0])), ((u20 0), .inl (K.2.1, 121, .inl fun _ => 0)), ((u20 1), .inl (K.2.1, 121, .inl fun _ => 0)), ((u20 2), .inl (K.2.1, 121, .inl fun _ => 0)), ((u20 3), .inl (K.2.2.1, 121, .inr (.inl fun _ => 0)))]) hP hD [3] [0, 1, 2] rfl rfl (by decide) (by decide) hk1 hFc hP1 hD1
  generalize H1 = H at hP hS ⊢
  have hP : va_P K.1 vwCl [(q0, .inr (1, [.ref q5, .null, .null, .null, .null, .null, .null, .int 0])), (q5, .inr (2, [.ref (u9 0), .int 0])), ((u9 0), .inl (K.2.1, 240, .inl fun _ => 0)), (q16, .inr (3, [.ref (u20 0), .ref (u20 1), .ref (u20 2), .ref (u20 3), .int 0])), ((u20 0), .inl (K.2.1, 121, .inl fun _ => 0)), ((u20 1), .inl (K.2.1, 121, .inl fun _ => 0)), ((u20 2), .inl (K.2.1, 121, .inl fun _ => 0)), ((u20 3), .inl (K.2.2.1, 121, .inr (.inl fun _ => 0)))] H := hP
  have hD : va_D A [(q0, .inr (1, [.ref q5, .null, .null, .null, .null, .null, .null, .int 0])), (q5, .inr (2, [.ref (u9 0), .int 0])), ((u9 0), .inl (K.2.1, 240, .inl fun _ => 0)), (q16, .inr (3, [.ref (u20 0), .ref (u20 1), .ref (u20 2), .ref (u20 3), .int 0])), ((u20 0), .inl (K.2.1, 121, .inl fun _ => 0)), ((u20 1), .inl (K.2.1, 121, .inl fun _ => 0)), ((u20 2), .inl (K.2.1, 121, .inl fun _ => 0)), ((u20 3), .inl (K.2.2.1, 121, .inr (.inl fun _ => 0)))] := hD
  refine va_putF (D := K.1) (ci := 1) (v := .ref q16) (ty := .object "LanguageServer$Tokens") (C := "LanguageServer$Reading") (T := T_Reading) (N := 8) hx hb hg in_Reading t_Reading t_Reading_ok n_Reading hown hK.1 hP hD hS 0 rfl rfl 1 (by decide) (hg _ wd_271) (fun _ h9 => h9) rfl hin rfl (by decide +kernel) rfl rfl (Nat.le_of_ble_eq_true rfl) d_Reading_init_23 (fun H locs hP hD hS => ?_)
  have hP : va_P K.1 vwCl [(q0, .inr (1, [.ref q5, .ref q16, .null, .null, .null, .null, .null, .int 0])), (q5, .inr (2, [.ref (u9 0), .int 0])), ((u9 0), .inl (K.2.1, 240, .inl fun _ => 0)), (q16, .inr (3, [.ref (u20 0), .ref (u20 1), .ref (u20 2), .ref (u20 3), .int 0])), ((u20 0), .inl (K.2.1, 121, .inl fun _ => 0)), ((u20 1), .inl (K.2.1, 121, .inl fun _ => 0)), ((u20 2), .inl (K.2.1, 121, .inl fun _ => 0)), ((u20 3), .inl (K.2.2.1, 121, .inr (.inl fun _ => 0)))] H := hP
  have hD : va_D A [(q0, .inr (1, [.ref q5, .ref q16, .null, .null, .null, .null, .null, .int 0])), (q5, .inr (2, [.ref (u9 0), .int 0])), ((u9 0), .inl (K.2.1, 240, .inl fun _ => 0)), (q16, .inr (3, [.ref (u20 0), .ref (u20 1), .ref (u20 2), .ref (u20 3), .int 0])), ((u20 0), .inl (K.2.1, 121, .inl fun _ => 0)), ((u20 1), .inl (K.2.1, 121, .inl fun _ => 0)), ((u20 2), .inl (K.2.1, 121, .inl fun _ => 0)), ((u20 3), .inl (K.2.2.1, 121, .inr (.inl fun _ => 0)))] := hD
  refine lv_aload_n hx hb d_Reading_init_26 rfl (lv_at hl 0 rfl) ?_
  refine va_new (ci := 4) (fs := [.null, .null, .null, .null, .null, .null, .null, .null, .int 0, .int 0]) (C := "LanguageServer$Outline") (T := T_Outline) (N := 10) hx hb hg in_Outline t_Outline t_Outline_ok hown (hg _ wd_90) (hg _ wd_91) (hg _ wd_5) hK.1 hP hD hS hA rfl bl_Outline (Nat.le_of_ble_eq_true rfl) (Nat.le_of_ble_eq_true rfl) d_Reading_init_27 (fun q27 H hP hD hS => ?_)
  refine W.widen (k := 8) (n := 741) (by omega) (by omega) ?_
  have hP : va_P K.1 vwCl [(q0, .inr (1, [.ref q5, .ref q16, .null, .null, .null, .null, .null, .int 0])), (q5, .inr (2, [.ref (u9 0), .int 0])), ((u9 0), .inl (K.2.1, 240, .inl fun _ => 0)), (q16, .inr (3, [.ref (u20 0), .ref (u20 1), .ref (u20 2), .ref (u20 3), .int 0])), ((u20 0), .inl (K.2.1, 121, .inl fun _ => 0)), ((u20 1), .inl (K.2.1, 121, .inl fun _ => 0)), ((u20 2), .inl (K.2.1, 121, .inl fun _ => 0)), ((u20 3), .inl (K.2.2.1, 121, .inr (.inl fun _ => 0))), (q27, .inr (4, [.null, .null, .null, .null, .null, .null, .null, .null, .int 0, .int 0]))] H := hP
  have hD : va_D A [(q0, .inr (1, [.ref q5, .ref q16, .null, .null, .null, .null, .null, .int 0])), (q5, .inr (2, [.ref (u9 0), .int 0])), ((u9 0), .inl (K.2.1, 240, .inl fun _ => 0)), (q16, .inr (3, [.ref (u20 0), .ref (u20 1), .ref (u20 2), .ref (u20 3), .int 0])), ((u20 0), .inl (K.2.1, 121, .inl fun _ => 0)), ((u20 1), .inl (K.2.1, 121, .inl fun _ => 0)), ((u20 2), .inl (K.2.1, 121, .inl fun _ => 0)), ((u20 3), .inl (K.2.2.1, 121, .inr (.inl fun _ => 0))), (q27, .inr (4, [.null, .null, .null, .null, .null, .null, .null, .null, .int 0, .int 0]))] := hD
  refine lv_dup hx hb d_Reading_init_30 rfl ?_
  refine lv_aload_n hx hb d_Reading_init_31 rfl (lv_at hl 0 rfl) ?_
  refine va_get (D := K.1) (ci := 1) (v := .ref q16) (C := "LanguageServer$Reading") (T := T_Reading) (N := 8) hx hb hg in_Reading hown hK.1 hP 0 rfl rfl 1 (by decide) (hg _ wd_271) (fun _ h9 => h9) rfl d_Reading_init_32 ?_
  have hFc := va_free (wc := [(q27, .inr (4, [.null, .null, .null, .null, .null, .null, .null, .null, .int 0, .int 0]))]) hD hS hA [8] rfl
  have hPc := hP.sub (ws' := [(q27, .inr (4, [.null, .null, .null, .null, .null, .null, .null, .null, .int 0, .int 0]))]) [8] rfl
  refine va_callv (va_runI (As := [.ref q16]) (rest := [.ref q27, .ref q0]) ⟨hx, hb, hml, hown, hts⟩ (c_Outline_init l K q27 H.size q16) (cwI 1 hts (gd_C wd_94) rfl rfl rfl (hg _ wd_5) (hg _ wd_92) (hg _ wd_93) rfl ds_Outline_init ⟨Nat.le_of_ble_eq_true rfl, Nat.le_of_ble_eq_true rfl⟩) ⟨fun _ _ _ _ z => ⟨z.1, z.2.1, z.2.2.1, RK.same rfl z.2.2.2⟩, fun U hU hW => ⟨rfl, by rw [hU], by rw [hU]; exact hPc, RK.warm hW hK⟩⟩ rfl rfl hl.1 rfl (lv_room (Nat.le_of_ble_eq_true rfl)) d_Reading_init_35 ⟨Nat.le_of_ble_eq_true rfl, Nat.le_of_ble_eq_true rfl⟩) hS (fun z _ h => hFc z h) hFc (fun u35 t H1 locs ht hvm hw hB hz1 hk1 hS => ?_)
  obtain ⟨hP1, hD1⟩ := hB
  rw [ht] at hP1
  refine W.widen (k := 15) (n := 1407) (by omega) (by omega) ?_
  obtain ⟨hP, hD⟩ := va_join (wr := [(q0, .inr (1, [.ref q5, .ref q16, .null, .null, .null, .null, .null, .int 0])), (q5, .inr (2, [.ref (u9 0), .int 0])), ((u9 0), .inl (K.2.1, 240, .inl fun _ => 0)), (q16, .inr (3, [.ref (u20 0), .ref (u20 1), .ref (u20 2), .ref (u20 3), .int 0])), ((u20 0), .inl (K.2.1, 121, .inl fun _ => 0)), ((u20 1), .inl (K.2.1, 121, .inl fun _ => 0)), ((u20 2), .inl (K.2.1, 121, .inl fun _ => 0)), ((u20 3), .inl (K.2.2.1, 121, .inr (.inl fun _ => 0)))]) (w1 := [(q27, .inr (4, [.ref q16, .ref (u35 0), .ref (u35 1), .ref (u35 2), .ref (u35 3), .ref (u35 4), .ref (u35 5), .ref (u35 6), .int 0, .int 0])), ((u35 0), .inl (K.2.1, 121, .inl fun _ => 0)), ((u35 1), .inl (K.2.1, 121, .inl fun _ => 0)), ((u35 2), .inl (K.2.1, 121, .inl fun _ => 0)), ((u35 3), .inl (K.2.1, 121, .inl fun _ => 0)), ((u35 4), .inl (K.2.1, 31, .inl fun _ => 0)), ((u35 5), .inl (K.2.1, 30, .inl fun _ => 0)), ((u35 6), .inl (K.2.1, 121, .inl fun _ => 0))]) hP hD [8] [0, 1, 2, 3, 4, 5, 6, 7] rfl rfl (by decide) (by decide) hk1 hFc hP1 hD1
  generalize H1 = H at hP hS ⊢
  have hP : va_P K.1 vwCl [(q0, .inr (1, [.ref q5, .ref q16, .null, .null, .null, .null, .null, .int 0])), (q5, .inr (2, [.ref (u9 0), .int 0])), ((u9 0), .inl (K.2.1, 240, .inl fun _ => 0)), (q16, .inr (3, [.ref (u20 0), .ref (u20 1), .ref (u20 2), .ref (u20 3), .int 0])), ((u20 0), .inl (K.2.1, 121, .inl fun _ => 0)), ((u20 1), .inl (K.2.1, 121, .inl fun _ => 0)), ((u20 2), .inl (K.2.1, 121, .inl fun _ => 0)), ((u20 3), .inl (K.2.2.1, 121, .inr (.inl fun _ => 0))), (q27, .inr (4, [.ref q16, .ref (u35 0), .ref (u35 1), .ref (u35 2), .ref (u35 3), .ref (u35 4), .ref (u35 5), .ref (u35 6), .int 0, .int 0])), ((u35 0), .inl (K.2.1, 121, .inl fun _ => 0)), ((u35 1), .inl (K.2.1, 121, .inl fun _ => 0)), ((u35 2), .inl (K.2.1, 121, .inl fun _ => 0)), ((u35 3), .inl (K.2.1, 121, .inl fun _ => 0)), ((u35 4), .inl (K.2.1, 31, .inl fun _ => 0)), ((u35 5), .inl (K.2.1, 30, .inl fun _ => 0)), ((u35 6), .inl (K.2.1, 121, .inl fun _ => 0))] H := hP
  have hD : va_D A [(q0, .inr (1, [.ref q5, .ref q16, .null, .null, .null, .null, .null, .int 0])), (q5, .inr (2, [.ref (u9 0), .int 0])), ((u9 0), .inl (K.2.1, 240, .inl fun _ => 0)), (q16, .inr (3, [.ref (u20 0), .ref (u20 1), .ref (u20 2), .ref (u20 3), .int 0])), ((u20 0), .inl (K.2.1, 121, .inl fun _ => 0)), ((u20 1), .inl (K.2.1, 121, .inl fun _ => 0)), ((u20 2), .inl (K.2.1, 121, .inl fun _ => 0)), ((u20 3), .inl (K.2.2.1, 121, .inr (.inl fun _ => 0))), (q27, .inr (4, [.ref q16, .ref (u35 0), .ref (u35 1), .ref (u35 2), .ref (u35 3), .ref (u35 4), .ref (u35 5), .ref (u35 6), .int 0, .int 0])), ((u35 0), .inl (K.2.1, 121, .inl fun _ => 0)), ((u35 1), .inl (K.2.1, 121, .inl fun _ => 0)), ((u35 2), .inl (K.2.1, 121, .inl fun _ => 0)), ((u35 3), .inl (K.2.1, 121, .inl fun _ => 0)), ((u35 4), .inl (K.2.1, 31, .inl fun _ => 0)), ((u35 5), .inl (K.2.1, 30, .inl fun _ => 0)), ((u35 6), .inl (K.2.1, 121, .inl fun _ => 0))] := hD
  refine va_putF (D := K.1) (ci := 1) (v := .ref q27) (ty := .object "LanguageServer$Outline") (C := "LanguageServer$Reading") (T := T_Reading) (N := 8) hx hb hg in_Reading t_Reading t_Reading_ok n_Reading hown hK.1 hP hD hS 0 rfl rfl 2 (by decide) (hg _ wd_273) (fun _ h9 => h9) rfl hin rfl (by decide +kernel) rfl rfl (Nat.le_of_ble_eq_true rfl) d_Reading_init_38 (fun H locs hP hD hS => ?_)
  have hP : va_P K.1 vwCl [(q0, .inr (1, [.ref q5, .ref q16, .ref q27, .null, .null, .null, .null, .int 0])), (q5, .inr (2, [.ref (u9 0), .int 0])), ((u9 0), .inl (K.2.1, 240, .inl fun _ => 0)), (q16, .inr (3, [.ref (u20 0), .ref (u20 1), .ref (u20 2), .ref (u20 3), .int 0])), ((u20 0), .inl (K.2.1, 121, .inl fun _ => 0)), ((u20 1), .inl (K.2.1, 121, .inl fun _ => 0)), ((u20 2), .inl (K.2.1, 121, .inl fun _ => 0)), ((u20 3), .inl (K.2.2.1, 121, .inr (.inl fun _ => 0))), (q27, .inr (4, [.ref q16, .ref (u35 0), .ref (u35 1), .ref (u35 2), .ref (u35 3), .ref (u35 4), .ref (u35 5), .ref (u35 6), .int 0, .int 0])), ((u35 0), .inl (K.2.1, 121, .inl fun _ => 0)), ((u35 1), .inl (K.2.1, 121, .inl fun _ => 0)), ((u35 2), .inl (K.2.1, 121, .inl fun _ => 0)), ((u35 3), .inl (K.2.1, 121, .inl fun _ => 0)), ((u35 4), .inl (K.2.1, 31, .inl fun _ => 0)), ((u35 5), .inl (K.2.1, 30, .inl fun _ => 0)), ((u35 6), .inl (K.2.1, 121, .inl fun _ => 0))] H := hP
  have hD : va_D A [(q0, .inr (1, [.ref q5, .ref q16, .ref q27, .null, .null, .null, .null, .int 0])), (q5, .inr (2, [.ref (u9 0), .int 0])), ((u9 0), .inl (K.2.1, 240, .inl fun _ => 0)), (q16, .inr (3, [.ref (u20 0), .ref (u20 1), .ref (u20 2), .ref (u20 3), .int 0])), ((u20 0), .inl (K.2.1, 121, .inl fun _ => 0)), ((u20 1), .inl (K.2.1, 121, .inl fun _ => 0)), ((u20 2), .inl (K.2.1, 121, .inl fun _ => 0)), ((u20 3), .inl (K.2.2.1, 121, .inr (.inl fun _ => 0))), (q27, .inr (4, [.ref q16, .ref (u35 0), .ref (u35 1), .ref (u35 2), .ref (u35 3), .ref (u35 4), .ref (u35 5), .ref (u35 6), .int 0, .int 0])), ((u35 0), .inl (K.2.1, 121, .inl fun _ => 0)), ((u35 1), .inl (K.2.1, 121, .inl fun _ => 0)), ((u35 2), .inl (K.2.1, 121, .inl fun _ => 0)), ((u35 3), .inl (K.2.1, 121, .inl fun _ => 0)), ((u35 4), .inl (K.2.1, 31, .inl fun _ => 0)), ((u35 5), .inl (K.2.1, 30, .inl fun _ => 0)), ((u35 6), .inl (K.2.1, 121, .inl fun _ => 0))] := hD
  refine lv_aload_n hx hb d_Reading_init_41 rfl (lv_at hl 0 rfl) ?_
  refine va_new (ci := 5) (fs := [.null, .int 0]) (C := "LanguageServer$Complaints") (T := T_Complaints) (N := 2) hx hb hg in_Complaints t_Complaints t_Complaints_ok hown (hg _ wd_147) (hg _ wd_148) (hg _ wd_6) hK.1 hP hD hS hA rfl bl_Complaints (Nat.le_of_ble_eq_true rfl) (Nat.le_of_ble_eq_true rfl) d_Reading_init_42 (fun q42 H hP hD hS => ?_)
  refine W.widen (k := 16) (n := 1409) (by omega) (by omega) ?_
  have hP : va_P K.1 vwCl [(q0, .inr (1, [.ref q5, .ref q16, .ref q27, .null, .null, .null, .null, .int 0])), (q5, .inr (2, [.ref (u9 0), .int 0])), ((u9 0), .inl (K.2.1, 240, .inl fun _ => 0)), (q16, .inr (3, [.ref (u20 0), .ref (u20 1), .ref (u20 2), .ref (u20 3), .int 0])), ((u20 0), .inl (K.2.1, 121, .inl fun _ => 0)), ((u20 1), .inl (K.2.1, 121, .inl fun _ => 0)), ((u20 2), .inl (K.2.1, 121, .inl fun _ => 0)), ((u20 3), .inl (K.2.2.1, 121, .inr (.inl fun _ => 0))), (q27, .inr (4, [.ref q16, .ref (u35 0), .ref (u35 1), .ref (u35 2), .ref (u35 3), .ref (u35 4), .ref (u35 5), .ref (u35 6), .int 0, .int 0])), ((u35 0), .inl (K.2.1, 121, .inl fun _ => 0)), ((u35 1), .inl (K.2.1, 121, .inl fun _ => 0)), ((u35 2), .inl (K.2.1, 121, .inl fun _ => 0)), ((u35 3), .inl (K.2.1, 121, .inl fun _ => 0)), ((u35 4), .inl (K.2.1, 31, .inl fun _ => 0)), ((u35 5), .inl (K.2.1, 30, .inl fun _ => 0)), ((u35 6), .inl (K.2.1, 121, .inl fun _ => 0)), (q42, .inr (5, [.null, .int 0]))] H := hP
  have hD : va_D A [(q0, .inr (1, [.ref q5, .ref q16, .ref q27, .null, .null, .null, .null, .int 0])), (q5, .inr (2, [.ref (u9 0), .int 0])), ((u9 0), .inl (K.2.1, 240, .inl fun _ => 0)), (q16, .inr (3, [.ref (u20 0), .ref (u20 1), .ref (u20 2), .ref (u20 3), .int 0])), ((u20 0), .inl (K.2.1, 121, .inl fun _ => 0)), ((u20 1), .inl (K.2.1, 121, .inl fun _ => 0)), ((u20 2), .inl (K.2.1, 121, .inl fun _ => 0)), ((u20 3), .inl (K.2.2.1, 121, .inr (.inl fun _ => 0))), (q27, .inr (4, [.ref q16, .ref (u35 0), .ref (u35 1), .ref (u35 2), .ref (u35 3), .ref (u35 4), .ref (u35 5), .ref (u35 6), .int 0, .int 0])), ((u35 0), .inl (K.2.1, 121, .inl fun _ => 0)), ((u35 1), .inl (K.2.1, 121, .inl fun _ => 0)), ((u35 2), .inl (K.2.1, 121, .inl fun _ => 0)), ((u35 3), .inl (K.2.1, 121, .inl fun _ => 0)), ((u35 4), .inl (K.2.1, 31, .inl fun _ => 0)), ((u35 5), .inl (K.2.1, 30, .inl fun _ => 0)), ((u35 6), .inl (K.2.1, 121, .inl fun _ => 0)), (q42, .inr (5, [.null, .int 0]))] := hD
  refine lv_dup hx hb d_Reading_init_45 rfl ?_
  have hFc := va_free (wc := [(q42, .inr (5, [.null, .int 0]))]) hD hS hA [16] rfl
  have hPc := hP.sub (ws' := [(q42, .inr (5, [.null, .int 0]))]) [16] rfl
  refine va_callv (va_runIN (As := []) (rest := [.ref q42, .ref q0]) ⟨hx, hb, hml, hown, hts⟩ (c_Complaints_init l K q42 H.size) ⟨va_cnB 0 hts (gd_C wd_151) rfl rfl rfl hC.2.2.2 (hg _ wd_6) ds_Complaints_init ⟨Nat.le_of_ble_eq_true rfl, Nat.le_of_ble_eq_true rfl⟩, rfl, hg _ wd_150⟩ ⟨fun _ _ _ _ z => ⟨z.1, z.2.1, z.2.2.1, RK.same rfl z.2.2.2⟩, fun U hU hW => ⟨rfl, by rw [hU], by rw [hU]; exact hPc, RK.warm hW hK⟩⟩ rfl rfl hl.1 rfl (lv_room (Nat.le_of_ble_eq_true rfl)) d_Reading_init_46 ⟨Nat.le_of_ble_eq_true rfl, Nat.le_of_ble_eq_true rfl⟩) hS (fun z _ h => hFc z h) hFc (fun u46 t H1 locs ht hvm hw hB hz1 hk1 hS => ?_)
  obtain ⟨hP1, hD1⟩ := hB
  rw [ht] at hP1
  refine W.widen (k := 17) (n := 1530) (by omega) (by omega) ?_
  obtain ⟨hP, hD⟩ := va_join (wr := [(q0, .inr (1, [.ref q5, .ref q16, .ref q27, .null, .null, .null, .null, .int 0])), (q5, .inr (2, [.ref (u9 0), .int 0])), ((u9 0), .inl (K.2.1, 240, .inl fun _ => 0)), (q16, .inr (3, [.ref (u20 0), .ref (u20 1), .ref (u20 2), .ref (u20 3), .int 0])), ((u20 0), .inl (K.2.1, 121, .inl fun _ => 0)), ((u20 1), .inl (K.2.1, 121, .inl fun _ => 0)), ((u20 2), .inl (K.2.1, 121, .inl fun _ => 0)), ((u20 3), .inl (K.2.2.1, 121, .inr (.inl fun _ => 0))), (q27, .inr (4, [.ref q16, .ref (u35 0), .ref (u35 1), .ref (u35 2), .ref (u35 3), .ref (u35 4), .ref (u35 5), .ref (u35 6), .int 0, .int 0])), ((u35 0), .inl (K.2.1, 121, .inl fun _ => 0)), ((u35 1), .inl (K.2.1, 121, .inl fun _ => 0)), ((u35 2), .inl (K.2.1, 121, .inl fun _ => 0)), ((u35 3), .inl (K.2.1, 121, .inl fun _ => 0)), ((u35 4), .inl (K.2.1, 31, .inl fun _ => 0)), ((u35 5), .inl (K.2.1, 30, .inl fun _ => 0)), ((u35 6), .inl (K.2.1, 121, .inl fun _ => 0))]) (w1 := [(q42, .inr (5, [.ref (u46 0), .int (-1)])), ((u46 0), .inl (K.2.1, 121, .inl fun _ => 0))]) hP hD [16] [0, 1, 2, 3, 4, 5, 6, 7, 8, 9, 10, 11, 12, 13, 14, 15] rfl rfl (by decide) (by decide) hk1 hFc hP1 hD1
  generalize H1 = H at hP hS ⊢
  have hP : va_P K.1 vwCl [(q0, .inr (1, [.ref q5, .ref q16, .ref q27, .null, .null, .null, .null, .int 0])), (q5, .inr (2, [.ref (u9 0), .int 0])), ((u9 0), .inl (K.2.1, 240, .inl fun _ => 0)), (q16, .inr (3, [.ref (u20 0), .ref (u20 1), .ref (u20 2), .ref (u20 3), .int 0])), ((u20 0), .inl (K.2.1, 121, .inl fun _ => 0)), ((u20 1), .inl (K.2.1, 121, .inl fun _ => 0)), ((u20 2), .inl (K.2.1, 121, .inl fun _ => 0)), ((u20 3), .inl (K.2.2.1, 121, .inr (.inl fun _ => 0))), (q27, .inr (4, [.ref q16, .ref (u35 0), .ref (u35 1), .ref (u35 2), .ref (u35 3), .ref (u35 4), .ref (u35 5), .ref (u35 6), .int 0, .int 0])), ((u35 0), .inl (K.2.1, 121, .inl fun _ => 0)), ((u35 1), .inl (K.2.1, 121, .inl fun _ => 0)), ((u35 2), .inl (K.2.1, 121, .inl fun _ => 0)), ((u35 3), .inl (K.2.1, 121, .inl fun _ => 0)), ((u35 4), .inl (K.2.1, 31, .inl fun _ => 0)), ((u35 5), .inl (K.2.1, 30, .inl fun _ => 0)), ((u35 6), .inl (K.2.1, 121, .inl fun _ => 0)), (q42, .inr (5, [.ref (u46 0), .int (-1)])), ((u46 0), .inl (K.2.1, 121, .inl fun _ => 0))] H := hP
  have hD : va_D A [(q0, .inr (1, [.ref q5, .ref q16, .ref q27, .null, .null, .null, .null, .int 0])), (q5, .inr (2, [.ref (u9 0), .int 0])), ((u9 0), .inl (K.2.1, 240, .inl fun _ => 0)), (q16, .inr (3, [.ref (u20 0), .ref (u20 1), .ref (u20 2), .ref (u20 3), .int 0])), ((u20 0), .inl (K.2.1, 121, .inl fun _ => 0)), ((u20 1), .inl (K.2.1, 121, .inl fun _ => 0)), ((u20 2), .inl (K.2.1, 121, .inl fun _ => 0)), ((u20 3), .inl (K.2.2.1, 121, .inr (.inl fun _ => 0))), (q27, .inr (4, [.ref q16, .ref (u35 0), .ref (u35 1), .ref (u35 2), .ref (u35 3), .ref (u35 4), .ref (u35 5), .ref (u35 6), .int 0, .int 0])), ((u35 0), .inl (K.2.1, 121, .inl fun _ => 0)), ((u35 1), .inl (K.2.1, 121, .inl fun _ => 0)), ((u35 2), .inl (K.2.1, 121, .inl fun _ => 0)), ((u35 3), .inl (K.2.1, 121, .inl fun _ => 0)), ((u35 4), .inl (K.2.1, 31, .inl fun _ => 0)), ((u35 5), .inl (K.2.1, 30, .inl fun _ => 0)), ((u35 6), .inl (K.2.1, 121, .inl fun _ => 0)), (q42, .inr (5, [.ref (u46 0), .int (-1)])), ((u46 0), .inl (K.2.1, 121, .inl fun _ => 0))] := hD
  refine va_putF (D := K.1) (ci := 1) (v := .ref q42) (ty := .object "LanguageServer$Complaints") (C := "LanguageServer$Reading") (T := T_Reading) (N := 8) hx hb hg in_Reading t_Reading t_Reading_ok n_Reading hown hK.1 hP hD hS 0 rfl rfl 3 (by decide) (hg _ wd_275) (fun _ h9 => h9) rfl hin rfl (by decide +kernel) rfl rfl (Nat.le_of_ble_eq_true rfl) d_Reading_init_49 (fun H locs hP hD hS => ?_)
  have hP : va_P K.1 vwCl [(q0, .inr (1, [.ref q5, .ref q16, .ref q27, .ref q42, .null, .null, .null, .int 0])), (q5, .inr (2, [.ref (u9 0), .int 0])), ((u9 0), .inl (K.2.1, 240, .inl fun _ => 0)), (q16, .inr (3, [.ref (u20 0), .ref (u20 1), .ref (u20 2), .ref (u20 3), .int 0])), ((u20 0), .inl (K.2.1, 121, .inl fun _ => 0)), ((u20 1), .inl (K.2.1, 121, .inl fun _ => 0)), ((u20 2), .inl (K.2.1, 121, .inl fun _ => 0)), ((u20 3), .inl (K.2.2.1, 121, .inr (.inl fun _ => 0))), (q27, .inr (4, [.ref q16, .ref (u35 0), .ref (u35 1), .ref (u35 2), .ref (u35 3), .ref (u35 4), .ref (u35 5), .ref (u35 6), .int 0, .int 0])), ((u35 0), .inl (K.2.1, 121, .inl fun _ => 0)), ((u35 1), .inl (K.2.1, 121, .inl fun _ => 0)), ((u35 2), .inl (K.2.1, 121, .inl fun _ => 0)), ((u35 3), .inl (K.2.1, 121, .inl fun _ => 0)), ((u35 4), .inl (K.2.1, 31, .inl fun _ => 0)), ((u35 5), .inl (K.2.1, 30, .inl fun _ => 0)), ((u35 6), .inl (K.2.1, 121, .inl fun _ => 0)), (q42, .inr (5, [.ref (u46 0), .int (-1)])), ((u46 0), .inl (K.2.1, 121, .inl fun _ => 0))] H := hP
  have hD : va_D A [(q0, .inr (1, [.ref q5, .ref q16, .ref q27, .ref q42, .null, .null, .null, .int 0])), (q5, .inr (2, [.ref (u9 0), .int 0])), ((u9 0), .inl (K.2.1, 240, .inl fun _ => 0)), (q16, .inr (3, [.ref (u20 0), .ref (u20 1), .ref (u20 2), .ref (u20 3), .int 0])), ((u20 0), .inl (K.2.1, 121, .inl fun _ => 0)), ((u20 1), .inl (K.2.1, 121, .inl fun _ => 0)), ((u20 2), .inl (K.2.1, 121, .inl fun _ => 0)), ((u20 3), .inl (K.2.2.1, 121, .inr (.inl fun _ => 0))), (q27, .inr (4, [.ref q16, .ref (u35 0), .ref (u35 1), .ref (u35 2), .ref (u35 3), .ref (u35 4), .ref (u35 5), .ref (u35 6), .int 0, .int 0])), ((u35 0), .inl (K.2.1, 121, .inl fun _ => 0)), ((u35 1), .inl (K.2.1, 121, .inl fun _ => 0)), ((u35 2), .inl (K.2.1, 121, .inl fun _ => 0)), ((u35 3), .inl (K.2.1, 121, .inl fun _ => 0)), ((u35 4), .inl (K.2.1, 31, .inl fun _ => 0)), ((u35 5), .inl (K.2.1, 30, .inl fun _ => 0)), ((u35 6), .inl (K.2.1, 121, .inl fun _ => 0)), (q42, .inr (5, [.ref (u46 0), .int (-1)])), ((u46 0), .inl (K.2.1, 121, .inl fun _ => 0))] := hD
  refine lv_aload_n hx hb d_Reading_init_52 rfl (lv_at hl 0 rfl) ?_
  refine va_new (ci := 6) (fs := [.null, .null, .null, .null, .int 0, .int 0, .int 0, .int 0]) (C := "LanguageServer$Parser") (T := T_Parser) (N := 8) hx hb hg in_Parser t_Parser t_Parser_ok hown (hg _ wd_160) (hg _ wd_161) (hg _ wd_7) hK.1 hP hD hS hA rfl bl_Parser (Nat.le_of_ble_eq_true rfl) (Nat.le_of_ble_eq_true rfl) d_Reading_init_53 (fun q53 H hP hD hS => ?_)
  refine W.widen (k := 18) (n := 1538) (by omega) (by omega) ?_
  have hP : va_P K.1 vwCl [(q0, .inr (1, [.ref q5, .ref q16, .ref q27, .ref q42, .null, .null, .null, .int 0])), (q5, .inr (2, [.ref (u9 0), .int 0])), ((u9 0), .inl (K.2.1, 240, .inl fun _ => 0)), (q16, .inr (3, [.ref (u20 0), .ref (u20 1), .ref (u20 2), .ref (u20 3), .int 0])), ((u20 0), .inl (K.2.1, 121, .inl fun _ => 0)), ((u20 1), .inl (K.2.1, 121, .inl fun _ => 0)), ((u20 2), .inl (K.2.1, 121, .inl fun _ => 0)), ((u20 3), .inl (K.2.2.1, 121, .inr (.inl fun _ => 0))), (q27, .inr (4, [.ref q16, .ref (u35 0), .ref (u35 1), .ref (u35 2), .ref (u35 3), .ref (u35 4), .ref (u35 5), .ref (u35 6), .int 0, .int 0])), ((u35 0), .inl (K.2.1, 121, .inl fun _ => 0)), ((u35 1), .inl (K.2.1, 121, .inl fun _ => 0)), ((u35 2), .inl (K.2.1, 121, .inl fun _ => 0)), ((u35 3), .inl (K.2.1, 121, .inl fun _ => 0)), ((u35 4), .inl (K.2.1, 31, .inl fun _ => 0)), ((u35 5), .inl (K.2.1, 30, .inl fun _ => 0)), ((u35 6), .inl (K.2.1, 121, .inl fun _ => 0)), (q42, .inr (5, [.ref (u46 0), .int (-1)])), ((u46 0), .inl (K.2.1, 121, .inl fun _ => 0)), (q53, .inr (6, [.null, .null, .null, .null, .int 0, .int 0, .int 0, .int 0]))] H := hP
  have hD : va_D A [(q0, .inr (1, [.ref q5, .ref q16, .ref q27, .ref q42, .null, .null, .null, .int 0])), (q5, .inr (2, [.ref (u9 0), .int 0])), ((u9 0), .inl (K.2.1, 240, .inl fun _ => 0)), (q16, .inr (3, [.ref (u20 0), .ref (u20 1), .ref (u20 2), .ref (u20 3), .int 0])), ((u20 0), .inl (K.2.1, 121, .inl fun _ => 0)), ((u20 1), .inl (K.2.1, 121, .inl fun _ => 0)), ((u20 2), .inl (K.2.1, 121, .inl fun _ => 0)), ((u20 3), .inl (K.2.2.1, 121, .inr (.inl fun _ => 0))), (q27, .inr (4, [.ref q16, .ref (u35 0), .ref (u35 1), .ref (u35 2), .ref (u35 3), .ref (u35 4), .ref (u35 5), .ref (u35 6), .int 0, .int 0])), ((u35 0), .inl (K.2.1, 121, .inl fun _ => 0)), ((u35 1), .inl (K.2.1, 121, .inl fun _ => 0)), ((u35 2), .inl (K.2.1, 121, .inl fun _ => 0)), ((u35 3), .inl (K.2.1, 121, .inl fun _ => 0)), ((u35 4), .inl (K.2.1, 31, .inl fun _ => 0)), ((u35 5), .inl (K.2.1, 30, .inl fun _ => 0)), ((u35 6), .inl (K.2.1, 121, .inl fun _ => 0)), (q42, .inr (5, [.ref (u46 0), .int (-1)])), ((u46 0), .inl (K.2.1, 121, .inl fun _ => 0)), (q53, .inr (6, [.null, .null, .null, .null, .int 0, .int 0, .int 0, .int 0]))] := hD
  refine lv_dup hx hb d_Reading_init_56 rfl ?_
  refine lv_aload_n hx hb d_Reading_init_57 rfl (lv_at hl 0 rfl) ?_
  refine va_get (D := K.1) (ci := 1) (v := .ref q16) (C := "LanguageServer$Reading") (T := T_Reading) (N := 8) hx hb hg in_Reading hown hK.1 hP 0 rfl rfl 1 (by decide) (hg _ wd_271) (fun _ h9 => h9) rfl d_Reading_init_58 ?_
  refine lv_aload_n hx hb d_Reading_init_61 rfl (lv_at hl 0 rfl) ?_
  refine va_get (D := K.1) (ci := 1) (v := .ref q27) (C := "LanguageServer$Reading") (T := T_Reading) (N := 8) hx hb hg in_Reading hown hK.1 hP 0 rfl rfl 2 (by decide) (hg _ wd_273) (fun _ h9 => h9) rfl d_Reading_init_62 ?_
  refine lv_aload_n hx hb d_Reading_init_65 rfl (lv_at hl 0 rfl) ?_
  refine va_get (D := K.1) (ci := 1) (v := .ref q42) (C := "LanguageServer$Reading") (T := T_Reading) (N := 8) hx hb hg in_Reading hown hK.1 hP 0 rfl rfl 3 (by decide) (hg _ wd_275) (fun _ h9 => h9) rfl d_Reading_init_66 ?_
  have hFc := va_free (wc := [(q53, .inr (6, [.null, .null, .null, .null, .int 0, .int 0, .int 0, .int 0]))]) hD hS hA [18] rfl
  have hPc := hP.sub (ws' := [(q53, .inr (6, [.null, .null, .null, .null, .int 0, .int 0, .int 0, .int 0]))]) [18] rfl
  refine va_callv (va_runI (As := [.ref q16, .ref q27, .ref q42]) (rest := [.ref q53, .ref q0]) ⟨hx, hb, hml, hown, hts⟩ (c_Parser_init l K q53 H.size q16 q27 q42) (cwI 3 hts (gd_C wd_164) rfl rfl rfl (hg _ wd_7) (hg _ wd_162) (hg _ wd_163) rfl ds_Parser_init ⟨Nat.le_of_ble_eq_true rfl, Nat.le_of_ble_eq_true rfl⟩) ⟨fun _ _ _ _ z => ⟨z.1, z.2.1, z.2.2.1, RK.same rfl z.2.2.2⟩, fun U hU hW => ⟨rfl, by rw [hU], by rw [hU]; exact hPc, RK.warm hW hK⟩⟩ rfl rfl hl.1 rfl (lv_room (Nat.le_of_ble_eq_true rfl)) d_Reading_init_69 ⟨Nat.le_of_ble_eq_true rfl, Nat.le_of_ble_eq_true rfl⟩) hS (fun z _ h => hFc z h) hFc (fun u69 t H1 locs ht hvm hw hB hz1 hk1 hS => ?_)
  obtain ⟨hP1, hD1⟩ := hB
  rw [ht] at hP1
  refine W.widen (k := 19) (n := 1546) (by omega) (by omega) ?_
  obtain ⟨hP, hD⟩ := va_join (wr := [(q0, .inr (1, [.ref q5, .ref q16, .ref q27, .ref q42, .null, .null, .null, .int 0])), (q5, .inr (2, [.ref (u9 0), .int 0])), ((u9 0), .inl (K.2.1, 240, .inl fun _ => 0)), (q16, .inr (3, [.ref (u20 0), .ref (u20 1), .ref (u20 2), .ref (u20 3), .int 0])), ((u20 0), .inl (K.2.1, 121, .inl fun _ => 0)), ((u20 1), .inl (K.2.1, 121, .inl fun _ => 0)), ((u20 2), .inl (K.2.1, 121, .inl fun _ => 0)), ((u20 3), .inl (K.2.2.1, 121, .inr (.inl fun _ => 0))), (q27, .inr (4, [.ref q16, .ref (u35 0), .ref (u35 1), .ref (u35 2), .ref (u35 3), .ref (u35 4), .ref (u35 5), .ref (u35 6), .int 0, .int 0])), ((u35 0), .inl (K.2.1, 121, .inl fun _ => 0)), ((u35 1), .inl (K.2.1, 121, .inl fun _ => 0)), ((u35 2), .inl (K.2.1, 121, .inl fun _ => 0)), ((u35 3), .inl (K.2.1, 121, .inl fun _ => 0)), ((u35 4), .inl (K.2.1, 31, .inl fun _ => 0)), ((u35 5), .inl (K.2.1, 30, .inl fun _ => 0)), ((u35 6), .inl (K.2.1, 121, .inl fun _ => 0)), (q42, .inr (5, [.ref (u46 0), .int (-1)])), ((u46 0), .inl (K.2.1, 121, .inl fun _ => 0))]) (w1 := [(q53, .inr (6, [.ref q16, .ref q27, .ref q42, .ref (u69 0), .int 0, .int 0, .int 0, .int 0])), ((u69 0), .inl (K.2.1, 8, .inl fun _ => 0))]) hP hD [18] [0, 1, 2, 3, 4, 5, 6, 7, 8, 9, 10, 11, 12, 13, 14, 15, 16, 17] rfl rfl (by decide) (by decide) hk1 hFc hP1 hD1
  generalize H1 = H at hP hS ⊢
  have hP : va_P K.1 vwCl [(q0, .inr (1, [.ref q5, .ref q16, .ref q27, .ref q42, .null, .null, .null, .int 0])), (q5, .inr (2, [.ref (u9 0), .int 0])), ((u9 0), .inl (K.2.1, 240, .inl fun _ => 0)), (q16, .inr (3, [.ref (u20 0), .ref (u20 1), .ref (u20 2), .ref (u20 3), .int 0])), ((u20 0), .inl (K.2.1, 121, .inl fun _ => 0)), ((u20 1), .inl (K.2.1, 121, .inl fun _ => 0)), ((u20 2), .inl (K.2.1, 121, .inl fun _ => 0)), ((u20 3), .inl (K.2.2.1, 121, .inr (.inl fun _ => 0))), (q27, .inr (4, [.ref q16, .ref (u35 0), .ref (u35 1), .ref (u35 2), .ref (u35 3), .ref (u35 4), .ref (u35 5), .ref (u35 6), .int 0, .int 0])), ((u35 0), .inl (K.2.1, 121, .inl fun _ => 0)), ((u35 1), .inl (K.2.1, 121, .inl fun _ => 0)), ((u35 2), .inl (K.2.1, 121, .inl fun _ => 0)), ((u35 3), .inl (K.2.1, 121, .inl fun _ => 0)), ((u35 4), .inl (K.2.1, 31, .inl fun _ => 0)), ((u35 5), .inl (K.2.1, 30, .inl fun _ => 0)), ((u35 6), .inl (K.2.1, 121, .inl fun _ => 0)), (q42, .inr (5, [.ref (u46 0), .int (-1)])), ((u46 0), .inl (K.2.1, 121, .inl fun _ => 0)), (q53, .inr (6, [.ref q16, .ref q27, .ref q42, .ref (u69 0), .int 0, .int 0, .int 0, .int 0])), ((u69 0), .inl (K.2.1, 8, .inl fun _ => 0))] H := hP
  have hD : va_D A [(q0, .inr (1, [.ref q5, .ref q16, .ref q27, .ref q42, .null, .null, .null, .int 0])), (q5, .inr (2, [.ref (u9 0), .int 0])), ((u9 0), .inl (K.2.1, 240, .inl fun _ => 0)), (q16, .inr (3, [.ref (u20 0), .ref (u20 1), .ref (u20 2), .ref (u20 3), .int 0])), ((u20 0), .inl (K.2.1, 121, .inl fun _ => 0)), ((u20 1), .inl (K.2.1, 121, .inl fun _ => 0)), ((u20 2), .inl (K.2.1, 121, .inl fun _ => 0)), ((u20 3), .inl (K.2.2.1, 121, .inr (.inl fun _ => 0))), (q27, .inr (4, [.ref q16, .ref (u35 0), .ref (u35 1), .ref (u35 2), .ref (u35 3), .ref (u35 4), .ref (u35 5), .ref (u35 6), .int 0, .int 0])), ((u35 0), .inl (K.2.1, 121, .inl fun _ => 0)), ((u35 1), .inl (K.2.1, 121, .inl fun _ => 0)), ((u35 2), .inl (K.2.1, 121, .inl fun _ => 0)), ((u35 3), .inl (K.2.1, 121, .inl fun _ => 0)), ((u35 4), .inl (K.2.1, 31, .inl fun _ => 0)), ((u35 5), .inl (K.2.1, 30, .inl fun _ => 0)), ((u35 6), .inl (K.2.1, 121, .inl fun _ => 0)), (q42, .inr (5, [.ref (u46 0), .int (-1)])), ((u46 0), .inl (K.2.1, 121, .inl fun _ => 0)), (q53, .inr (6, [.ref q16, .ref q27, .ref q42, .ref (u69 0), .int 0, .int 0, .int 0, .int 0])), ((u69 0), .inl (K.2.1, 8, .inl fun _ => 0))] := hD
  refine va_putF (D := K.1) (ci := 1) (v := .ref q53) (ty := .object "LanguageServer$Parser") (C := "LanguageServer$Reading") (T := T_Reading) (N := 8) hx hb hg in_Reading t_Reading t_Reading_ok n_Reading hown hK.1 hP hD hS 0 rfl rfl 4 (by decide) (hg _ wd_277) (fun _ h9 => h9) rfl hin rfl (by decide +kernel) rfl rfl (Nat.le_of_ble_eq_true rfl) d_Reading_init_72 (fun H locs hP hD hS => ?_)
  have hP : va_P K.1 vwCl [(q0, .inr (1, [.ref q5, .ref q16, .ref q27, .ref q42, .ref q53, .null, .null, .int 0])), (q5, .inr (2, [.ref (u9 0), .int 0])), ((u9 0), .inl (K.2.1, 240, .inl fun _ => 0)), (q16, .inr (3, [.ref (u20 0), .ref (u20 1), .ref (u20 2), .ref (u20 3), .int 0])), ((u20 0), .inl (K.2.1, 121, .inl fun _ => 0)), ((u20 1), .inl (K.2.1, 121, .inl fun _ => 0)), ((u20 2), .inl (K.2.1, 121, .inl fun _ => 0)), ((u20 3), .inl (K.2.2.1, 121, .inr (.inl fun _ => 0))), (q27, .inr (4, [.ref q16, .ref (u35 0), .ref (u35 1), .ref (u35 2), .ref (u35 3), .ref (u35 4), .ref (u35 5), .ref (u35 6), .int 0, .int 0])), ((u35 0), .inl (K.2.1, 121, .inl fun _ => 0)), ((u35 1), .inl (K.2.1, 121, .inl fun _ => 0)), ((u35 2), .inl (K.2.1, 121, .inl fun _ => 0)), ((u35 3), .inl (K.2.1, 121, .inl fun _ => 0)), ((u35 4), .inl (K.2.1, 31, .inl fun _ => 0)), ((u35 5), .inl (K.2.1, 30, .inl fun _ => 0)), ((u35 6), .inl (K.2.1, 121, .inl fun _ => 0)), (q42, .inr (5, [.ref (u46 0), .int (-1)])), ((u46 0), .inl (K.2.1, 121, .inl fun _ => 0)), (q53, .inr (6, [.ref q16, .ref q27, .ref q42, .ref (u69 0), .int 0, .int 0, .int 0, .int 0])), ((u69 0), .inl (K.2.1, 8, .inl fun _ => 0))] H := hP
  have hD : va_D A [(q0, .inr (1, [.ref q5, .ref q16, .ref q27, .ref q42, .ref q53, .null, .null, .int 0])), (q5, .inr (2, [.ref (u9 0), .int 0])), ((u9 0), .inl (K.2.1, 240, .inl fun _ => 0)), (q16, .inr (3, [.ref (u20 0), .ref (u20 1), .ref (u20 2), .ref (u20 3), .int 0])), ((u20 0), .inl (K.2.1, 121, .inl fun _ => 0)), ((u20 1), .inl (K.2.1, 121, .inl fun _ => 0)), ((u20 2), .inl (K.2.1, 121, .inl fun _ => 0)), ((u20 3), .inl (K.2.2.1, 121, .inr (.inl fun _ => 0))), (q27, .inr (4, [.ref q16, .ref (u35 0), .ref (u35 1), .ref (u35 2), .ref (u35 3), .ref (u35 4), .ref (u35 5), .ref (u35 6), .int 0, .int 0])), ((u35 0), .inl (K.2.1, 121, .inl fun _ => 0)), ((u35 1), .inl (K.2.1, 121, .inl fun _ => 0)), ((u35 2), .inl (K.2.1, 121, .inl fun _ => 0)), ((u35 3), .inl (K.2.1, 121, .inl fun _ => 0)), ((u35 4), .inl (K.2.1, 31, .inl fun _ => 0)), ((u35 5), .inl (K.2.1, 30, .inl fun _ => 0)), ((u35 6), .inl (K.2.1, 121, .inl fun _ => 0)), (q42, .inr (5, [.ref (u46 0), .int (-1)])), ((u46 0), .inl (K.2.1, 121, .inl fun _ => 0)), (q53, .inr (6, [.ref q16, .ref q27, .ref q42, .ref (u69 0), .int 0, .int 0, .int 0, .int 0])), ((u69 0), .inl (K.2.1, 8, .inl fun _ => 0))] := hD
  refine lv_aload_n hx hb d_Reading_init_75 rfl (lv_at hl 0 rfl) ?_
  refine va_new (ci := 7) (fs := [.null, .null, .null, .null, .int 0, .int 0]) (C := "LanguageServer$Declarer") (T := T_Declarer) (N := 6) hx hb hg in_Declarer t_Declarer t_Declarer_ok hown (hg _ wd_191) (hg _ wd_192) (hg _ wd_8) hK.1 hP hD hS hA rfl bl_Declarer (Nat.le_of_ble_eq_true rfl) (Nat.le_of_ble_eq_true rfl) d_Reading_init_76 (fun q76 H hP hD hS => ?_)
  refine W.widen (k := 20) (n := 1552) (by omega) (by omega) ?_
  have hP : va_P K.1 vwCl [(q0, .inr (1, [.ref q5, .ref q16, .ref q27, .ref q42, .ref q53, .null, .null, .int 0])), (q5, .inr (2, [.ref (u9 0), .int 0])), ((u9 0), .inl (K.2.1, 240, .inl fun _ => 0)), (q16, .inr (3, [.ref (u20 0), .ref (u20 1), .ref (u20 2), .ref (u20 3), .int 0])), ((u20 0), .inl (K.2.1, 121, .inl fun _ => 0)), ((u20 1), .inl (K.2.1, 121, .inl fun _ => 0)), ((u20 2), .inl (K.2.1, 121, .inl fun _ => 0)), ((u20 3), .inl (K.2.2.1, 121, .inr (.inl fun _ => 0))), (q27, .inr (4, [.ref q16, .ref (u35 0), .ref (u35 1), .ref (u35 2), .ref (u35 3), .ref (u35 4), .ref (u35 5), .ref (u35 6), .int 0, .int 0])), ((u35 0), .inl (K.2.1, 121, .inl fun _ => 0)), ((u35 1), .inl (K.2.1, 121, .inl fun _ => 0)), ((u35 2), .inl (K.2.1, 121, .inl fun _ => 0)), ((u35 3), .inl (K.2.1, 121, .inl fun _ => 0)), ((u35 4), .inl (K.2.1, 31, .inl fun _ => 0)), ((u35 5), .inl (K.2.1, 30, .inl fun _ => 0)), ((u35 6), .inl (K.2.1, 121, .inl fun _ => 0)), (q42, .inr (5, [.ref (u46 0), .int (-1)])), ((u46 0), .inl (K.2.1, 121, .inl fun _ => 0)), (q53, .inr (6, [.ref q16, .ref q27, .ref q42, .ref (u69 0), .int 0, .int 0, .int 0, .int 0])), ((u69 0), .inl (K.2.1, 8, .inl fun _ => 0)), (q76, .inr (7, [.null, .null, .null, .null, .int 0, .int 0]))] H := hP
  have hD : va_D A [(q0, .inr (1, [.ref q5, .ref q16, .ref q27, .ref q42, .ref q53, .null, .null, .int 0])), (q5, .inr (2, [.ref (u9 0), .int 0])), ((u9 0), .inl (K.2.1, 240, .inl fun _ => 0)), (q16, .inr (3, [.ref (u20 0), .ref (u20 1), .ref (u20 2), .ref (u20 3), .int 0])), ((u20 0), .inl (K.2.1, 121, .inl fun _ => 0)), ((u20 1), .inl (K.2.1, 121, .inl fun _ => 0)), ((u20 2), .inl (K.2.1, 121, .inl fun _ => 0)), ((u20 3), .inl (K.2.2.1, 121, .inr (.inl fun _ => 0))), (q27, .inr (4, [.ref q16, .ref (u35 0), .ref (u35 1), .ref (u35 2), .ref (u35 3), .ref (u35 4), .ref (u35 5), .ref (u35 6), .int 0, .int 0])), ((u35 0), .inl (K.2.1, 121, .inl fun _ => 0)), ((u35 1), .inl (K.2.1, 121, .inl fun _ => 0)), ((u35 2), .inl (K.2.1, 121, .inl fun _ => 0)), ((u35 3), .inl (K.2.1, 121, .inl fun _ => 0)), ((u35 4), .inl (K.2.1, 31, .inl fun _ => 0)), ((u35 5), .inl (K.2.1, 30, .inl fun _ => 0)), ((u35 6), .inl (K.2.1, 121, .inl fun _ => 0)), (q42, .inr (5, [.ref (u46 0), .int (-1)])), ((u46 0), .inl (K.2.1, 121, .inl fun _ => 0)), (q53, .inr (6, [.ref q16, .ref q27, .ref q42, .ref (u69 0), .int 0, .int 0, .int 0, .int 0])), ((u69 0), .inl (K.2.1, 8, .inl fun _ => 0)), (q76, .inr (7, [.null, .null, .null, .null, .int 0, .int 0]))] := hD
  refine lv_dup hx hb d_Reading_init_79 rfl ?_
  refine lv_aload_n hx hb d_Reading_init_80 rfl (lv_at hl 0 rfl) ?_
  refine va_get (D := K.1) (ci := 1) (v := .ref q16) (C := "LanguageServer$Reading") (T := T_Reading) (N := 8) hx hb hg in_Reading hown hK.1 hP 0 rfl rfl 1 (by decide) (hg _ wd_271) (fun _ h9 => h9) rfl d_Reading_init_81 ?_
  refine lv_aload_n hx hb d_Reading_init_84 rfl (lv_at hl 0 rfl) ?_
  refine va_get (D := K.1) (ci := 1) (v := .ref q27) (C := "LanguageServer$Reading") (T := T_Reading) (N := 8) hx hb hg in_Reading hown hK.1 hP 0 rfl rfl 2 (by decide) (hg _ wd_273) (fun _ h9 => h9) rfl d_Reading_init_85 ?_
  refine lv_aload_n hx hb d_Reading_init_88 rfl (lv_at hl 0 rfl) ?_
  refine va_get (D := K.1) (ci := 1) (v := .ref q42) (C := "LanguageServer$Reading") (T := T_Reading) (N := 8) hx hb hg in_Reading hown hK.1 hP 0 rfl rfl 3 (by decide) (hg _ wd_275) (fun _ h9 => h9) rfl d_Reading_init_89 ?_
  have hFc := va_free (wc := [(q76, .inr (7, [.null, .null, .null, .null, .int 0, .int 0]))]) hD hS hA [20] rfl
  have hPc := hP.sub (ws' := [(q76, .inr (7, [.null, .null, .null, .null, .int 0, .int 0]))]) [20] rfl
  refine va_callv (va_runI (As := [.ref q16, .ref q27, .ref q42]) (rest := [.ref q76, .ref q0]) ⟨hx, hb, hml, hown, hts⟩ (c_Declarer_init l K q76 H.size q16 q27 q42) (cwI 3 hts (gd_C wd_195) rfl rfl rfl (hg _ wd_8) (hg _ wd_193) (hg _ wd_194) rfl ds_Declarer_init ⟨Nat.le_of_ble_eq_true rfl, Nat.le_of_ble_eq_true rfl⟩) ⟨fun _ _ _ _ z => ⟨z.1, z.2.1, z.2.2.1, RK.same rfl z.2.2.2⟩, fun U hU hW => ⟨rfl, by rw [hU], by rw [hU]; exact hPc, RK.warm hW hK⟩⟩ rfl rfl hl.1 rfl (lv_room (Nat.le_of_ble_eq_true rfl)) d_Reading_init_92 ⟨Nat.le_of_ble_eq_true rfl, Nat.le_of_ble_eq_true rfl⟩) hS (fun z _ h => hFc z h) hFc (fun u92 t H1 locs ht hvm hw hB hz1 hk1 hS => ?_)
  obtain ⟨hP1, hD1⟩ := hB
  rw [ht] at hP1
  refine W.widen (k := 21) (n := 1582) (by omega) (by omega) ?_
  obtain ⟨hP, hD⟩ := va_join (wr := [(q0, .inr (1, [.ref q5, .ref q16, .ref q27, .ref q42, .ref q53, .null, .null, .int 0])), (q5, .inr (2, [.ref (u9 0), .int 0])), ((u9 0), .inl (K.2.1, 240, .inl fun _ => 0)), (q16, .inr (3, [.ref (u20 0), .ref (u20 1), .ref (u20 2), .ref (u20 3), .int 0])), ((u20 0), .inl (K.2.1, 121, .inl fun _ => 0)), ((u20 1), .inl (K.2.1, 121, .inl fun _ => 0)), ((u20 2), .inl (K.2.1, 121, .inl fun _ => 0)), ((u20 3), .inl (K.2.2.1, 121, .inr (.inl fun _ => 0))), (q27, .inr (4, [.ref q16, .ref (u35 0), .ref (u35 1), .ref (u35 2), .ref (u35 3), .ref (u35 4), .ref (u35 5), .ref (u35 6), .int 0, .int 0])), ((u35 0), .inl (K.2.1, 121, .inl fun _ => 0)), ((u35 1), .inl (K.2.1, 121, .inl fun _ => 0)), ((u35 2), .inl (K.2.1, 121, .inl fun _ => 0)), ((u35 3), .inl (K.2.1, 121, .inl fun _ => 0)), ((u35 4), .inl (K.2.1, 31, .inl fun _ => 0)), ((u35 5), .inl (K.2.1, 30, .inl fun _ => 0)), ((u35 6), .inl (K.2.1, 121, .inl fun _ => 0)), (q42, .inr (5, [.ref (u46 0), .int (-1)])), ((u46 0), .inl (K.2.1, 121, .inl fun _ => 0)), (q53, .inr (6, [.ref q16, .ref q27, .ref q42, .ref (u69 0), .int 0, .int 0, .int 0, .int 0])), ((u69 0), .inl (K.2.1, 8, .inl fun _ => 0))]) (w1 := [(q76, .inr (7, [.ref q16, .ref q27, .ref q42, .ref (u92 0), .int 0, .int 0])), ((u92 0), .inl (K.2.1, 30, .inl fun _ => 0))]) hP hD [20] [0, 1, 2, 3, 4, 5, 6, 7, 8, 9, 10, 11, 12, 13, 14, 15, 16, 17, 18, 19] rfl rfl (by decide) (by decide) hk1 hFc hP1 hD1
  generalize H1 = H at hP hS ⊢
  have hP : va_P K.1 vwCl [(q0, .inr (1, [.ref q5, .ref q16, .ref q27, .ref q42, .ref q53, .null, .null, .int 0])), (q5, .inr (2, [.ref (u9 0), .int 0])), ((u9 0), .inl (K.2.1, 240, .inl fun _ => 0)), (q16, .inr (3, [.ref (u20 0), .ref (u20 1), .ref (u20 2), .ref (u20 3), .int 0])), ((u20 0), .inl (K.2.1, 121, .inl fun _ => 0)), ((u20 1), .inl (K.2.1, 121, .inl fun _ => 0)), ((u20 2), .inl (K.2.1, 121, .inl fun _ => 0)), ((u20 3), .inl (K.2.2.1, 121, .inr (.inl fun _ => 0))), (q27, .inr (4, [.ref q16, .ref (u35 0), .ref (u35 1), .ref (u35 2), .ref (u35 3), .ref (u35 4), .ref (u35 5), .ref (u35 6), .int 0, .int 0])), ((u35 0), .inl (K.2.1, 121, .inl fun _ => 0)), ((u35 1), .inl (K.2.1, 121, .inl fun _ => 0)), ((u35 2), .inl (K.2.1, 121, .inl fun _ => 0)), ((u35 3), .inl (K.2.1, 121, .inl fun _ => 0)), ((u35 4), .inl (K.2.1, 31, .inl fun _ => 0)), ((u35 5), .inl (K.2.1, 30, .inl fun _ => 0)), ((u35 6), .inl (K.2.1, 121, .inl fun _ => 0)), (q42, .inr (5, [.ref (u46 0), .int (-1)])), ((u46 0), .inl (K.2.1, 121, .inl fun _ => 0)), (q53, .inr (6, [.ref q16, .ref q27, .ref q42, .ref (u69 0), .int 0, .int 0, .int 0, .int 0])), ((u69 0), .inl (K.2.1, 8, .inl fun _ => 0)), (q76, .inr (7, [.ref q16, .ref q27, .ref q42, .ref (u92 0), .int 0, .int 0])), ((u92 0), .inl (K.2.1, 30, .inl fun _ => 0))] H := hP
  have hD : va_D A [(q0, .inr (1, [.ref q5, .ref q16, .ref q27, .ref q42, .ref q53, .null, .null, .int 0])), (q5, .inr (2, [.ref (u9 0), .int 0])), ((u9 0), .inl (K.2.1, 240, .inl fun _ => 0)), (q16, .inr (3, [.ref (u20 0), .ref (u20 1), .ref (u20 2), .ref (u20 3), .int 0])), ((u20 0), .inl (K.2.1, 121, .inl fun _ => 0)), ((u20 1), .inl (K.2.1, 121, .inl fun _ => 0)), ((u20 2), .inl (K.2.1, 121, .inl fun _ => 0)), ((u20 3), .inl (K.2.2.1, 121, .inr (.inl fun _ => 0))), (q27, .inr (4, [.ref q16, .ref (u35 0), .ref (u35 1), .ref (u35 2), .ref (u35 3), .ref (u35 4), .ref (u35 5), .ref (u35 6), .int 0, .int 0])), ((u35 0), .inl (K.2.1, 121, .inl fun _ => 0)), ((u35 1), .inl (K.2.1, 121, .inl fun _ => 0)), ((u35 2), .inl (K.2.1, 121, .inl fun _ => 0)), ((u35 3), .inl (K.2.1, 121, .inl fun _ => 0)), ((u35 4), .inl (K.2.1, 31, .inl fun _ => 0)), ((u35 5), .inl (K.2.1, 30, .inl fun _ => 0)), ((u35 6), .inl (K.2.1, 121, .inl fun _ => 0)), (q42, .inr (5, [.ref (u46 0), .int (-1)])), ((u46 0), .inl (K.2.1, 121, .inl fun _ => 0)), (q53, .inr (6, [.ref q16, .ref q27, .ref q42, .ref (u69 0), .int 0, .int 0, .int 0, .int 0])), ((u69 0), .inl (K.2.1, 8, .inl fun _ => 0)), (q76, .inr (7, [.ref q16, .ref q27, .ref q42, .ref (u92 0), .int 0, .int 0])), ((u92 0), .inl (K.2.1, 30, .inl fun _ => 0))] := hD
  refine va_putF (D := K.1) (ci := 1) (v := .ref q76) (ty := .object "LanguageServer$Declarer") (C := "LanguageServer$Reading") (T := T_Reading) (N := 8) hx hb hg in_Reading t_Reading t_Reading_ok n_Reading hown hK.1 hP hD hS 0 rfl rfl 5 (by decide) (hg _ wd_278) (fun _ h9 => h9) rfl hin rfl (by decide +kernel) rfl rfl (Nat.le_of_ble_eq_true rfl) d_Reading_init_95 (fun H locs hP hD hS => ?_)
  have hP : va_P K.1 vwCl [(q0, .inr (1, [.ref q5, .ref q16, .ref q27, .ref q42, .ref q53, .ref q76, .null, .int 0])), (q5, .inr (2, [.ref (u9 0), .int 0])), ((u9 0), .inl (K.2.1, 240, .inl fun _ => 0)), (q16, .inr (3, [.ref (u20 0), .ref (u20 1), .ref (u20 2), .ref (u20 3), .int 0])), ((u20 0), .inl (K.2.1, 121, .inl fun _ => 0)), ((u20 1), .inl (K.2.1, 121, .inl fun _ => 0)), ((u20 2), .inl (K.2.1, 121, .inl fun _ => 0)), ((u20 3), .inl (K.2.2.1, 121, .inr (.inl fun _ => 0))), (q27, .inr (4, [.ref q16, .ref (u35 0), .ref (u35 1), .ref (u35 2), .ref (u35 3), .ref (u35 4), .ref (u35 5), .ref (u35 6), .int 0, .int 0])), ((u35 0), .inl (K.2.1, 121, .inl fun _ => 0)), ((u35 1), .inl (K.2.1, 121, .inl fun _ => 0)), ((u35 2), .inl (K.2.1, 121, .inl fun _ => 0)), ((u35 3), .inl (K.2.1, 121, .inl fun _ => 0)), ((u35 4), .inl (K.2.1, 31, .inl fun _ => 0)), ((u35 5), .inl (K.2.1, 30, .inl fun _ => 0)), ((u35 6), .inl (K.2.1, 121, .inl fun _ => 0)), (q42, .inr (5, [.ref (u46 0), .int (-1)])), ((u46 0), .inl (K.2.1, 121, .inl fun _ => 0)), (q53, .inr (6, [.ref q16, .ref q27, .ref q42, .ref (u69 0), .int 0, .int 0, .int 0, .int 0])), ((u69 0), .inl (K.2.1, 8, .inl fun _ => 0)), (q76, .inr (7, [.ref q16, .ref q27, .ref q42, .ref (u92 0), .int 0, .int 0])), ((u92 0), .inl (K.2.1, 30, .inl fun _ => 0))] H := hP
  have hD : va_D A [(q0, .inr (1, [.ref q5, .ref q16, .ref q27, .ref q42, .ref q53, .ref q76, .null, .int 0])), (q5, .inr (2, [.ref (u9 0), .int 0])), ((u9 0), .inl (K.2.1, 240, .inl fun _ => 0)), (q16, .inr (3, [.ref (u20 0), .ref (u20 1), .ref (u20 2), .ref (u20 3), .int 0])), ((u20 0), .inl (K.2.1, 121, .inl fun _ => 0)), ((u20 1), .inl (K.2.1, 121, .inl fun _ => 0)), ((u20 2), .inl (K.2.1, 121, .inl fun _ => 0)), ((u20 3), .inl (K.2.2.1, 121, .inr (.inl fun _ => 0))), (q27, .inr (4, [.ref q16, .ref (u35 0), .ref (u35 1), .ref (u35 2), .ref (u35 3), .ref (u35 4), .ref (u35 5), .ref (u35 6), .int 0, .int 0])), ((u35 0), .inl (K.2.1, 121, .inl fun _ => 0)), ((u35 1), .inl (K.2.1, 121, .inl fun _ => 0)), ((u35 2), .inl (K.2.1, 121, .inl fun _ => 0)), ((u35 3), .inl (K.2.1, 121, .inl fun _ => 0)), ((u35 4), .inl (K.2.1, 31, .inl fun _ => 0)), ((u35 5), .inl (K.2.1, 30, .inl fun _ => 0)), ((u35 6), .inl (K.2.1, 121, .inl fun _ => 0)), (q42, .inr (5, [.ref (u46 0), .int (-1)])), ((u46 0), .inl (K.2.1, 121, .inl fun _ => 0)), (q53, .inr (6, [.ref q16, .ref q27, .ref q42, .ref (u69 0), .int 0, .int 0, .int 0, .int 0])), ((u69 0), .inl (K.2.1, 8, .inl fun _ => 0)), (q76, .inr (7, [.ref q16, .ref q27, .ref q42, .ref (u92 0), .int 0, .int 0])), ((u92 0), .inl (K.2.1, 30, .inl fun _ => 0))] := hD
  refine lv_aload_n hx hb d_Reading_init_98 rfl (lv_at hl 0 rfl) ?_
  refine va_new (ci := 8) (fs := [.null, .null, .null, .null, .null, .null, .null, .null, .null, .int 0, .int 0, .int 0, .int 0, .int 0, .int 0]) (C := "LanguageServer$Judge") (T := T_Judge) (N := 15) hx hb hg in_Judge t_Judge t_Judge_ok hown (hg _ wd_216) (hg _ wd_217) (hg _ wd_9) hK.1 hP hD hS hA rfl bl_Judge (Nat.le_of_ble_eq_true rfl) (Nat.le_of_ble_eq_true rfl) d_Reading_init_99 (fun q99 H hP hD hS => ?_)
  refine W.widen (k := 22) (n := 1597) (by omega) (by omega) ?_
  have hP : va_P K.1 vwCl [(q0, .inr (1, [.ref q5, .ref q16, .ref q27, .ref q42, .ref q53, .ref q76, .null, .int 0])), (q5, .inr (2, [.ref (u9 0), .int 0])), ((u9 0), .inl (K.2.1, 240, .inl fun _ => 0)), (q16, .inr (3, [.ref (u20 0), .ref (u20 1), .ref (u20 2), .ref (u20 3), .int 0])), ((u20 0), .inl (K.2.1, 121, .inl fun _ => 0)), ((u20 1), .inl (K.2.1, 121, .inl fun _ => 0)), ((u20 2), .inl (K.2.1, 121, .inl fun _ => 0)), ((u20 3), .inl (K.2.2.1, 121, .inr (.inl fun _ => 0))), (q27, .inr (4, [.ref q16, .ref (u35 0), .ref (u35 1), .ref (u35 2), .ref (u35 3), .ref (u35 4), .ref (u35 5), .ref (u35 6), .int 0, .int 0])), ((u35 0), .inl (K.2.1, 121, .inl fun _ => 0)), ((u35 1), .inl (K.2.1, 121, .inl fun _ => 0)), ((u35 2), .inl (K.2.1, 121, .inl fun _ => 0)), ((u35 3), .inl (K.2.1, 121, .inl fun _ => 0)), ((u35 4), .inl (K.2.1, 31, .inl fun _ => 0)), ((u35 5), .inl (K.2.1, 30, .inl fun _ => 0)), ((u35 6), .inl (K.2.1, 121, .inl fun _ => 0)), (q42, .inr (5, [.ref (u46 0), .int (-1)])), ((u46 0), .inl (K.2.1, 121, .inl fun _ => 0)), (q53, .inr (6, [.ref q16, .ref q27, .ref q42, .ref (u69 0), .int 0, .int 0, .int 0, .int 0])), ((u69 0), .inl (K.2.1, 8, .inl fun _ => 0)), (q76, .inr (7, [.ref q16, .ref q27, .ref q42, .ref (u92 0), .int 0, .int 0])), ((u92 0), .inl (K.2.1, 30, .inl fun _ => 0)), (q99, .inr (8, [.null, .null, .null, .null, .null, .null, .null, .null, .null, .int 0, .int 0, .int 0, .int 0, .int 0, .int 0]))] H := hP
  have hD : va_D A [(q0, .inr (1, [.ref q5, .ref q16, .ref q27, .ref q42, .ref q53, .ref q76, .null, .int 0])), (q5, .inr (2, [.ref (u9 0), .int 0])), ((u9 0), .inl (K.2.1, 240, .inl fun _ => 0)), (q16, .inr (3, [.ref (u20 0), .ref (u20 1), .ref (u20 2), .ref (u20 3), .int 0])), ((u20 0), .inl (K.2.1, 121, .inl fun _ => 0)), ((u20 1), .inl (K.2.1, 121, .inl fun _ => 0)), ((u20 2), .inl (K.2.1, 121, .inl fun _ => 0)), ((u20 3), .inl (K.2.2.1, 121, .inr (.inl fun _ => 0))), (q27, .inr (4, [.ref q16, .ref (u35 0), .ref (u35 1), .ref (u35 2), .ref (u35 3), .ref (u35 4), .ref (u35 5), .ref (u35 6), .int 0, .int 0])), ((u35 0), .inl (K.2.1, 121, .inl fun _ => 0)), ((u35 1), .inl (K.2.1, 121, .inl fun _ => 0)), ((u35 2), .inl (K.2.1, 121, .inl fun _ => 0)), ((u35 3), .inl (K.2.1, 121, .inl fun _ => 0)), ((u35 4), .inl (K.2.1, 31, .inl fun _ => 0)), ((u35 5), .inl (K.2.1, 30, .inl fun _ => 0)), ((u35 6), .inl (K.2.1, 121, .inl fun _ => 0)), (q42, .inr (5, [.ref (u46 0), .int (-1)])), ((u46 0), .inl (K.2.1, 121, .inl fun _ => 0)), (q53, .inr (6, [.ref q16, .ref q27, .ref q42, .ref (u69 0), .int 0, .int 0, .int 0, .int 0])), ((u69 0), .inl (K.2.1, 8, .inl fun _ => 0)), (q76, .inr (7, [.ref q16, .ref q27, .ref q42, .ref (u92 0), .int 0, .int 0])), ((u92 0), .inl (K.2.1, 30, .inl fun _ => 0)), (q99, .inr (8, [.null, .null, .null, .null, .null, .null, .null, .null, .null, .int 0, .int 0, .int 0, .int 0, .int 0, .int 0]))] := hD
  refine lv_dup hx hb d_Reading_init_102 rfl ?_
  refine lv_aload_n hx hb d_Reading_init_103 rfl (lv_at hl 0 rfl) ?_
  refine va_get (D := K.1) (ci := 1) (v := .ref q16) (C := "LanguageServer$Reading") (T := T_Reading) (N := 8) hx hb hg in_Reading hown hK.1 hP 0 rfl rfl 1 (by decide) (hg _ wd_271) (fun _ h9 => h9) rfl d_Reading_init_104 ?_
  refine lv_aload_n hx hb d_Reading_init_107 rfl (lv_at hl 0 rfl) ?_
  refine va_get (D := K.1) (ci := 1) (v := .ref q27) (C := "LanguageServer$Reading") (T := T_Reading) (N := 8) hx hb hg in_Reading hown hK.1 hP 0 rfl rfl 2 (by decide) (hg _ wd_273) (fun _ h9 => h9) rfl d_Reading_init_108 ?_
  refine lv_aload_n hx hb d_Reading_init_111 rfl (lv_at hl 0 rfl) ?_
  refine va_get (D := K.1) (ci := 1) (v := .ref q42) (C := "LanguageServer$Reading") (T := T_Reading) (N := 8) hx hb hg in_Reading hown hK.1 hP 0 rfl rfl 3 (by decide) (hg _ wd_275) (fun _ h9 => h9) rfl d_Reading_init_112 ?_
  have hFc := va_free (wc := [(q99, .inr (8, [.null, .null, .null, .null, .null, .null, .null, .null, .null, .int 0, .int 0, .int 0, .int 0, .int 0, .int 0]))]) hD hS hA [22] rfl
  have hPc := hP.sub (ws' := [(q99, .inr (8, [.null, .null, .null, .null, .null, .null, .null, .null, .null, .int 0, .int 0, .int 0, .int 0, .int 0, .int 0]))]) [22] rfl
  refine va_callv (va_runI (As := [.ref q16, .ref q27, .ref q42]) (rest := [.ref q99, .ref q0]) ⟨hx, hb, hml, hown, hts⟩ (c_Judge_init l K q99 H.size q16 q27 q42) (cwI 3 hts (gd_C wd_220) rfl rfl rfl (hg _ wd_9) (hg _ wd_218) (hg _ wd_219) rfl ds_Judge_init ⟨Nat.le_of_ble_eq_true rfl, Nat.le_of_ble_eq_true rfl⟩) ⟨fun _ _ _ _ z => ⟨z.1, z.2.1, z.2.2.1, RK.same rfl z.2.2.2⟩, fun U hU hW => ⟨rfl, by rw [hU], by rw [hU]; exact hPc, RK.warm hW hK⟩⟩ rfl rfl hl.1 rfl (lv_room (Nat.le_of_ble_eq_true rfl)) d_Reading_init_115 ⟨Nat.le_of_ble_eq_true rfl, Nat.le_of_ble_eq_true rfl⟩) hS (fun z _ h => hFc z h) hFc (fun u115 t H1 locs ht hvm hw hB hz1 hk1 hS => ?_)
  obtain ⟨hP1, hD1⟩ := hB
  rw [ht] at hP1
  refine W.widen (k := 28) (n := 1651) (by omega) (by omega) ?_
  obtain ⟨hP, hD⟩ := va_join (wr := [(q0, .inr (1, [.ref q5, .ref q16, .ref q27, .ref q42, .ref q53, .ref q76, .null, .int 0])), (q5, .inr (2, [.ref (u9 0), .int 0])), ((u9 0), .inl (K.2.1, 240, .inl fun _ => 0)), (q16, .inr (3, [.ref (u20 0), .ref (u20 1), .ref (u20 2), .ref (u20 3), .int 0])), ((u20 0), .inl (K.2.1, 121, .inl fun _ => 0)), ((u20 1), .inl (K.2.1, 121, .inl fun _ => 0)), ((u20 2), .inl (K.2.1, 121, .inl fun _ => 0)), ((u20 3), .inl (K.2.2.1, 121, .inr (.inl fun _ => 0))), (q27, .inr (4, [.ref q16, .ref (u35 0), .ref (u35 1), .ref (u35 2), .ref (u35 3), .ref (u35 4), .ref (u35 5), .ref (u35 6), .int 0, .int 0])), ((u35 0), .inl (K.2.1, 121, .inl fun _ => 0)), ((u35 1), .inl (K.2.1, 121, .inl fun _ => 0)), ((u35 2), .inl (K.2.1, 121, .inl fun _ => 0)), ((u35 3), .inl (K.2.1, 121, .inl fun _ => 0)), ((u35 4), .inl (K.2.1, 31, .inl fun _ => 0)), ((u35 5), .inl (K.2.1, 30, .inl fun _ => 0)), ((u35 6), .inl (K.2.1, 121, .inl fun _ => 0)), (q42, .inr (5, [.ref (u46 0), .int (-1)])), ((u46 0), .inl (K.2.1, 121, .inl fun _ => 0)), (q53, .inr (6, [.ref q16, .ref q27, .ref q42, .ref (u69 0), .int 0, .int 0, .int 0, .int 0])), ((u69 0), .inl (K.2.1, 8, .inl fun _ => 0)), (q76, .inr (7, [.ref q16, .ref q27, .ref q42, .ref (u92 0), .int 0, .int 0])), ((u92 0), .inl (K.2.1, 30, .inl fun _ => 0))]) (w1 := [(q99, .inr (8, [.ref q16, .ref q27, .ref q42, .ref (u115 0), .ref (u115 1), .ref (u115 2), .ref (u115 3), .ref (u115 4), .ref (u115 5), .int 0, .int 0, .int 0, .int 0, .int 0, .int 0])), ((u115 0), .inl (K.2.1, 9, .inl fun _ => 0)), ((u115 1), .inl (K.2.1, 9, .inl fun _ => 0)), ((u115 2), .inl (K.2.1, 9, .inl fun _ => 0)), ((u115 3), .inl (K.2.1, 9, .inl fun _ => 0)), ((u115 4), .inl (K.2.1, 9, .inl fun _ => 0)), ((u115 5), .inl (K.2.2.2, 9, .inl fun _ => 0))]) hP hD [22] [0, 1, 2, 3, 4, 5, 6, 7, 8, 9, 10, 11, 12, 13, 14, 15, 16, 17, 18, 19, 20, 21] rfl rfl (by decide) (by decide) hk1 hFc hP1 hD1
  generalize H1 = H at hP hS ⊢
  have hP : va_P K.1 vwCl [(q0, .inr (1, [.ref q5, .ref q16, .ref q27, .ref q42, .ref q53, .ref q76, .null, .int 0])), (q5, .inr (2, [.ref (u9 0), .int 0])), ((u9 0), .inl (K.2.1, 240, .inl fun _ => 0)), (q16, .inr (3, [.ref (u20 0), .ref (u20 1), .ref (u20 2), .ref (u20 3), .int 0])), ((u20 0), .inl (K.2.1, 121, .inl fun _ => 0)), ((u20 1), .inl (K.2.1, 121, .inl fun _ => 0)), ((u20 2), .inl (K.2.1, 121, .inl fun _ => 0)), ((u20 3), .inl (K.2.2.1, 121, .inr (.inl fun _ => 0))), (q27, .inr (4, [.ref q16, .ref (u35 0), .ref (u35 1), .ref (u35 2), .ref (u35 3), .ref (u35 4), .ref (u35 5), .ref (u35 6), .int 0, .int 0])), ((u35 0), .inl (K.2.1, 121, .inl fun _ => 0)), ((u35 1), .inl (K.2.1, 121, .inl fun _ => 0)), ((u35 2), .inl (K.2.1, 121, .inl fun _ => 0)), ((u35 3), .inl (K.2.1, 121, .inl fun _ => 0)), ((u35 4), .inl (K.2.1, 31, .inl fun _ => 0)), ((u35 5), .inl (K.2.1, 30, .inl fun _ => 0)), ((u35 6), .inl (K.2.1, 121, .inl fun _ => 0)), (q42, .inr (5, [.ref (u46 0), .int (-1)])), ((u46 0), .inl (K.2.1, 121, .inl fun _ => 0)), (q53, .inr (6, [.ref q16, .ref q27, .ref q42, .ref (u69 0), .int 0, .int 0, .int 0, .int 0])), ((u69 0), .inl (K.2.1, 8, .inl fun _ => 0)), (q76, .inr (7, [.ref q16, .ref q27, .ref q42, .ref (u92 0), .int 0, .int 0])), ((u92 0), .inl (K.2.1, 30, .inl fun _ => 0)), (q99, .inr (8, [.ref q16, .ref q27, .ref q42, .ref (u115 0), .ref (u115 1), .ref (u115 2), .ref (u115 3), .ref (u115 4), .ref (u115 5), .int 0, .int 0, .int 0, .int 0, .int 0, .int 0])), ((u115 0), .inl (K.2.1, 9, .inl fun _ => 0)), ((u115 1), .inl (K.2.1, 9, .inl fun _ => 0)), ((u115 2), .inl (K.2.1, 9, .inl fun _ => 0)), ((u115 3), .inl (K.2.1, 9, .inl fun _ => 0)), ((u115 4), .inl (K.2.1, 9, .inl fun _ => 0)), ((u115 5), .inl (K.2.2.2, 9, .inl fun _ => 0))] H := hP
  have hD : va_D A [(q0, .inr (1, [.ref q5, .ref q16, .ref q27, .ref q42, .ref q53, .ref q76, .null, .int 0])), (q5, .inr (2, [.ref (u9 0), .int 0])), ((u9 0), .inl (K.2.1, 240, .inl fun _ => 0)), (q16, .inr (3, [.ref (u20 0), .ref (u20 1), .ref (u20 2), .ref (u20 3), .int 0])), ((u20 0), .inl (K.2.1, 121, .inl fun _ => 0)), ((u20 1), .inl (K.2.1, 121, .inl fun _ => 0)), ((u20 2), .inl (K.2.1, 121, .inl fun _ => 0)), ((u20 3), .inl (K.2.2.1, 121, .inr (.inl fun _ => 0))), (q27, .inr (4, [.ref q16, .ref (u35 0), .ref (u35 1), .ref (u35 2), .ref (u35 3), .ref (u35 4), .ref (u35 5), .ref (u35 6), .int 0, .int 0])), ((u35 0), .inl (K.2.1, 121, .inl fun _ => 0)), ((u35 1), .inl (K.2.1, 121, .inl fun _ => 0)), ((u35 2), .inl (K.2.1, 121, .inl fun _ => 0)), ((u35 3), .inl (K.2.1, 121, .inl fun _ => 0)), ((u35 4), .inl (K.2.1, 31, .inl fun _ => 0)), ((u35 5), .inl (K.2.1, 30, .inl fun _ => 0)), ((u35 6), .inl (K.2.1, 121, .inl fun _ => 0)), (q42, .inr (5, [.ref (u46 0), .int (-1)])), ((u46 0), .inl (K.2.1, 121, .inl fun _ => 0)), (q53, .inr (6, [.ref q16, .ref q27, .ref q42, .ref (u69 0), .int 0, .int 0, .int 0, .int 0])), ((u69 0), .inl (K.2.1, 8, .inl fun _ => 0)), (q76, .inr (7, [.ref q16, .ref q27, .ref q42, .ref (u92 0), .int 0, .int 0])), ((u92 0), .inl (K.2.1, 30, .inl fun _ => 0)), (q99, .inr (8, [.ref q16, .ref q27, .ref q42, .ref (u115 0), .ref (u115 1), .ref (u115 2), .ref (u115 3), .ref (u115 4), .ref (u115 5), .int 0, .int 0, .int 0, .int 0, .int 0, .int 0])), ((u115 0), .inl (K.2.1, 9, .inl fun _ => 0)), ((u115 1), .inl (K.2.1, 9, .inl fun _ => 0)), ((u115 2), .inl (K.2.1, 9, .inl fun _ => 0)), ((u115 3), .inl (K.2.1, 9, .inl fun _ => 0)), ((u115 4), .inl (K.2.1, 9, .inl fun _ => 0)), ((u115 5), .inl (K.2.2.2, 9, .inl fun _ => 0))] := hD
  refine va_putF (D := K.1) (ci := 1) (v := .ref q99) (ty := .object "LanguageServer$Judge") (C := "LanguageServer$Reading") (T := T_Reading) (N := 8) hx hb hg in_Reading t_Reading t_Reading_ok n_Reading hown hK.1 hP hD hS 0 rfl rfl 6 (by decide) (hg _ wd_279) (fun _ h9 => h9) rfl hin rfl (by decide +kernel) rfl rfl (Nat.le_of_ble_eq_true rfl) d_Reading_init_118 (fun H locs hP hD hS => ?_)
  have hP : va_P K.1 vwCl [(q0, .inr (1, [.ref q5, .ref q16, .ref q27, .ref q42, .ref q53, .ref q76, .ref q99, .int 0])), (q5, .inr (2, [.ref (u9 0), .int 0])), ((u9 0), .inl (K.2.1, 240, .inl fun _ => 0)), (q16, .inr (3, [.ref (u20 0), .ref (u20 1), .ref (u20 2), .ref (u20 3), .int 0])), ((u20 0), .inl (K.2.1, 121, .inl fun _ => 0)), ((u20 1), .inl (K.2.1, 121, .inl fun _ => 0)), ((u20 2), .inl (K.2.1, 121, .inl fun _ => 0)), ((u20 3), .inl (K.2.2.1, 121, .inr (.inl fun _ => 0))), (q27, .inr (4, [.ref q16, .ref (u35 0), .ref (u35 1), .ref (u35 2), .ref (u35 3), .ref (u35 4), .ref (u35 5), .ref (u35 6), .int 0, .int 0])), ((u35 0), .inl (K.2.1, 121, .inl fun _ => 0)), ((u35 1), .inl (K.2.1, 121, .inl fun _ => 0)), ((u35 2), .inl (K.2.1, 121, .inl fun _ => 0)), ((u35 3), .inl (K.2.1, 121, .inl fun _ => 0)), ((u35 4), .inl (K.2.1, 31, .inl fun _ => 0)), ((u35 5), .inl (K.2.1, 30, .inl fun _ => 0)), ((u35 6), .inl (K.2.1, 121, .inl fun _ => 0)), (q42, .inr (5, [.ref (u46 0), .int (-1)])), ((u46 0), .inl (K.2.1, 121, .inl fun _ => 0)), (q53, .inr (6, [.ref q16, .ref q27, .ref q42, .ref (u69 0), .int 0, .int 0, .int 0, .int 0])), ((u69 0), .inl (K.2.1, 8, .inl fun _ => 0)), (q76, .inr (7, [.ref q16, .ref q27, .ref q42, .ref (u92 0), .int 0, .int 0])), ((u92 0), .inl (K.2.1, 30, .inl fun _ => 0)), (q99, .inr (8, [.ref q16, .ref q27, .ref q42, .ref (u115 0), .ref (u115 1), .ref (u115 2), .ref (u115 3), .ref (u115 4), .ref (u115 5), .int 0, .int 0, .int 0, .int 0, .int 0, .int 0])), ((u115 0), .inl (K.2.1, 9, .inl fun _ => 0)), ((u115 1), .inl (K.2.1, 9, .inl fun _ => 0)), ((u115 2), .inl (K.2.1, 9, .inl fun _ => 0)), ((u115 3), .inl (K.2.1, 9, .inl fun _ => 0)), ((u115 4), .inl (K.2.1, 9, .inl fun _ => 0)), ((u115 5), .inl (K.2.2.2, 9, .inl fun _ => 0))] H := hP
  have hD : va_D A [(q0, .inr (1, [.ref q5, .ref q16, .ref q27, .ref q42, .ref q53, .ref q76, .ref q99, .int 0])), (q5, .inr (2, [.ref (u9 0), .int 0])), ((u9 0), .inl (K.2.1, 240, .inl fun _ => 0)), (q16, .inr (3, [.ref (u20 0), .ref (u20 1), .ref (u20 2), .ref (u20 3), .int 0])), ((u20 0), .inl (K.2.1, 121, .inl fun _ => 0)), ((u20 1), .inl (K.2.1, 121, .inl fun _ => 0)), ((u20 2), .inl (K.2.1, 121, .inl fun _ => 0)), ((u20 3), .inl (K.2.2.1, 121, .inr (.inl fun _ => 0))), (q27, .inr (4, [.ref q16, .ref (u35 0), .ref (u35 1), .ref (u35 2), .ref (u35 3), .ref (u35 4), .ref (u35 5), .ref (u35 6), .int 0, .int 0])), ((u35 0), .inl (K.2.1, 121, .inl fun _ => 0)), ((u35 1), .inl (K.2.1, 121, .inl fun _ => 0)), ((u35 2), .inl (K.2.1, 121, .inl fun _ => 0)), ((u35 3), .inl (K.2.1, 121, .inl fun _ => 0)), ((u35 4), .inl (K.2.1, 31, .inl fun _ => 0)), ((u35 5), .inl (K.2.1, 30, .inl fun _ => 0)), ((u35 6), .inl (K.2.1, 121, .inl fun _ => 0)), (q42, .inr (5, [.ref (u46 0), .int (-1)])), ((u46 0), .inl (K.2.1, 121, .inl fun _ => 0)), (q53, .inr (6, [.ref q16, .ref q27, .ref q42, .ref (u69 0), .int 0, .int 0, .int 0, .int 0])), ((u69 0), .inl (K.2.1, 8, .inl fun _ => 0)), (q76, .inr (7, [.ref q16, .ref q27, .ref q42, .ref (u92 0), .int 0, .int 0])), ((u92 0), .inl (K.2.1, 30, .inl fun _ => 0)), (q99, .inr (8, [.ref q16, .ref q27, .ref q42, .ref (u115 0), .ref (u115 1), .ref (u115 2), .ref (u115 3), .ref (u115 4), .ref (u115 5), .int 0, .int 0, .int 0, .int 0, .int 0, .int 0])), ((u115 0), .inl (K.2.1, 9, .inl fun _ => 0)), ((u115 1), .inl (K.2.1, 9, .inl fun _ => 0)), ((u115 2), .inl (K.2.1, 9, .inl fun _ => 0)), ((u115 3), .inl (K.2.1, 9, .inl fun _ => 0)), ((u115 4), .inl (K.2.1, 9, .inl fun _ => 0)), ((u115 5), .inl (K.2.2.2, 9, .inl fun _ => 0))] := hD
  have hP9 := hP.sub (ws' := wR K (fun k => [q0, q5, (u9 0), q16, (u20 0), (u20 1), (u20 2), (u20 3), q27, (u35 0), (u35 1), (u35 2), (u35 3), (u35 4), (u35 5), (u35 6), q42, (u46 0), q53, (u69 0), q76, (u92 0), q99, (u115 0), (u115 1), (u115 2), (u115 3), (u115 4), (u115 5)].getD k 0) σR) [0, 1, 2, 3, 4, 5, 6, 7, 8, 9, 10, 11, 12, 13, 14, 15, 16, 17, 18, 19, 20, 21, 22, 23, 24, 25, 26, 27, 28] rfl
  have hD9 := hD.sub (ws' := wR K (fun k => [q0, q5, (u9 0), q16, (u20 0), (u20 1), (u20 2), (u20 3), q27, (u35 0), (u35 1), (u35 2), (u35 3), (u35 4), (u35 5), (u35 6), q42, (u46 0), q53, (u69 0), q76, (u92 0), q99, (u115 0), (u115 1), (u115 2), (u115 3), (u115 4), (u115 5)].getD k 0) σR) [0, 1, 2, 3, 4, 5, 6, 7, 8, 9, 10, 11, 12, 13, 14, 15, 16, 17, 18, 19, 20, 21, 22, 23, 24, 25, 26, 27, 28] (by decide) rfl
  exact W.vret hx hb hr (fun t ht hW => ⟨⟨fun k => [q0, q5, (u9 0), q16, (u20 0), (u20 1), (u20 2), (u20 3), q27, (u35 0), (u35 1), (u35 2), (u35 3), (u35 4), (u35 5), (u35 6), q42, (u46 0), q53, (u69 0), q76, (u92 0), q99, (u115 0), (u115 1), (u115 2), (u115 3), (u115 4), (u115 5)].getD k 0, rfl, rfl, by show va_P K.1 vwCl _ t.heap; rw [ht]; exact hP9, hD9⟩, hS.F ht⟩) hS.2.2 d_Reading_init_121
