theorem wd_11 : (Jvm.Cond.initialized "java/lang/Throwable") ∈ Tg := tg_1 (i := 11) rfl rfl
theorem wd_14 : (Jvm.Cond.initialized "java/lang/IllegalArgumentException") ∈ Tg := tg_1 (i := 14) rfl rfl
theorem wd_15 : (Jvm.Cond.initialized "java/lang/IllegalStateException") ∈ Tg := tg_1 (i := 15) rfl rfl
theorem wd_17 : (Jvm.Cond.initialized "java/util/NoSuchElementException") ∈ Tg := tg_1 (i := 17) rfl rfl
theorem wd_27 : (Jvm.Cond.instanceMethod ({ cls := "java/lang/Object", name := "<init>", desc := "()V" } : Jvm.MethodName)) ∈ Tg := tg_1 (i := 27) rfl rfl
theorem wd_28 : (Jvm.Cond.code ({ cls := "java/lang/Object", name := "<init>", desc := "()V" } : Jvm.MethodName) object_method_1_code (1 : Nat) (Option.none : Option Jvm.ClassFile.FieldType)) ∈ Tg := tg_1 (i := 28) rfl rfl
theorem wd_606 : (Jvm.Cond.classLink "LanguageServer" (33 : Nat) "java/lang/IllegalArgumentException") ∈ Tg := tg_3 (i := 126) rfl rfl
theorem wd_607 : (Jvm.Cond.instantiable "java/lang/IllegalArgumentException" (6 : Nat)) ∈ Tg := tg_3 (i := 127) rfl rfl
theorem wd_615 : (Jvm.Cond.selects "java/lang/IllegalArgumentException" ({ cls := "java/lang/Throwable", name := "fillInStackTrace", desc := "(I)Ljava/lang/Throwable;" } : Jvm.MethodName) ({ cls := "java/lang/Throwable", name := "fillInStackTrace", desc := "(I)Ljava/lang/Throwable;" } : Jvm.MethodName)) ∈ Tg := tg_3 (i := 135) rfl rfl
theorem wd_616 : (Jvm.Cond.selects "java/lang/IllegalArgumentException" ({ cls := "java/lang/Throwable", name := "fillInStackTrace", desc := "()Ljava/lang/Throwable;" } : Jvm.MethodName) ({ cls := "java/lang/Throwable", name := "fillInStackTrace", desc := "()Ljava/lang/Throwable;" } : Jvm.MethodName)) ∈ Tg := tg_3 (i := 136) rfl rfl
theorem wd_617 : (Jvm.Cond.lays "java/lang/IllegalArgumentException" "java/lang/Throwable" "cause" "Ljava/lang/Throwable;") ∈ Tg := tg_3 (i := 137) rfl rfl
theorem wd_618 : (Jvm.Cond.lays "java/lang/Throwable" "java/lang/Throwable" "cause" "Ljava/lang/Throwable;") ∈ Tg := tg_3 (i := 138) rfl rfl
theorem wd_619 : (Jvm.Cond.lays "java/lang/IllegalArgumentException" "java/lang/Throwable" "stackTrace" "[Ljava/lang/StackTraceElement;") ∈ Tg := tg_3 (i := 139) rfl rfl
theorem wd_620 : (Jvm.Cond.lays "java/lang/Throwable" "java/lang/Throwable" "stackTrace" "[Ljava/lang/StackTraceElement;") ∈ Tg := tg_3 (i := 140) rfl rfl
theorem wd_621 : (Jvm.Cond.lays "java/lang/IllegalArgumentException" "java/lang/Throwable" "suppressedExceptions" "Ljava/util/List;") ∈ Tg := tg_3 (i := 141) rfl rfl
theorem wd_622 : (Jvm.Cond.lays "java/lang/Throwable" "java/lang/Throwable" "suppressedExceptions" "Ljava/util/List;") ∈ Tg := tg_3 (i := 142) rfl rfl
theorem wd_623 : (Jvm.Cond.lays "java/lang/IllegalArgumentException" "java/lang/Throwable" "detailMessage" "Ljava/lang/String;") ∈ Tg := tg_3 (i := 143) rfl rfl
theorem wd_624 : (Jvm.Cond.lays "java/lang/Throwable" "java/lang/Throwable" "detailMessage" "Ljava/lang/String;") ∈ Tg := tg_3 (i := 144) rfl rfl
theorem wd_625 : (Jvm.Cond.lays "java/lang/IllegalArgumentException" "java/lang/Throwable" "backtrace" "Ljava/lang/Object;") ∈ Tg := tg_3 (i := 145) rfl rfl
theorem wd_626 : (Jvm.Cond.lays "java/lang/Throwable" "java/lang/Throwable" "backtrace" "Ljava/lang/Object;") ∈ Tg := tg_3 (i := 146) rfl rfl
theorem wd_628 : (Jvm.Cond.superclass "java/lang/Throwable" "java/lang/Object") ∈ Tg := tg_3 (i := 148) rfl rfl
theorem wd_629 : (Jvm.Cond.instanceMethod ({ cls := "java/lang/Throwable", name := "<init>", desc := "()V" } : Jvm.MethodName)) ∈ Tg := tg_3 (i := 149) rfl rfl
theorem wd_630 : (Jvm.Cond.code ({ cls := "java/lang/Throwable", name := "<init>", desc := "()V" } : Jvm.MethodName) prog_22_method_1_code (1 : Nat) (Option.none : Option Jvm.ClassFile.FieldType)) ∈ Tg := tg_3 (i := 150) rfl rfl
theorem wd_631 : (Jvm.Cond.methodLink "java/lang/Throwable" (1 : Nat) ({ cls := "java/lang/Object", name := "<init>", desc := "()V" } : Jvm.MethodName)) ∈ Tg := tg_3 (i := 151) rfl rfl
theorem wd_632 : (Jvm.Cond.fieldLink "java/lang/Throwable" (13 : Nat) "java/lang/Throwable" "UNASSIGNED_STACK" "[Ljava/lang/StackTraceElement;") ∈ Tg := tg_3 (i := 152) rfl rfl
theorem wd_634 : (Jvm.Cond.fieldLink "java/lang/Throwable" (20 : Nat) "java/lang/Throwable" "SUPPRESSED_SENTINEL" "Ljava/util/List;") ∈ Tg := tg_3 (i := 154) rfl rfl
theorem wd_636 : (Jvm.Cond.methodLink "java/lang/Throwable" (27 : Nat) ({ cls := "java/lang/Throwable", name := "fillInStackTrace", desc := "()Ljava/lang/Throwable;" } : Jvm.MethodName)) ∈ Tg := tg_3 (i := 156) rfl rfl
theorem wd_637 : (Jvm.Cond.instanceMethod ({ cls := "java/lang/Throwable", name := "fillInStackTrace", desc := "()Ljava/lang/Throwable;" } : Jvm.MethodName)) ∈ Tg := tg_3 (i := 157) rfl rfl
theorem wd_639 : (Jvm.Cond.selects "java/lang/IllegalStateException" ({ cls := "java/lang/Throwable", name := "fillInStackTrace", desc := "()Ljava/lang/Throwable;" } : Jvm.MethodName) ({ cls := "java/lang/Throwable", name := "fillInStackTrace", desc := "()Ljava/lang/Throwable;" } : Jvm.MethodName)) ∈ Tg := tg_3 (i := 159) rfl rfl
theorem wd_640 : (Jvm.Cond.selects "java/util/NoSuchElementException" ({ cls := "java/lang/Throwable", name := "fillInStackTrace", desc := "()Ljava/lang/Throwable;" } : Jvm.MethodName) ({ cls := "java/lang/Throwable", name := "fillInStackTrace", desc := "()Ljava/lang/Throwable;" } : Jvm.MethodName)) ∈ Tg := tg_3 (i := 160) rfl rfl
theorem wd_641 : (Jvm.Cond.codeSync ({ cls := "java/lang/Throwable", name := "fillInStackTrace", desc := "()Ljava/lang/Throwable;" } : Jvm.MethodName) prog_22_method_18_code (1 : Nat) (Option.some (Jvm.ClassFile.FieldType.object "java/lang/Throwable"))) ∈ Tg := tg_3 (i := 161) rfl rfl
theorem wd_642 : (Jvm.Cond.methodLink "java/lang/Throwable" (202 : Nat) ({ cls := "java/lang/Throwable", name := "fillInStackTrace", desc := "(I)Ljava/lang/Throwable;" } : Jvm.MethodName)) ∈ Tg := tg_3 (i := 162) rfl rfl
theorem wd_644 : (Jvm.Cond.instanceMethod ({ cls := "java/lang/Throwable", name := "fillInStackTrace", desc := "(I)Ljava/lang/Throwable;" } : Jvm.MethodName)) ∈ Tg := tg_3 (i := 164) rfl rfl
theorem wd_646 : (Jvm.Cond.native ({ cls := "java/lang/Throwable", name := "fillInStackTrace", desc := "(I)Ljava/lang/Throwable;" } : Jvm.MethodName)) ∈ Tg := tg_3 (i := 166) rfl rfl
theorem wd_648 : (Jvm.Cond.methodLink "LanguageServer" (37 : Nat) ({ cls := "java/lang/IllegalArgumentException", name := "<init>", desc := "(Ljava/lang/String;)V" } : Jvm.MethodName)) ∈ Tg := tg_3 (i := 168) rfl rfl
theorem wd_649 : (Jvm.Cond.instanceMethod ({ cls := "java/lang/IllegalArgumentException", name := "<init>", desc := "(Ljava/lang/String;)V" } : Jvm.MethodName)) ∈ Tg := tg_3 (i := 169) rfl rfl
theorem wd_650 : (Jvm.Cond.code ({ cls := "java/lang/IllegalArgumentException", name := "<init>", desc := "(Ljava/lang/String;)V" } : Jvm.MethodName) prog_15_method_2_code (2 : Nat) (Option.none : Option Jvm.ClassFile.FieldType)) ∈ Tg := tg_3 (i := 170) rfl rfl
theorem wd_651 : (Jvm.Cond.methodLink "java/lang/IllegalArgumentException" (7 : Nat) ({ cls := "java/lang/RuntimeException", name := "<init>", desc := "(Ljava/lang/String;)V" } : Jvm.MethodName)) ∈ Tg := tg_3 (i := 171) rfl rfl
theorem wd_652 : (Jvm.Cond.instanceMethod ({ cls := "java/lang/RuntimeException", name := "<init>", desc := "(Ljava/lang/String;)V" } : Jvm.MethodName)) ∈ Tg := tg_3 (i := 172) rfl rfl
theorem wd_653 : (Jvm.Cond.code ({ cls := "java/lang/RuntimeException", name := "<init>", desc := "(Ljava/lang/String;)V" } : Jvm.MethodName) prog_19_method_2_code (2 : Nat) (Option.none : Option Jvm.ClassFile.FieldType)) ∈ Tg := tg_3 (i := 173) rfl rfl
theorem wd_654 : (Jvm.Cond.methodLink "java/lang/RuntimeException" (7 : Nat) ({ cls := "java/lang/Exception", name := "<init>", desc := "(Ljava/lang/String;)V" } : Jvm.MethodName)) ∈ Tg := tg_3 (i := 174) rfl rfl
theorem wd_655 : (Jvm.Cond.instanceMethod ({ cls := "java/lang/Exception", name := "<init>", desc := "(Ljava/lang/String;)V" } : Jvm.MethodName)) ∈ Tg := tg_3 (i := 175) rfl rfl
theorem wd_656 : (Jvm.Cond.code ({ cls := "java/lang/Exception", name := "<init>", desc := "(Ljava/lang/String;)V" } : Jvm.MethodName) prog_14_method_2_code (2 : Nat) (Option.none : Option Jvm.ClassFile.FieldType)) ∈ Tg := tg_3 (i := 176) rfl rfl
theorem wd_657 : (Jvm.Cond.methodLink "java/lang/Exception" (7 : Nat) ({ cls := "java/lang/Throwable", name := "<init>", desc := "(Ljava/lang/String;)V" } : Jvm.MethodName)) ∈ Tg := tg_3 (i := 177) rfl rfl
theorem wd_658 : (Jvm.Cond.instanceMethod ({ cls := "java/lang/Throwable", name := "<init>", desc := "(Ljava/lang/String;)V" } : Jvm.MethodName)) ∈ Tg := tg_3 (i := 178) rfl rfl
theorem wd_659 : (Jvm.Cond.code ({ cls := "java/lang/Throwable", name := "<init>", desc := "(Ljava/lang/String;)V" } : Jvm.MethodName) prog_22_method_2_code (2 : Nat) (Option.none : Option Jvm.ClassFile.FieldType)) ∈ Tg := tg_3 (i := 179) rfl rfl
theorem wd_660 : (Jvm.Cond.fieldLink "java/lang/Throwable" (198 : Nat) "java/lang/Throwable" "backtrace" "Ljava/lang/Object;") ∈ Tg := tg_3 (i := 180) rfl rfl
theorem wd_661 : (Jvm.Cond.fieldLink "java/lang/Throwable" (31 : Nat) "java/lang/Throwable" "detailMessage" "Ljava/lang/String;") ∈ Tg := tg_3 (i := 181) rfl rfl
theorem wd_662 : (Jvm.Cond.fieldLink "java/lang/Throwable" (7 : Nat) "java/lang/Throwable" "cause" "Ljava/lang/Throwable;") ∈ Tg := tg_3 (i := 182) rfl rfl
theorem wd_663 : (Jvm.Cond.fieldLink "java/lang/Throwable" (17 : Nat) "java/lang/Throwable" "stackTrace" "[Ljava/lang/StackTraceElement;") ∈ Tg := tg_3 (i := 183) rfl rfl
theorem wd_664 : (Jvm.Cond.fieldLink "java/lang/Throwable" (24 : Nat) "java/lang/Throwable" "suppressedExceptions" "Ljava/util/List;") ∈ Tg := tg_3 (i := 184) rfl rfl
theorem wd_674 : (Jvm.Cond.classLink "LanguageServer" (40 : Nat) "java/lang/IllegalStateException") ∈ Tg := tg_3 (i := 194) rfl rfl
theorem wd_675 : (Jvm.Cond.instantiable "java/lang/IllegalStateException" (6 : Nat)) ∈ Tg := tg_3 (i := 195) rfl rfl
theorem wd_677 : (Jvm.Cond.selects "java/lang/IllegalStateException" ({ cls := "java/lang/Throwable", name := "fillInStackTrace", desc := "(I)Ljava/lang/Throwable;" } : Jvm.MethodName) ({ cls := "java/lang/Throwable", name := "fillInStackTrace", desc := "(I)Ljava/lang/Throwable;" } : Jvm.MethodName)) ∈ Tg := tg_3 (i := 197) rfl rfl
theorem wd_678 : (Jvm.Cond.lays "java/lang/IllegalStateException" "java/lang/Throwable" "cause" "Ljava/lang/Throwable;") ∈ Tg := tg_3 (i := 198) rfl rfl
theorem wd_679 : (Jvm.Cond.lays "java/lang/IllegalStateException" "java/lang/Throwable" "stackTrace" "[Ljava/lang/StackTraceElement;") ∈ Tg := tg_3 (i := 199) rfl rfl
theorem wd_680 : (Jvm.Cond.lays "java/lang/IllegalStateException" "java/lang/Throwable" "suppressedExceptions" "Ljava/util/List;") ∈ Tg := tg_3 (i := 200) rfl rfl
theorem wd_681 : (Jvm.Cond.lays "java/lang/IllegalStateException" "java/lang/Throwable" "detailMessage" "Ljava/lang/String;") ∈ Tg := tg_3 (i := 201) rfl rfl
theorem wd_682 : (Jvm.Cond.lays "java/lang/IllegalStateException" "java/lang/Throwable" "backtrace" "Ljava/lang/Object;") ∈ Tg := tg_3 (i := 202) rfl rfl
theorem wd_684 : (Jvm.Cond.methodLink "LanguageServer" (44 : Nat) ({ cls := "java/lang/IllegalStateException", name := "<init>", desc := "(Ljava/lang/String;)V" } : Jvm.MethodName)) ∈ Tg := tg_3 (i := 204) rfl rfl
theorem wd_685 : (Jvm.Cond.instanceMethod ({ cls := "java/lang/IllegalStateException", name := "<init>", desc := "(Ljava/lang/String;)V" } : Jvm.MethodName)) ∈ Tg := tg_3 (i := 205) rfl rfl
theorem wd_686 : (Jvm.Cond.code ({ cls := "java/lang/IllegalStateException", name := "<init>", desc := "(Ljava/lang/String;)V" } : Jvm.MethodName) prog_16_method_2_code (2 : Nat) (Option.none : Option Jvm.ClassFile.FieldType)) ∈ Tg := tg_3 (i := 206) rfl rfl
theorem wd_687 : (Jvm.Cond.methodLink "java/lang/IllegalStateException" (7 : Nat) ({ cls := "java/lang/RuntimeException", name := "<init>", desc := "(Ljava/lang/String;)V" } : Jvm.MethodName)) ∈ Tg := tg_3 (i := 207) rfl rfl
theorem wd_745 : (Jvm.Cond.classLink "LanguageServer" (69 : Nat) "java/util/NoSuchElementException") ∈ Tg := tg_4 (i := 25) rfl rfl
theorem wd_746 : (Jvm.Cond.instantiable "java/util/NoSuchElementException" (6 : Nat)) ∈ Tg := tg_4 (i := 26) rfl rfl
theorem wd_748 : (Jvm.Cond.selects "java/util/NoSuchElementException" ({ cls := "java/lang/Throwable", name := "fillInStackTrace", desc := "(I)Ljava/lang/Throwable;" } : Jvm.MethodName) ({ cls := "java/lang/Throwable", name := "fillInStackTrace", desc := "(I)Ljava/lang/Throwable;" } : Jvm.MethodName)) ∈ Tg := tg_4 (i := 28) rfl rfl
theorem wd_749 : (Jvm.Cond.lays "java/util/NoSuchElementException" "java/lang/Throwable" "cause" "Ljava/lang/Throwable;") ∈ Tg := tg_4 (i := 29) rfl rfl
theorem wd_750 : (Jvm.Cond.lays "java/util/NoSuchElementException" "java/lang/Throwable" "stackTrace" "[Ljava/lang/StackTraceElement;") ∈ Tg := tg_4 (i := 30) rfl rfl
theorem wd_751 : (Jvm.Cond.lays "java/util/NoSuchElementException" "java/lang/Throwable" "suppressedExceptions" "Ljava/util/List;") ∈ Tg := tg_4 (i := 31) rfl rfl
theorem wd_752 : (Jvm.Cond.lays "java/util/NoSuchElementException" "java/lang/Throwable" "detailMessage" "Ljava/lang/String;") ∈ Tg := tg_4 (i := 32) rfl rfl
theorem wd_753 : (Jvm.Cond.lays "java/util/NoSuchElementException" "java/lang/Throwable" "backtrace" "Ljava/lang/Object;") ∈ Tg := tg_4 (i := 33) rfl rfl
theorem wd_755 : (Jvm.Cond.methodLink "LanguageServer" (73 : Nat) ({ cls := "java/util/NoSuchElementException", name := "<init>", desc := "(Ljava/lang/String;)V" } : Jvm.MethodName)) ∈ Tg := tg_4 (i := 35) rfl rfl
theorem wd_756 : (Jvm.Cond.instanceMethod ({ cls := "java/util/NoSuchElementException", name := "<init>", desc := "(Ljava/lang/String;)V" } : Jvm.MethodName)) ∈ Tg := tg_4 (i := 36) rfl rfl
theorem wd_757 : (Jvm.Cond.code ({ cls := "java/util/NoSuchElementException", name := "<init>", desc := "(Ljava/lang/String;)V" } : Jvm.MethodName) prog_24_method_4_code (2 : Nat) (Option.none : Option Jvm.ClassFile.FieldType)) ∈ Tg := tg_4 (i := 37) rfl rfl
theorem wd_758 : (Jvm.Cond.methodLink "java/util/NoSuchElementException" (13 : Nat) ({ cls := "java/lang/RuntimeException", name := "<init>", desc := "(Ljava/lang/String;)V" } : Jvm.MethodName)) ∈ Tg := tg_4 (i := 38) rfl rfl
def xkC : List String := ["java/lang/IllegalArgumentException", "java/lang/IllegalStateException", "java/util/NoSuchElementException"]
def xkD : List MethodName := [⟨"java/lang/RuntimeException", "<init>", "()V"⟩, ⟨"java/lang/RuntimeException", "<init>", "(Ljava/lang/String;)V"⟩, ⟨"java/lang/Exception", "<init>", "()V"⟩, ⟨"java/lang/Exception", "<init>", "(Ljava/lang/String;)V"⟩, ⟨"java/lang/Throwable", "<init>", "()V"⟩, ⟨"java/lang/Throwable", "<init>", "(Ljava/lang/String;)V"⟩]
def xkS : List (Nat × String) := [(35, "no such place or code"), (42, "the text is full"), (56, "no such number of bytes or code"), (58, "the text would be too long"), (64, "not all of these places are in the text"), (71, "no character at this place"), (91, "no diagnostic at this index"), (105, "a diagnostic has a kind (0) and a place (1)"), (175, "no name with a meaning at this place"), (131, "no reference at this index"), (136, "no such class"), (141, "no member at this index"), (149, "this is no name"), (162, "the name would mean something else"), (170, "classes (0), tokens (1) and characters (2) are counted")]
/-- what the tables say that isn't among Tg -/
def XK (U : State) : Prop := (∀ q ∈ xkC, (Cond.castable q q).before #[] U = true) ∧ (∀ x ∈ xkD, (Cond.declares x).before #[] U = true) ∧ ∀ q ∈ xkS, (Cond.stringRef "LanguageServer" q.1 q.2).before #[] U = true
theorem XK.warm {s U : State} (hW : s.WarmedH U.vm) (h : XK s) : XK U :=
  ⟨fun q hq => va_Nw.warmC hW (h.1 q hq), fun x hx => va_Nw.warmD hW (h.2.1 x hx), fun q hq => Cond.stringRef_warmed (s := s) (args := #[]) hW (h.2.2 q hq)⟩
theorem XK.same {s U : State} (hv : s.vm = U.vm) (h : XK s) : XK U := h.warm (by rw [← hv]; exact State.WarmedH.refl s)
/-- a static of Throwable, laid, that holds a reference or null; its cell lies outside F -/
def xs (n d : String) (F : Nat → Prop) (U : State) (H : Heap) : Prop := ∃ (c : ClassId) (k : Class) (i : Nat) (f : Field) (a : Nat) (cell : Cell) (v : Value), U.vm.findClass "java/lang/Throwable" = some c ∧ U.fieldFound? "java/lang/Throwable" n d = some (c, k, i, f) ∧ f.isStatic = true ∧ k.statics = some a ∧ H[a]? = some cell ∧ cell.vm.isStatics = true ∧ cell.cls = c ∧ f.slot < cell.slots.size ∧ k.staticTypes[f.slot]? = some f.type ∧ cell.slots[f.slot]? = some v ∧ v.isRef = true ∧ ¬ F a
theorem xs.moved {n d : String} {F : Nat → Prop} {u U : State} {H : Heap} (hal : u.vm.Alike U.vm) (h : xs n d F u H) : xs n d F U H := by
  obtain ⟨c, k, i, f, a, cell, v, h1, h2, h3, h4, h5, h6, h7, h8, h9, h10, h11, h12⟩ := h
  obtain ⟨k', hi', hek⟩ := State.fieldFound?_setVm hal h2
  exact ⟨c, k', i, f, a, cell, v, by rw [hal.findClass]; exact h1, hi', h3, by rw [hek]; exact h4, h5, h6, h7, h8, by rw [hek]; exact h9, h10, h11, h12⟩
theorem xs.kept {n d : String} {F : Nat → Prop} {U : State} {H H1 : Heap} (h : xs n d F U H) (hk : ∀ q : Nat, q < H.size → ¬ F q → H1[q]? = H[q]?) : xs n d F U H1 := by
  obtain ⟨c, k, i, f, a, cell, v, h1, h2, h3, h4, h5, h6, h7, h8, h9, h10, h11, h12⟩ := h
  exact ⟨c, k, i, f, a, cell, v, h1, h2, h3, h4, by rw [hk a (Array.getElem?_eq_some_iff.mp h5).1 h12]; exact h5, h6, h7, h8, h9, h10, h11, h12⟩
theorem xs.narrow {n d : String} {F G : Nat → Prop} {U : State} {H : Heap} (h : xs n d F U H) (hG : ∀ q, G q → F q) : xs n d G U H := by
  obtain ⟨c, k, i, f, a, cell, v, h1, h2, h3, h4, h5, h6, h7, h8, h9, h10, h11, h12⟩ := h
  exact ⟨c, k, i, f, a, cell, v, h1, h2, h3, h4, h5, h6, h7, h8, h9, h10, h11, fun q => h12 (hG _ q)⟩
theorem xs_lays {n d : String} {F : Nat → Prop} {U : State} {args : Array Value} (h : xs n d F U U.heap) : (Cond.laysStatic "java/lang/Throwable" n d).before args U = true := by
  obtain ⟨c, k, i, f, a, cell, v, h1, h2, h3, h4, h5, h6, h7, h8, h9, h10, h11, h12⟩ := h
  exact Cond.laysStatic_of h1 h2 h3 h4 h5 h6 h7 h8 h9
theorem xs_ref {n d : String} {F : Nat → Prop} {U : State} {args : Array Value} (h : xs n d F U U.heap) : (Cond.isRef (.static "java/lang/Throwable" n d)).before args U = true := by
  obtain ⟨c, k, i, f, a, cell, v, h1, h2, h3, h4, h5, h6, h7, h8, h9, h10, h11, h12⟩ := h
  cases v <;> simp [Value.isRef] at h11 <;> simp [Cond.before, Cond.holds, Cond.value, Term.eval, State.fieldNamed?, h2, h3, h4, h5, h6, h10]
theorem xs_of {n d : String} {F : Nat → Prop} {U : State} {args : Array Value} (h1 : (Cond.laysStatic "java/lang/Throwable" n d).before args U = true) (h2 : (Cond.isRef (.static "java/lang/Throwable" n d)).before args U = true) (hF : ∀ q : Nat, q < U.heap.size → ¬ F q) : xs n d F U U.heap := by
  obtain ⟨c, k, i, f, a, cell, hc, hi, hst, ha, hcell, hs, hcls, hlt, hty⟩ := Cond.laysStatic_spec h1
  have hv : cell.slots[f.slot]? = some (cell.slots[f.slot]) := Array.getElem?_eq_getElem hlt
  refine ⟨c, k, i, f, a, cell, _, hc, hi, hst, ha, hcell, hs, hcls, hlt, hty, hv, ?_, hF a (Array.getElem?_eq_some_iff.mp hcell).1⟩
  generalize cell.slots[f.slot] = v at hv
  cases v <;> first | rfl | (simp [Cond.before, Cond.holds, Cond.value, Term.eval, State.fieldNamed?, hi, hst, ha, hcell, hs, hv] at h2)
def XZ (F : Nat → Prop) (U : State) : Prop := xs "UNASSIGNED_STACK" "[Ljava/lang/StackTraceElement;" F U U.heap ∧ xs "SUPPRESSED_SENTINEL" "Ljava/util/List;" F U U.heap
theorem XZ.to {F G : Nat → Prop} {s t : State} {H : Heap} {locs : List Loc} (h : XZ F s) (hS : va_S F s.heap H locs) (hal : s.vm.Alike t.vm) (hk : ∀ q : Nat, q < H.size → ¬ F q → t.heap[q]? = H[q]?) (hG : ∀ q, G q → F q) : XZ G t :=
  ⟨(((h.1.kept hS.2.1).kept hk).moved hal).narrow hG, (((h.2.kept hS.2.1).kept hk).moved hal).narrow hG⟩
/-- the object and its two readings -/
def wLx (K : Kst) (a u v : Nat) (A B : Nat → Nat) (σ τ : Sto) : va_W := (a, .inr (0, [.ref u, .ref v])) :: (wR K A σ ++ wR K B τ)
abbrev wL (K : Kst) (a : Nat) (A B : Nat → Nat) (σ τ : Sto) : va_W := wLx K a (A 0) (B 0) A B σ τ
def LF (a : Nat) (A B : Nat → Nat) : Nat → Prop := fun q => q = a ∨ RF A q ∨ RF B q
def LK (K : Kst) (F : Nat → Prop) (U : State) : Prop := RK K U ∧ XK U ∧ XZ F U
def LB (K : Kst) (a : Nat) (A B : Nat → Nat) (σ τ : Sto) (U : State) : Prop := va_P K.1 vwCl (wL K a A B σ τ) U.heap ∧ LK K (LF a A B) U ∧ va_D (LF a A B) (wL K a A B σ τ)
theorem L_in {K : Kst} {a u v : Nat} {A B : Nat → Nat} {σ τ : Sto} {q : Nat} (h : LF a A B q) : ∃ (k : Nat) (x : Nat × va_E), (wLx K a u v A B σ τ)[k]? = some x ∧ q = x.1 := by
  rcases h with h | h | h
  · exact ⟨0, _, rfl, h⟩
  · obtain ⟨k, x, h1, h2⟩ := wR_of (K := K) σ h
    have hk : k < (wR K A σ).length := (List.getElem?_eq_some_iff.mp h1).1
    refine ⟨k + 1, x, ?_, h2⟩
    show (wR K A σ ++ wR K B τ)[k]? = some x
    rw [List.getElem?_append_left hk]; exact h1
  · obtain ⟨k, x, h1, h2⟩ := wR_of (K := K) τ h
    refine ⟨(wR K A σ).length + k + 1, x, ?_, h2⟩
    show (wR K A σ ++ wR K B τ)[(wR K A σ).length + k]? = some x
    rw [List.getElem?_append_right (Nat.le_add_right _ _), Nat.add_sub_cancel_left]; exact h1
theorem noSt {D : va_G} {cl : List vw_C} {ws : va_W} {H : Heap} {F : Nat → Prop} (hP : va_P D cl ws H) (hF : ∀ q, F q → ∃ (k : Nat) (x : Nat × va_E), ws[k]? = some x ∧ q = x.1) : ∀ (q : Nat) (cell : Cell), H[q]? = some cell → cell.vm.isStatics = true → ¬ F q := by
  intro q cell h1 h2 h3
  obtain ⟨k, x, hx, rfl⟩ := hF q h3
  have h4 := hP k x hx
  unfold va_at at h4
  split at h4
  · rename_i e he
    rw [h1] at h4
    cases h4
    obtain ⟨cA, n, f⟩ := e
    rcases f with f | f | f | f | f <;> cases h2
  · obtain ⟨r, -, c9, h5, -, h6, -⟩ := h4
    rw [h1] at h5
    cases h5
    rw [h6] at h2
    cases h2
theorem LB_of {K : Kst} {a : Nat} {A B : Nat → Nat} {σ τ : Sto} {s t : State} {H : Heap} {locs : List Loc} (hLK : LK K (LF a A B) s) (hS : va_S (LF a A B) s.heap H locs) (hP : va_P K.1 vwCl (wL K a A B σ τ) H) (hD : va_D (LF a A B) (wL K a A B σ τ)) (hW : s.WarmedH t.vm) (hk : ∀ q : Nat, q < H.size → t.heap[q]? = H[q]?) : LB K a A B σ τ t :=
  ⟨hP.kept fun k q hq => hk _ (hP k q hq).lt, ⟨RK.warm hW hLK.1, hLK.2.1.warm hW, hLK.2.2.to hS hW.alike (fun q h _ => hk q h) (fun _ h => h)⟩, hD⟩
theorem L_blind {K : Kst} {a : Nat} {A B : Nat → Nat} {σ τ : Sto} {As : List Value} : FrameBlind (va_Pc As (LB K a A B σ τ)) := fun _ _ _ _ q => ⟨q.1, q.2.1, ⟨RK.same rfl q.2.2.1.1, XK.same rfl q.2.2.1.2.1, ⟨xs.moved (Vm.Alike.refl _) q.2.2.1.2.2.1, xs.moved (Vm.Alike.refl _) q.2.2.1.2.2.2⟩⟩, q.2.2.2⟩
abbrev Lr : Type := Nat × Int32 × Sto × Sto
def bdx (o : Option Lr) (f : Int32 → Sto → Sto → Option Lr) : Option Lr := match o with
  | none => none
  | some q => if q.1 = 0 then f q.2.1 q.2.2.1 q.2.2.2 else some q
theorem bdx_0 {o : Option Lr} {f : Int32 → Sto → Sto → Option Lr} {r : Int32 × Sto × Sto} (h : bdx o f = some (0, r)) : ∃ v σ τ, o = some (0, v, σ, τ) ∧ f v σ τ = some (0, r) := by
  cases o with
  | none => cases h
  | some q =>
    obtain ⟨k, v, σ, τ⟩ := q
    unfold bdx at h
    by_cases hk : k = 0
    · subst hk
      exact ⟨v, σ, τ, rfl, by simpa using h⟩
    · simp [hk] at h
theorem bdx_k {o : Option Lr} {f : Int32 → Sto → Sto → Option Lr} {k : Nat} {r : Int32 × Sto × Sto} (hk0 : k ≠ 0) (h : bdx o f = some (k, r)) : (∃ v σ τ, o = some (0, v, σ, τ) ∧ f v σ τ = some (k, r)) ∨ o = some (k, r) := by
  cases o with
  | none => cases h
  | some q =>
    obtain ⟨j, v, σ, τ⟩ := q
    unfold bdx at h
    by_cases hj : j = 0
    · subst hj
      exact Or.inl ⟨v, σ, τ, rfl, by simpa using h⟩
    · simp [hj] at h
      exact Or.inr (by rw [← h.2, h.1])
theorem kne {k j : Nat} {x y : Int32 × Sto × Sto} (hne : k ≠ j) (h : some ((k, x) : Lr) = some (j, y)) : False := hne (congrArg Prod.fst (Option.some.inj h))
theorem xat_IAE {args : Array Value} {s : State} {F : Nat → Prop} (hg : ∀ w ∈ Tg, w.before args s = true) (hX : XK s) (hZ : XZ F s) : ∀ w ∈ xAt "LanguageServer" 37 "java/lang/IllegalArgumentException" 7 prog_15_method_2_code, w.before args s = true := by
  refine List.forall_mem_append.mpr ⟨?_, List.forall_mem_append.mpr ⟨?_, List.forall_mem_append.mpr ⟨?_, List.forall_mem_append.mpr ⟨List.forall_mem_append.mpr ⟨?_, ?_⟩, ?_⟩⟩⟩⟩
  · exact List.forall_mem_cons.mpr ⟨hg _ wd_11, List.forall_mem_cons.mpr ⟨hg _ wd_628, List.forall_mem_cons.mpr ⟨hg _ wd_637, List.forall_mem_cons.mpr ⟨hg _ wd_641, List.forall_mem_cons.mpr ⟨hg _ wd_644, List.forall_mem_cons.mpr ⟨hg _ wd_646, List.forall_mem_cons.mpr ⟨hg _ wd_629, List.forall_mem_cons.mpr ⟨hg _ wd_630, List.forall_mem_cons.mpr ⟨hg _ wd_27, List.forall_mem_cons.mpr ⟨hg _ wd_28, List.forall_mem_cons.mpr ⟨hg _ wd_631, List.forall_mem_cons.mpr ⟨hg _ wd_636, List.forall_mem_cons.mpr ⟨hg _ wd_642, List.forall_mem_cons.mpr ⟨hg _ wd_662, List.forall_mem_cons.mpr ⟨hg _ wd_618, List.forall_mem_cons.mpr ⟨hg _ wd_663, List.forall_mem_cons.mpr ⟨hg _ wd_620, List.forall_mem_cons.mpr ⟨hg _ wd_664, List.forall_mem_cons.mpr ⟨hg _ wd_622, List.forall_mem_cons.mpr ⟨hg _ wd_632, List.forall_mem_cons.mpr ⟨xs_lays hZ.1, List.forall_mem_cons.mpr ⟨hg _ wd_634, List.forall_mem_cons.mpr ⟨xs_lays hZ.2, List.forall_mem_cons.mpr ⟨hg _ wd_624, fun _ h => absurd h List.not_mem_nil⟩⟩⟩⟩⟩⟩⟩⟩⟩⟩⟩⟩⟩⟩⟩⟩⟩⟩⟩⟩⟩⟩⟩⟩
  · exact List.forall_mem_cons.mpr ⟨hg _ wd_658, List.forall_mem_cons.mpr ⟨hg _ wd_659, List.forall_mem_cons.mpr ⟨hg _ wd_661, List.forall_mem_cons.mpr ⟨hg _ wd_624, fun _ h => absurd h List.not_mem_nil⟩⟩⟩⟩
  · exact List.forall_mem_cons.mpr ⟨hg _ wd_649, List.forall_mem_cons.mpr ⟨hg _ wd_650, List.forall_mem_cons.mpr ⟨hg _ wd_651, List.forall_mem_cons.mpr ⟨hg _ wd_652, List.forall_mem_cons.mpr ⟨hX.2.1 ⟨"java/lang/RuntimeException", "<init>", "(Ljava/lang/String;)V"⟩ (by decide), fun _ h => absurd h List.not_mem_nil⟩⟩⟩⟩⟩
  · exact List.forall_mem_cons.mpr ⟨hg _ wd_652, List.forall_mem_cons.mpr ⟨hg _ wd_653, List.forall_mem_cons.mpr ⟨hg _ wd_654, List.forall_mem_cons.mpr ⟨hg _ wd_655, List.forall_mem_cons.mpr ⟨hX.2.1 ⟨"java/lang/Exception", "<init>", "(Ljava/lang/String;)V"⟩ (by decide), fun _ h => absurd h List.not_mem_nil⟩⟩⟩⟩⟩
  · exact List.forall_mem_cons.mpr ⟨hg _ wd_655, List.forall_mem_cons.mpr ⟨hg _ wd_656, List.forall_mem_cons.mpr ⟨hg _ wd_657, List.forall_mem_cons.mpr ⟨hg _ wd_658, List.forall_mem_cons.mpr ⟨hX.2.1 ⟨"java/lang/Throwable", "<init>", "(Ljava/lang/String;)V"⟩ (by decide), fun _ h => absurd h List.not_mem_nil⟩⟩⟩⟩⟩
  · exact List.forall_mem_cons.mpr ⟨hg _ wd_648, List.forall_mem_cons.mpr ⟨hg _ wd_607, List.forall_mem_cons.mpr ⟨hg _ wd_615, List.forall_mem_cons.mpr ⟨hg _ wd_616, List.forall_mem_cons.mpr ⟨hg _ wd_617, List.forall_mem_cons.mpr ⟨hg _ wd_619, List.forall_mem_cons.mpr ⟨hg _ wd_621, List.forall_mem_cons.mpr ⟨hg _ wd_623, List.forall_mem_cons.mpr ⟨xs_ref hZ.1, List.forall_mem_cons.mpr ⟨xs_ref hZ.2, List.forall_mem_cons.mpr ⟨hg _ wd_660, List.forall_mem_cons.mpr ⟨hg _ wd_626, List.forall_mem_cons.mpr ⟨hg _ wd_625, fun _ h => absurd h List.not_mem_nil⟩⟩⟩⟩⟩⟩⟩⟩⟩⟩⟩⟩⟩
theorem dx_IAE_0 : decode prog_15_method_2_code 0 = .ok (.aload_n 0, 1) := by decide +kernel
theorem dx_IAE_1 : decode prog_15_method_2_code 1 = .ok (.aload_n 1, 1) := by decide +kernel
theorem dx_IAE_2 : decode prog_15_method_2_code 2 = .ok (.invokespecial 7, 3) := by decide +kernel
theorem dx_IAE_5 : decode prog_15_method_2_code 5 = .ok (.return_, 1) := by decide +kernel
theorem xat_ISE {args : Array Value} {s : State} {F : Nat → Prop} (hg : ∀ w ∈ Tg, w.before args s = true) (hX : XK s) (hZ : XZ F s) : ∀ w ∈ xAt "LanguageServer" 44 "java/lang/IllegalStateException" 7 prog_16_method_2_code, w.before args s = true := by
  refine List.forall_mem_append.mpr ⟨?_, List.forall_mem_append.mpr ⟨?_, List.forall_mem_append.mpr ⟨?_, List.forall_mem_append.mpr ⟨List.forall_mem_append.mpr ⟨?_, ?_⟩, ?_⟩⟩⟩⟩
  · exact List.forall_mem_cons.mpr ⟨hg _ wd_11, List.forall_mem_cons.mpr ⟨hg _ wd_628, List.forall_mem_cons.mpr ⟨hg _ wd_637, List.forall_mem_cons.mpr ⟨hg _ wd_641, List.forall_mem_cons.mpr ⟨hg _ wd_644, List.forall_mem_cons.mpr ⟨hg _ wd_646, List.forall_mem_cons.mpr ⟨hg _ wd_629, List.forall_mem_cons.mpr ⟨hg _ wd_630, List.forall_mem_cons.mpr ⟨hg _ wd_27, List.forall_mem_cons.mpr ⟨hg _ wd_28, List.forall_mem_cons.mpr ⟨hg _ wd_631, List.forall_mem_cons.mpr ⟨hg _ wd_636, List.forall_mem_cons.mpr ⟨hg _ wd_642, List.forall_mem_cons.mpr ⟨hg _ wd_662, List.forall_mem_cons.mpr ⟨hg _ wd_618, List.forall_mem_cons.mpr ⟨hg _ wd_663, List.forall_mem_cons.mpr ⟨hg _ wd_620, List.forall_mem_cons.mpr ⟨hg _ wd_664, List.forall_mem_cons.mpr ⟨hg _ wd_622, List.forall_mem_cons.mpr ⟨hg _ wd_632, List.forall_mem_cons.mpr ⟨xs_lays hZ.1, List.forall_mem_cons.mpr ⟨hg _ wd_634, List.forall_mem_cons.mpr ⟨xs_lays hZ.2, List.forall_mem_cons.mpr ⟨hg _ wd_624, fun _ h => absurd h List.not_mem_nil⟩⟩⟩⟩⟩⟩⟩⟩⟩⟩⟩⟩⟩⟩⟩⟩⟩⟩⟩⟩⟩⟩⟩⟩
  · exact List.forall_mem_cons.mpr ⟨hg _ wd_658, List.forall_mem_cons.mpr ⟨hg _ wd_659, List.forall_mem_cons.mpr ⟨hg _ wd_661, List.forall_mem_cons.mpr ⟨hg _ wd_624, fun _ h => absurd h List.not_mem_nil⟩⟩⟩⟩
  · exact List.forall_mem_cons.mpr ⟨hg _ wd_685, List.forall_mem_cons.mpr ⟨hg _ wd_686, List.forall_mem_cons.mpr ⟨hg _ wd_687, List.forall_mem_cons.mpr ⟨hg _ wd_652, List.forall_mem_cons.mpr ⟨hX.2.1 ⟨"java/lang/RuntimeException", "<init>", "(Ljava/lang/String;)V"⟩ (by decide), fun _ h => absurd h List.not_mem_nil⟩⟩⟩⟩⟩
  · exact List.forall_mem_cons.mpr ⟨hg _ wd_652, List.forall_mem_cons.mpr ⟨hg _ wd_653, List.forall_mem_cons.mpr ⟨hg _ wd_654, List.forall_mem_cons.mpr ⟨hg _ wd_655, List.forall_mem_cons.mpr ⟨hX.2.1 ⟨"java/lang/Exception", "<init>", "(Ljava/lang/String;)V"⟩ (by decide), fun _ h => absurd h List.not_mem_nil⟩⟩⟩⟩⟩
  · exact List.forall_mem_cons.mpr ⟨hg _ wd_655, List.forall_mem_cons.mpr ⟨hg _ wd_656, List.forall_mem_cons.mpr ⟨hg _ wd_657, List.forall_mem_cons.mpr ⟨hg _ wd_658, List.forall_mem_cons.mpr ⟨hX.2.1 ⟨"java/lang/Throwable", "<init>", "(Ljava/lang/String;)V"⟩ (by decide), fun _ h => absurd h List.not_mem_nil⟩⟩⟩⟩⟩
  · exact List.forall_mem_cons.mpr ⟨hg _ wd_684, List.forall_mem_cons.mpr ⟨hg _ wd_675, List.forall_mem_cons.mpr ⟨hg _ wd_677, List.forall_mem_cons.mpr ⟨hg _ wd_639, List.forall_mem_cons.mpr ⟨hg _ wd_678, List.forall_mem_cons.mpr ⟨hg _ wd_679, List.forall_mem_cons.mpr ⟨hg _ wd_680, List.forall_mem_cons.mpr ⟨hg _ wd_681, List.forall_mem_cons.mpr ⟨xs_ref hZ.1, List.forall_mem_cons.mpr ⟨xs_ref hZ.2, List.forall_mem_cons.mpr ⟨hg _ wd_660, List.forall_mem_cons.mpr ⟨hg _ wd_626, List.forall_mem_cons.mpr ⟨hg _ wd_682, fun _ h => absurd h List.not_mem_nil⟩⟩⟩⟩⟩⟩⟩⟩⟩⟩⟩⟩⟩
theorem dx_ISE_0 : decode prog_16_method_2_code 0 = .ok (.aload_n 0, 1) := by decide +kernel
theorem dx_ISE_1 : decode prog_16_method_2_code 1 = .ok (.aload_n 1, 1) := by decide +kernel
theorem dx_ISE_2 : decode prog_16_method_2_code 2 = .ok (.invokespecial 7, 3) := by decide +kernel
theorem dx_ISE_5 : decode prog_16_method_2_code 5 = .ok (.return_, 1) := by decide +kernel
theorem xat_NSE {args : Array Value} {s : State} {F : Nat → Prop} (hg : ∀ w ∈ Tg, w.before args s = true) (hX : XK s) (hZ : XZ F s) : ∀ w ∈ xAt "LanguageServer" 73 "java/util/NoSuchElementException" 13 prog_24_method_4_code, w.before args s = true := by
  refine List.forall_mem_append.mpr ⟨?_, List.forall_mem_append.mpr ⟨?_, List.forall_mem_append.mpr ⟨?_, List.forall_mem_append.mpr ⟨List.forall_mem_append.mpr ⟨?_, ?_⟩, ?_⟩⟩⟩⟩
  · exact List.forall_mem_cons.mpr ⟨hg _ wd_11, List.forall_mem_cons.mpr ⟨hg _ wd_628, List.forall_mem_cons.mpr ⟨hg _ wd_637, List.forall_mem_cons.mpr ⟨hg _ wd_641, List.forall_mem_cons.mpr ⟨hg _ wd_644, List.forall_mem_cons.mpr ⟨hg _ wd_646, List.forall_mem_cons.mpr ⟨hg _ wd_629, List.forall_mem_cons.mpr ⟨hg _ wd_630, List.forall_mem_cons.mpr ⟨hg _ wd_27, List.forall_mem_cons.mpr ⟨hg _ wd_28, List.forall_mem_cons.mpr ⟨hg _ wd_631, List.forall_mem_cons.mpr ⟨hg _ wd_636, List.forall_mem_cons.mpr ⟨hg _ wd_642, List.forall_mem_cons.mpr ⟨hg _ wd_662, List.forall_mem_cons.mpr ⟨hg _ wd_618, List.forall_mem_cons.mpr ⟨hg _ wd_663, List.forall_mem_cons.mpr ⟨hg _ wd_620, List.forall_mem_cons.mpr ⟨hg _ wd_664, List.forall_mem_cons.mpr ⟨hg _ wd_622, List.forall_mem_cons.mpr ⟨hg _ wd_632, List.forall_mem_cons.mpr ⟨xs_lays hZ.1, List.forall_mem_cons.mpr ⟨hg _ wd_634, List.forall_mem_cons.mpr ⟨xs_lays hZ.2, List.forall_mem_cons.mpr ⟨hg _ wd_624, fun _ h => absurd h List.not_mem_nil⟩⟩⟩⟩⟩⟩⟩⟩⟩⟩⟩⟩⟩⟩⟩⟩⟩⟩⟩⟩⟩⟩⟩⟩
  · exact List.forall_mem_cons.mpr ⟨hg _ wd_658, List.forall_mem_cons.mpr ⟨hg _ wd_659, List.forall_mem_cons.mpr ⟨hg _ wd_661, List.forall_mem_cons.mpr ⟨hg _ wd_624, fun _ h => absurd h List.not_mem_nil⟩⟩⟩⟩
  · exact List.forall_mem_cons.mpr ⟨hg _ wd_756, List.forall_mem_cons.mpr ⟨hg _ wd_757, List.forall_mem_cons.mpr ⟨hg _ wd_758, List.forall_mem_cons.mpr ⟨hg _ wd_652, List.forall_mem_cons.mpr ⟨hX.2.1 ⟨"java/lang/RuntimeException", "<init>", "(Ljava/lang/String;)V"⟩ (by decide), fun _ h => absurd h List.not_mem_nil⟩⟩⟩⟩⟩
  · exact List.forall_mem_cons.mpr ⟨hg _ wd_652, List.forall_mem_cons.mpr ⟨hg _ wd_653, List.forall_mem_cons.mpr ⟨hg _ wd_654, List.forall_mem_cons.mpr ⟨hg _ wd_655, List.forall_mem_cons.mpr ⟨hX.2.1 ⟨"java/lang/Exception", "<init>", "(Ljava/lang/String;)V"⟩ (by decide), fun _ h => absurd h List.not_mem_nil⟩⟩⟩⟩⟩
  · exact List.forall_mem_cons.mpr ⟨hg _ wd_655, List.forall_mem_cons.mpr ⟨hg _ wd_656, List.forall_mem_cons.mpr ⟨hg _ wd_657, List.forall_mem_cons.mpr ⟨hg _ wd_658, List.forall_mem_cons.mpr ⟨hX.2.1 ⟨"java/lang/Throwable", "<init>", "(Ljava/lang/String;)V"⟩ (by decide), fun _ h => absurd h List.not_mem_nil⟩⟩⟩⟩⟩
  · exact List.forall_mem_cons.mpr ⟨hg _ wd_755, List.forall_mem_cons.mpr ⟨hg _ wd_746, List.forall_mem_cons.mpr ⟨hg _ wd_748, List.forall_mem_cons.mpr ⟨hg _ wd_640, List.forall_mem_cons.mpr ⟨hg _ wd_749, List.forall_mem_cons.mpr ⟨hg _ wd_750, List.forall_mem_cons.mpr ⟨hg _ wd_751, List.forall_mem_cons.mpr ⟨hg _ wd_752, List.forall_mem_cons.mpr ⟨xs_ref hZ.1, List.forall_mem_cons.mpr ⟨xs_ref hZ.2, List.forall_mem_cons.mpr ⟨hg _ wd_660, List.forall_mem_cons.mpr ⟨hg _ wd_626, List.forall_mem_cons.mpr ⟨hg _ wd_753, fun _ h => absurd h List.not_mem_nil⟩⟩⟩⟩⟩⟩⟩⟩⟩⟩⟩⟩⟩
theorem dx_NSE_0 : decode prog_24_method_4_code 0 = .ok (.aload_n 0, 1) := by decide +kernel
theorem dx_NSE_1 : decode prog_24_method_4_code 1 = .ok (.aload_n 1, 1) := by decide +kernel
theorem dx_NSE_2 : decode prog_24_method_4_code 2 = .ok (.invokespecial 13, 3) := by decide +kernel
theorem dx_NSE_5 : decode prog_24_method_4_code 5 = .ok (.return_, 1) := by decide +kernel
