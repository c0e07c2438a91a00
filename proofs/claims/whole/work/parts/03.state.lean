def T_LS : u_T := fun k => match k with
  | 0 => ("LanguageServer", "shown", "LLanguageServer$Reading;", false)
  | _ => ("LanguageServer", "trial", "LLanguageServer$Reading;", false)
def t_LS : Nat → FieldType := fun k => match k with
  | 0 => .object "LanguageServer$Reading"
  | _ => .object "LanguageServer$Reading"
theorem n_LS : ∀ a, a < 2 → ∀ b, b < 2 → a ≠ b → (T_LS a).2.1 ≠ (T_LS b).2.1 := by decide +kernel
theorem t_LS_ok : ∀ k, k < 2 → parseFieldDescriptor (T_LS k).2.2.1 = some (t_LS k) := by decide +kernel
theorem in_LS : ∀ w ∈ u_ws "LanguageServer" T_LS 2, w ∈ Tg := by
  intro w hw
  obtain ⟨k, hk, rfl⟩ := List.mem_map.mp hw
  have hk := List.mem_range.mp hk
  match k, hk with
  | 0, _ => exact wd_300
  | 1, _ => exact wd_302
  | k + 2, h => exact absurd h (by omega)
def T_Reading : u_T := fun k => match k with
  | 0 => ("LanguageServer$Reading", "source", "LLanguageServer$Text;", true)
  | 1 => ("LanguageServer$Reading", "tokens", "LLanguageServer$Tokens;", true)
  | 2 => ("LanguageServer$Reading", "outline", "LLanguageServer$Outline;", true)
  | 3 => ("LanguageServer$Reading", "complaints", "LLanguageServer$Complaints;", true)
  | 4 => ("LanguageServer$Reading", "parser", "LLanguageServer$Parser;", true)
  | 5 => ("LanguageServer$Reading", "declarer", "LLanguageServer$Declarer;", true)
  | 6 => ("LanguageServer$Reading", "judge", "LLanguageServer$Judge;", true)
  | _ => ("LanguageServer$Reading", "stale", "Z", false)
def t_Reading : Nat → FieldType := fun k => match k with
  | 0 => .object "LanguageServer$Text"
  | 1 => .object "LanguageServer$Tokens"
  | 2 => .object "LanguageServer$Outline"
  | 3 => .object "LanguageServer$Complaints"
  | 4 => .object "LanguageServer$Parser"
  | 5 => .object "LanguageServer$Declarer"
  | 6 => .object "LanguageServer$Judge"
  | _ => .boolean
theorem n_Reading : ∀ a, a < 8 → ∀ b, b < 8 → a ≠ b → (T_Reading a).2.1 ≠ (T_Reading b).2.1 := by decide +kernel
theorem t_Reading_ok : ∀ k, k < 8 → parseFieldDescriptor (T_Reading k).2.2.1 = some (t_Reading k) := by decide +kernel
theorem in_Reading : ∀ w ∈ u_ws "LanguageServer$Reading" T_Reading 8, w ∈ Tg := by
  intro w hw
  obtain ⟨k, hk, rfl⟩ := List.mem_map.mp hw
  have hk := List.mem_range.mp hk
  match k, hk with
  | 0, _ => exact wd_281
  | 1, _ => exact wd_283
  | 2, _ => exact wd_285
  | 3, _ => exact wd_287
  | 4, _ => exact wd_289
  | 5, _ => exact wd_291
  | 6, _ => exact wd_293
  | 7, _ => exact wd_295
  | k + 8, h => exact absurd h (by omega)
def T_Text : u_T := fun k => match k with
  | 0 => ("LanguageServer$Text", "codes", "[I", true)
  | _ => ("LanguageServer$Text", "length", "I", false)
def t_Text : Nat → FieldType := fun k => match k with
  | 0 => .array .int
  | _ => .int
theorem n_Text : ∀ a, a < 2 → ∀ b, b < 2 → a ≠ b → (T_Text a).2.1 ≠ (T_Text b).2.1 := by decide +kernel
theorem t_Text_ok : ∀ k, k < 2 → parseFieldDescriptor (T_Text k).2.2.1 = some (t_Text k) := by decide +kernel
theorem in_Text : ∀ w ∈ u_ws "LanguageServer$Text" T_Text 2, w ∈ Tg := by
  intro w hw
  obtain ⟨k, hk, rfl⟩ := List.mem_map.mp hw
  have hk := List.mem_range.mp hk
  match k, hk with
  | 0, _ => exact wd_48
  | 1, _ => exact wd_50
  | k + 2, h => exact absurd h (by omega)
def T_Tokens : u_T := fun k => match k with
  | 0 => ("LanguageServer$Tokens", "start", "[I", true)
  | 1 => ("LanguageServer$Tokens", "end", "[I", true)
  | 2 => ("LanguageServer$Tokens", "sort", "[I", true)
  | 3 => ("LanguageServer$Tokens", "spelling", "[J", true)
  | _ => ("LanguageServer$Tokens", "size", "I", false)
def t_Tokens : Nat → FieldType := fun k => match k with
  | 0 => .array .int
  | 1 => .array .int
  | 2 => .array .int
  | 3 => .array .long
  | _ => .int
theorem n_Tokens : ∀ a, a < 5 → ∀ b, b < 5 → a ≠ b → (T_Tokens a).2.1 ≠ (T_Tokens b).2.1 := by decide +kernel
theorem t_Tokens_ok : ∀ k, k < 5 → parseFieldDescriptor (T_Tokens k).2.2.1 = some (t_Tokens k) := by decide +kernel
theorem in_Tokens : ∀ w ∈ u_ws "LanguageServer$Tokens" T_Tokens 5, w ∈ Tg := by
  intro w hw
  obtain ⟨k, hk, rfl⟩ := List.mem_map.mp hw
  have hk := List.mem_range.mp hk
  match k, hk with
  | 0, _ => exact wd_78
  | 1, _ => exact wd_80
  | 2, _ => exact wd_82
  | 3, _ => exact wd_84
  | 4, _ => exact wd_86
  | k + 5, h => exact absurd h (by omega)
def T_Outline : u_T := fun k => match k with
  | 0 => ("LanguageServer$Outline", "tokens", "LLanguageServer$Tokens;", true)
  | 1 => ("LanguageServer$Outline", "role", "[I", true)
  | 2 => ("LanguageServer$Outline", "arity", "[I", true)
  | 3 => ("LanguageServer$Outline", "meaning", "[I", true)
  | 4 => ("LanguageServer$Outline", "typeOf", "[I", true)
  | 5 => ("LanguageServer$Outline", "classAt", "[I", true)
  | 6 => ("LanguageServer$Outline", "superOf", "[I", true)
  | 7 => ("LanguageServer$Outline", "listed", "[I", true)
  | 8 => ("LanguageServer$Outline", "size", "I", false)
  | _ => ("LanguageServer$Outline", "classes", "I", false)
def t_Outline : Nat → FieldType := fun k => match k with
  | 0 => .object "LanguageServer$Tokens"
  | 1 => .array .int
  | 2 => .array .int
  | 3 => .array .int
  | 4 => .array .int
  | 5 => .array .int
  | 6 => .array .int
  | 7 => .array .int
  | 8 => .int
  | _ => .int
theorem n_Outline : ∀ a, a < 10 → ∀ b, b < 10 → a ≠ b → (T_Outline a).2.1 ≠ (T_Outline b).2.1 := by decide +kernel
theorem t_Outline_ok : ∀ k, k < 10 → parseFieldDescriptor (T_Outline k).2.2.1 = some (t_Outline k) := by decide +kernel
theorem in_Outline : ∀ w ∈ u_ws "LanguageServer$Outline" T_Outline 10, w ∈ Tg := by
  intro w hw
  obtain ⟨k, hk, rfl⟩ := List.mem_map.mp hw
  have hk := List.mem_range.mp hk
  match k, hk with
  | 0, _ => exact wd_126
  | 1, _ => exact wd_128
  | 2, _ => exact wd_130
  | 3, _ => exact wd_132
  | 4, _ => exact wd_134
  | 5, _ => exact wd_136
  | 6, _ => exact wd_138
  | 7, _ => exact wd_140
  | 8, _ => exact wd_142
  | 9, _ => exact wd_144
  | k + 10, h => exact absurd h (by omega)
def T_Complaints : u_T := fun k => match k with
  | 0 => ("LanguageServer$Complaints", "marks", "[I", true)
  | _ => ("LanguageServer$Complaints", "fault", "I", false)
def t_Complaints : Nat → FieldType := fun k => match k with
  | 0 => .array .int
  | _ => .int
theorem n_Complaints : ∀ a, a < 2 → ∀ b, b < 2 → a ≠ b → (T_Complaints a).2.1 ≠ (T_Complaints b).2.1 := by decide +kernel
theorem t_Complaints_ok : ∀ k, k < 2 → parseFieldDescriptor (T_Complaints k).2.2.1 = some (t_Complaints k) := by decide +kernel
theorem in_Complaints : ∀ w ∈ u_ws "LanguageServer$Complaints" T_Complaints 2, w ∈ Tg := by
  intro w hw
  obtain ⟨k, hk, rfl⟩ := List.mem_map.mp hw
  have hk := List.mem_range.mp hk
  match k, hk with
  | 0, _ => exact wd_155
  | 1, _ => exact wd_157
  | k + 2, h => exact absurd h (by omega)
def T_Parser : u_T := fun k => match k with
  | 0 => ("LanguageServer$Parser", "tokens", "LLanguageServer$Tokens;", true)
  | 1 => ("LanguageServer$Parser", "outline", "LLanguageServer$Outline;", true)
  | 2 => ("LanguageServer$Parser", "complaints", "LLanguageServer$Complaints;", true)
  | 3 => ("LanguageServer$Parser", "opener", "[I", true)
  | 4 => ("LanguageServer$Parser", "depth", "I", false)
  | 5 => ("LanguageServer$Parser", "state", "I", false)
  | 6 => ("LanguageServer$Parser", "method", "I", false)
  | _ => ("LanguageServer$Parser", "equalsMayCome", "Z", false)
def t_Parser : Nat → FieldType := fun k => match k with
  | 0 => .object "LanguageServer$Tokens"
  | 1 => .object "LanguageServer$Outline"
  | 2 => .object "LanguageServer$Complaints"
  | 3 => .array .int
  | 4 => .int
  | 5 => .int
  | 6 => .int
  | _ => .boolean
theorem n_Parser : ∀ a, a < 8 → ∀ b, b < 8 → a ≠ b → (T_Parser a).2.1 ≠ (T_Parser b).2.1 := by decide +kernel
theorem t_Parser_ok : ∀ k, k < 8 → parseFieldDescriptor (T_Parser k).2.2.1 = some (t_Parser k) := by decide +kernel
theorem in_Parser : ∀ w ∈ u_ws "LanguageServer$Parser" T_Parser 8, w ∈ Tg := by
  intro w hw
  obtain ⟨k, hk, rfl⟩ := List.mem_map.mp hw
  have hk := List.mem_range.mp hk
  match k, hk with
  | 0, _ => exact wd_174
  | 1, _ => exact wd_176
  | 2, _ => exact wd_178
  | 3, _ => exact wd_180
  | 4, _ => exact wd_182
  | 5, _ => exact wd_184
  | 6, _ => exact wd_186
  | 7, _ => exact wd_188
  | k + 8, h => exact absurd h (by omega)
def T_Declarer : u_T := fun k => match k with
  | 0 => ("LanguageServer$Declarer", "tokens", "LLanguageServer$Tokens;", true)
  | 1 => ("LanguageServer$Declarer", "outline", "LLanguageServer$Outline;", true)
  | 2 => ("LanguageServer$Declarer", "complaints", "LLanguageServer$Complaints;", true)
  | 3 => ("LanguageServer$Declarer", "extended", "[I", true)
  | 4 => ("LanguageServer$Declarer", "owner", "I", false)
  | _ => ("LanguageServer$Declarer", "method", "I", false)
def t_Declarer : Nat → FieldType := fun k => match k with
  | 0 => .object "LanguageServer$Tokens"
  | 1 => .object "LanguageServer$Outline"
  | 2 => .object "LanguageServer$Complaints"
  | 3 => .array .int
  | 4 => .int
  | _ => .int
theorem n_Declarer : ∀ a, a < 6 → ∀ b, b < 6 → a ≠ b → (T_Declarer a).2.1 ≠ (T_Declarer b).2.1 := by decide +kernel
theorem t_Declarer_ok : ∀ k, k < 6 → parseFieldDescriptor (T_Declarer k).2.2.1 = some (t_Declarer k) := by decide +kernel
theorem in_Declarer : ∀ w ∈ u_ws "LanguageServer$Declarer" T_Declarer 6, w ∈ Tg := by
  intro w hw
  obtain ⟨k, hk, rfl⟩ := List.mem_map.mp hw
  have hk := List.mem_range.mp hk
  match k, hk with
  | 0, _ => exact wd_203
  | 1, _ => exact wd_205
  | 2, _ => exact wd_207
  | 3, _ => exact wd_209
  | 4, _ => exact wd_211
  | 5, _ => exact wd_213
  | k + 6, h => exact absurd h (by omega)
def T_Judge : u_T := fun k => match k with
  | 0 => ("LanguageServer$Judge", "tokens", "LLanguageServer$Tokens;", true)
  | 1 => ("LanguageServer$Judge", "outline", "LLanguageServer$Outline;", true)
  | 2 => ("LanguageServer$Judge", "complaints", "LLanguageServer$Complaints;", true)
  | 3 => ("LanguageServer$Judge", "called", "[I", true)
  | 4 => ("LanguageServer$Judge", "argument", "[I", true)
  | 5 => ("LanguageServer$Judge", "firstToken", "[I", true)
  | 6 => ("LanguageServer$Judge", "termToken", "[I", true)
  | 7 => ("LanguageServer$Judge", "termType", "[I", true)
  | 8 => ("LanguageServer$Judge", "summed", "[Z", true)
  | 9 => ("LanguageServer$Judge", "level", "I", false)
  | 10 => ("LanguageServer$Judge", "owner", "I", false)
  | 11 => ("LanguageServer$Judge", "method", "I", false)
  | 12 => ("LanguageServer$Judge", "local", "I", false)
  | 13 => ("LanguageServer$Judge", "statement", "I", false)
  | _ => ("LanguageServer$Judge", "should", "I", false)
def t_Judge : Nat → FieldType := fun k => match k with
  | 0 => .object "LanguageServer$Tokens"
  | 1 => .object "LanguageServer$Outline"
  | 2 => .object "LanguageServer$Complaints"
  | 3 => .array .int
  | 4 => .array .int
  | 5 => .array .int
  | 6 => .array .int
  | 7 => .array .int
  | 8 => .array .boolean
  | 9 => .int
  | 10 => .int
  | 11 => .int
  | 12 => .int
  | 13 => .int
  | _ => .int
theorem n_Judge : ∀ a, a < 15 → ∀ b, b < 15 → a ≠ b → (T_Judge a).2.1 ≠ (T_Judge b).2.1 := by decide +kernel
theorem t_Judge_ok : ∀ k, k < 15 → parseFieldDescriptor (T_Judge k).2.2.1 = some (t_Judge k) := by decide +kernel
theorem in_Judge : ∀ w ∈ u_ws "LanguageServer$Judge" T_Judge 15, w ∈ Tg := by
  intro w hw
  obtain ⟨k, hk, rfl⟩ := List.mem_map.mp hw
  have hk := List.mem_range.mp hk
  match k, hk with
  | 0, _ => exact wd_237
  | 1, _ => exact wd_239
  | 2, _ => exact wd_241
  | 3, _ => exact wd_243
  | 4, _ => exact wd_245
  | 5, _ => exact wd_247
  | 6, _ => exact wd_249
  | 7, _ => exact wd_251
  | 8, _ => exact wd_253
  | 9, _ => exact wd_255
  | 10, _ => exact wd_257
  | 11, _ => exact wd_259
  | 12, _ => exact wd_261
  | 13, _ => exact wd_263
  | 14, _ => exact wd_265
  | k + 15, h => exact absurd h (by omega)
def T_Mo : u_T := fun k => match k with
  | 0 => ("LanguageServerModel", "thrown", "I", false)
  | 1 => ("LanguageServerModel", "text", "[I", true)
  | 2 => ("LanguageServerModel", "length", "I", false)
  | 3 => ("LanguageServerModel", "saved", "[I", true)
  | 4 => ("LanguageServerModel", "savedLength", "I", false)
  | 5 => ("LanguageServerModel", "kind", "[I", true)
  | 6 => ("LanguageServerModel", "word", "[J", true)
  | 7 => ("LanguageServerModel", "from", "[I", true)
  | 8 => ("LanguageServerModel", "to", "[I", true)
  | 9 => ("LanguageServerModel", "tokens", "I", false)
  | 10 => ("LanguageServerModel", "at", "I", false)
  | 11 => ("LanguageServerModel", "bad", "Z", false)
  | 12 => ("LanguageServerModel", "role", "[I", true)
  | 13 => ("LanguageServerModel", "inClass", "[I", true)
  | 14 => ("LanguageServerModel", "inMethod", "[I", true)
  | 15 => ("LanguageServerModel", "begins", "[I", true)
  | 16 => ("LanguageServerModel", "cName", "[I", true)
  | 17 => ("LanguageServerModel", "cExtends", "[I", true)
  | 18 => ("LanguageServerModel", "classes", "I", false)
  | 19 => ("LanguageServerModel", "diags", "[I", true)
  | 20 => ("LanguageServerModel", "meaning", "[I", true)
  | 21 => ("LanguageServerModel", "savedMeaning", "[I", true)
  | 22 => ("LanguageServerModel", "opener", "[I", true)
  | 23 => ("LanguageServerModel", "first", "[I", true)
  | 24 => ("LanguageServerModel", "term", "[I", true)
  | 25 => ("LanguageServerModel", "type", "[I", true)
  | 26 => ("LanguageServerModel", "plus", "[Z", true)
  | 27 => ("LanguageServerModel", "argument", "[I", true)
  | 28 => ("LanguageServerModel", "given", "[I", true)
  | 29 => ("LanguageServerModel", "called", "[I", true)
  | 30 => ("LanguageServerModel", "depth", "I", false)
  | _ => ("LanguageServerModel", "end", "I", false)
def t_Mo : Nat → FieldType := fun k => match k with
  | 0 => .int
  | 1 => .array .int
  | 2 => .int
  | 3 => .array .int
  | 4 => .int
  | 5 => .array .int
  | 6 => .array .long
  | 7 => .array .int
  | 8 => .array .int
  | 9 => .int
  | 10 => .int
  | 11 => .boolean
  | 12 => .array .int
  | 13 => .array .int
  | 14 => .array .int
  | 15 => .array .int
  | 16 => .array .int
  | 17 => .array .int
  | 18 => .int
  | 19 => .array .int
  | 20 => .array .int
  | 21 => .array .int
  | 22 => .array .int
  | 23 => .array .int
  | 24 => .array .int
  | 25 => .array .int
  | 26 => .array .boolean
  | 27 => .array .int
  | 28 => .array .int
  | 29 => .array .int
  | 30 => .int
  | _ => .int
theorem n_Mo : ∀ a, a < 32 → ∀ b, b < 32 → a ≠ b → (T_Mo a).2.1 ≠ (T_Mo b).2.1 := by decide +kernel
theorem t_Mo_ok : ∀ k, k < 32 → parseFieldDescriptor (T_Mo k).2.2.1 = some (t_Mo k) := by decide +kernel
theorem in_Mo : ∀ w ∈ u_ws "LanguageServerModel" T_Mo 32, w ∈ Tg := by
  intro w hw
  obtain ⟨k, hk, rfl⟩ := List.mem_map.mp hw
  have hk := List.mem_range.mp hk
  match k, hk with
  | 0, _ => exact wd_931
  | 1, _ => exact wd_933
  | 2, _ => exact wd_935
  | 3, _ => exact wd_937
  | 4, _ => exact wd_939
  | 5, _ => exact wd_941
  | 6, _ => exact wd_943
  | 7, _ => exact wd_945
  | 8, _ => exact wd_947
  | 9, _ => exact wd_949
  | 10, _ => exact wd_951
  | 11, _ => exact wd_953
  | 12, _ => exact wd_955
  | 13, _ => exact wd_957
  | 14, _ => exact wd_959
  | 15, _ => exact wd_961
  | 16, _ => exact wd_963
  | 17, _ => exact wd_965
  | 18, _ => exact wd_967
  | 19, _ => exact wd_969
  | 20, _ => exact wd_971
  | 21, _ => exact wd_973
  | 22, _ => exact wd_975
  | 23, _ => exact wd_977
  | 24, _ => exact wd_979
  | 25, _ => exact wd_981
  | 26, _ => exact wd_983
  | 27, _ => exact wd_985
  | 28, _ => exact wd_987
  | 29, _ => exact wd_989
  | 30, _ => exact wd_991
  | 31, _ => exact wd_993
  | k + 32, h => exact absurd h (by omega)
abbrev vwCl : List vw_C := [("LanguageServer", T_LS, 2), ("LanguageServer$Reading", T_Reading, 8), ("LanguageServer$Text", T_Text, 2), ("LanguageServer$Tokens", T_Tokens, 5), ("LanguageServer$Outline", T_Outline, 10), ("LanguageServer$Complaints", T_Complaints, 2), ("LanguageServer$Parser", T_Parser, 8), ("LanguageServer$Declarer", T_Declarer, 6), ("LanguageServer$Judge", T_Judge, 15), ("LanguageServerModel", T_Mo, 32)]
/-- what is fixed: where the tables have the classes, their fields, and the classes of the arrays (int, long, boolean) -/
abbrev Kst : Type := va_G × ClassId × ClassId × ClassId
/-- the contents of an object's cells: its int fields, its int (and boolean) arrays by cell, its long array -/
abbrev Sto : Type := (Nat → Int32) × (Nat → Nat → Int32) × (Nat → Int64)
def sS (σ : Sto) (k : Nat) (v : Int32) : Sto := (fun j => if j = k then v else σ.1 j, σ.2)
def sA (σ : Sto) (a i : Nat) (v : Int32) : Sto := (σ.1, fun b => if b = a then upd (σ.2.1 b) i v else σ.2.1 b, σ.2.2)
def sL (σ : Sto) (i : Nat) (v : Int64) : Sto := (σ.1, σ.2.1, vp_updL σ.2.2 i v)
/-- an int array filled with one number -/
def sF (σ : Sto) (a : Nat) (v : Int32) : Sto := (σ.1, fun b => if b = a then fun _ => v else σ.2.1 b, σ.2.2)
/-- places copied inside one int array -/
def sC (σ : Sto) (a sp dp n : Nat) : Sto := (σ.1, fun b => if b = a then va_cpy (σ.2.1 b) (σ.2.1 b) sp dp n else σ.2.1 b, σ.2.2)
/-- turns that a loop may take at most -/
def FU : Nat := 4096
abbrev tyR (K : Kst) : List (ClassId × FieldType) := [(K.2.1, .int), (K.2.2.1, .long), (K.2.2.2, .boolean)]
def KN (U : State) : Prop := va_Nw (Jvm.Cond.methodLinkNest "LanguageServer$Text" (25 : Nat) ({ cls := "LanguageServer", name := "byteAt", desc := "(JI)I" } : Jvm.MethodName) "LanguageServer") U ∧ va_Nw (Jvm.Cond.methodLinkNest "LanguageServer$Tokens" (80 : Nat) ({ cls := "LanguageServer", name := "byteAt", desc := "(JI)I" } : Jvm.MethodName) "LanguageServer") U
theorem KN.warm {s U : State} (hW : s.WarmedH U.vm) (h : KN s) : KN U := ⟨va_Nw.warmM hW h.1, va_Nw.warmM hW h.2⟩
theorem KN.same {s U : State} (hv : s.vm = U.vm) (h : KN s) : KN U := ⟨va_Nw.same rfl hv h.1, va_Nw.same rfl hv h.2⟩
/-- the cells of a Reading -/
def wR (K : Kst) (A : Nat → Nat) (σ : Sto) : va_W := [
  (A 0, .inr (1, [.ref (A 1), .ref (A 3), .ref (A 8), .ref (A 16), .ref (A 18), .ref (A 20), .ref (A 22), .int (σ.1 0)])),
  (A 1, .inr (2, [.ref (A 2), .int (σ.1 1)])),
  (A 2, .inl (K.2.1, 240, .inl (σ.2.1 2))),
  (A 3, .inr (3, [.ref (A 4), .ref (A 5), .ref (A 6), .ref (A 7), .int (σ.1 2)])),
  (A 4, .inl (K.2.1, 121, .inl (σ.2.1 4))),
  (A 5, .inl (K.2.1, 121, .inl (σ.2.1 5))),
  (A 6, .inl (K.2.1, 121, .inl (σ.2.1 6))),
  (A 7, .inl (K.2.2.1, 121, .inr (.inl σ.2.2))),
  (A 8, .inr (4, [.ref (A 3), .ref (A 9), .ref (A 10), .ref (A 11), .ref (A 12), .ref (A 13), .ref (A 14), .ref (A 15), .int (σ.1 3), .int (σ.1 4)])),
  (A 9, .inl (K.2.1, 121, .inl (σ.2.1 9))),
  (A 10, .inl (K.2.1, 121, .inl (σ.2.1 10))),
  (A 11, .inl (K.2.1, 121, .inl (σ.2.1 11))),
  (A 12, .inl (K.2.1, 121, .inl (σ.2.1 12))),
  (A 13, .inl (K.2.1, 31, .inl (σ.2.1 13))),
  (A 14, .inl (K.2.1, 30, .inl (σ.2.1 14))),
  (A 15, .inl (K.2.1, 121, .inl (σ.2.1 15))),
  (A 16, .inr (5, [.ref (A 17), .int (σ.1 5)])),
  (A 17, .inl (K.2.1, 121, .inl (σ.2.1 17))),
  (A 18, .inr (6, [.ref (A 3), .ref (A 8), .ref (A 16), .ref (A 19), .int (σ.1 6), .int (σ.1 7), .int (σ.1 8), .int (σ.1 9)])),
  (A 19, .inl (K.2.1, 8, .inl (σ.2.1 19))),
  (A 20, .inr (7, [.ref (A 3), .ref (A 8), .ref (A 16), .ref (A 21), .int (σ.1 10), .int (σ.1 11)])),
  (A 21, .inl (K.2.1, 30, .inl (σ.2.1 21))),
  (A 22, .inr (8, [.ref (A 3), .ref (A 8), .ref (A 16), .ref (A 23), .ref (A 24), .ref (A 25), .ref (A 26), .ref (A 27), .ref (A 28), .int (σ.1 12), .int (σ.1 13), .int (σ.1 14), .int (σ.1 15), .int (σ.1 16), .int (σ.1 17)])),
  (A 23, .inl (K.2.1, 9, .inl (σ.2.1 23))),
  (A 24, .inl (K.2.1, 9, .inl (σ.2.1 24))),
  (A 25, .inl (K.2.1, 9, .inl (σ.2.1 25))),
  (A 26, .inl (K.2.1, 9, .inl (σ.2.1 26))),
  (A 27, .inl (K.2.1, 9, .inl (σ.2.1 27))),
  (A 28, .inl (K.2.2.2, 9, .inl (σ.2.1 28)))]
/-- the addresses of a Reading's cells -/
def RF (A : Nat → Nat) : Nat → Prop := fun q => ∃ k, k < 29 ∧ q = A k
def RF2 (A B : Nat → Nat) : Nat → Prop := fun q => RF A q ∨ RF B q
def RK (K : Kst) (U : State) : Prop := va_K K.1 vwCl (tyR K) U ∧ KN U
theorem RK.warm {K : Kst} {s U : State} (hW : s.WarmedH U.vm) (h : RK K s) : RK K U := ⟨va_K.moved hW.alike h.1, h.2.warm hW⟩
theorem RK.same {K : Kst} {s U : State} (hv : s.vm = U.vm) (h : RK K s) : RK K U := ⟨va_K.moved (by rw [hv]; exact Vm.Alike.refl _) h.1, h.2.same hv⟩
/-- a Reading as the store says -/
def RB (K : Kst) (A : Nat → Nat) (σ : Sto) (U : State) : Prop := va_P K.1 vwCl (wR K A σ) U.heap ∧ RK K U ∧ va_D (RF A) (wR K A σ)
def RB2 (K : Kst) (A B : Nat → Nat) (σ τ : Sto) (U : State) : Prop := va_P K.1 vwCl (wR K A σ ++ wR K B τ) U.heap ∧ RK K U ∧ va_D (RF2 A B) (wR K A σ ++ wR K B τ)
theorem itp {α : Type} {c : Prop} [Decidable c] {a b x : α} (hc : c) (h : (if c then a else b) = x) : a = x := by rw [if_pos hc] at h; exact h
theorem itf {α : Type} {c : Prop} [Decidable c] {a b x : α} (hc : ¬ c) (h : (if c then a else b) = x) : b = x := by rw [if_neg hc] at h; exact h
theorem itn {α : Type} {c : Prop} [Decidable c] {a : Option α} {x : α} (h : (if c then a else none) = some x) : c ∧ a = some x := by
  by_cases hc : c
  · rw [if_pos hc] at h; exact ⟨hc, h⟩
  · rw [if_neg hc] at h; cases h
def bd1 {α β : Type} (o : Option α) (f : α → Option β) : Option β := match o with
  | none => none
  | some a => f a
def bd2 {α γ β : Type} (o : Option (α × γ)) (f : α → γ → Option β) : Option β := match o with
  | none => none
  | some a => f a.1 a.2
theorem bd1_some {α β : Type} {o : Option α} {f : α → Option β} {r : β} (h : bd1 o f = some r) : ∃ a, o = some a ∧ f a = some r := by
  cases o with
  | none => cases h
  | some a => exact ⟨a, rfl, h⟩
theorem bd2_some {α γ β : Type} {o : Option (α × γ)} {f : α → γ → Option β} {r : β} (h : bd2 o f = some r) : ∃ a b, o = some (a, b) ∧ f a b = some r := by
  cases o with
  | none => cases h
  | some a => exact ⟨a.1, a.2, rfl, h⟩
noncomputable abbrev vp_in_dec (i : Int32) (n : Nat) : Decidable (vp_in i n) := inferInstanceAs (Decidable (¬ (i < 0 ∨ n ≤ i.toNatClampNeg)))
abbrev PF : Nat → Prop := fun _ => False
abbrev inR (i : Int32) (n : Nat) : Prop := ¬ (i < 0 ∨ n ≤ i.toNatClampNeg)
abbrev RQi (K : Kst) (A : Nat → Nat) (r : Int32) (σ' : Sto) := va_Qi (S := Unit) (fun v _ => v = r) (fun _ t => RB K A σ' t) (RF A)
abbrev RQl (K : Kst) (A : Nat → Nat) (r : Int64) (σ' : Sto) := va_Ql (S := Unit) (fun v _ => v = r) (fun _ t => RB K A σ' t) (RF A)
abbrev RQv (K : Kst) (A : Nat → Nat) (σ' : Sto) := va_Qv (S := Unit) (fun _ => True) (fun _ t => RB K A σ' t) (RF A)
abbrev PQi (r : Int32) := va_Qi (S := Unit) (fun v _ => v = r) (fun _ _ => True) PF
abbrev PQl (r : Int64) := va_Ql (S := Unit) (fun v _ => v = r) (fun _ _ => True) PF
theorem nb_of {v : Int32} (h : v = 0 ∨ v = 1) : narrow .boolean (.int v) = .int v := by rcases h with rfl | rfl <;> rfl
theorem gd_of {cx : Cond} {ws : List Cond} (h : ∀ w ∈ ws, w ∈ Tg) : GoodIn (cx :: Tg) ws := fun w hw => ⟨List.mem_cons_of_mem _ (h w hw), tg_good (h w hw)⟩
theorem gd_C {cx cy : Cond} (h : cy ∈ Tg) : GoodIn (cx :: Tg) (cy :: Tg) := gd_of fun w hw => (List.mem_cons.mp hw).elim (fun e => by rw [e]; exact h) id
theorem gd_V {cx cy : Cond} {own C : String} {idx : Nat} {y : MethodName} (h1 : Cond.methodLink own idx y ∈ Tg) (h2 : Cond.instanceMethod y ∈ Tg) (h3 : Cond.selects C y y ∈ Tg) (h4 : Cond.initialized C ∈ Tg) (h5 : cy ∈ Tg) : GoodIn (cx :: Tg) (wsV own idx C y (cy :: Tg)) := by
  refine gd_of fun w hw => ?_
  rcases List.mem_append.mp hw with h | h
  · simp only [List.mem_cons, List.not_mem_nil, or_false] at h
    rcases h with rfl | rfl | rfl | rfl
    · exact h1
    · exact h2
    · exact h3
    · exact h4
  · exact (List.mem_cons.mp h).elim (fun e => by rw [e]; exact h5) id
theorem gd_S {cx cy : Cond} {own : String} {idx : Nat} {y : MethodName} (h1 : Cond.methodLink own idx y ∈ Tg) (h2 : Cond.static y ∈ Tg) (h3 : Cond.initialized y.cls ∈ Tg) (h5 : cy ∈ Tg) : GoodIn (cx :: Tg) (va_wsS own idx y (cy :: Tg)) := by
  refine gd_of fun w hw => ?_
  rcases List.mem_append.mp hw with h | h
  · simp only [List.mem_cons, List.not_mem_nil, or_false] at h
    rcases h with rfl | rfl | rfl
    · exact h1
    · exact h2
    · exact h3
  · exact (List.mem_cons.mp h).elim (fun e => by rw [e]; exact h5) id
theorem R_blind {K : Kst} {A : Nat → Nat} {σ : Sto} {As : List Value} : FrameBlind (va_Pc As (RB K A σ)) := fun _ _ _ _ q => ⟨q.1, q.2.1, RK.same rfl q.2.2.1, q.2.2.2⟩
theorem P_ps {s : State} {H : Heap} {As : List Value} (hk : KN s) : PreS s H (va_Pc As KN) As := ⟨fun _ _ _ _ q => ⟨q.1, KN.same rfl q.2⟩, fun _ _ hW => ⟨rfl, KN.warm hW hk⟩⟩
section BASE
variable {p : Program} {l : Launch} {e : Env} {R : Room} {s : State} {m : MethodId} {args : Array Value} {below : List Frame} {meth : Method} {c : Code} {H H0 : Heap} {locs : List Loc} {cells slots : Nat} {Q : State → Prop}
variable {cc : ByteArray} {pc : Nat} {ls : Array Slot} {rest st0 : List Value} {a : Array Value} {K : Kst} {A B : Nat → Nat} {σ σ' τ : Sto}
theorem R_ps {As : List Value} (hK : RK K s) (hP : va_P K.1 vwCl (wR K A σ) H) (hD : va_D (RF A) (wR K A σ)) : PreS s H (va_Pc As (RB K A σ)) As :=
  ⟨R_blind, fun U hU hW => ⟨rfl, by rw [hU]; exact hP, RK.warm hW hK, hD⟩⟩
theorem R_calli {r : Int32} (hr : va_Run p l e R s m args below meth c H locs cells slots 0 0 (F0 m pc ls st0) rest (RQi K A r σ' a) (RF A)) (hS : va_S (RF A) H0 H locs)
    (kk : ∀ (H1 : Heap) (locs1 : List Loc), va_P K.1 vwCl (wR K A σ') H1 → va_D (RF A) (wR K A σ') → va_S (RF A) H0 H1 locs1 → W p l e R s m args below meth c H1 locs1 cells slots Q (F0 m (pc + 3) ls (.int r :: rest))) : W p l e R s m args below meth c H locs cells slots Q (F0 m pc ls st0) := by
  refine va_calli hr hS (fun q _ h => h) (fun q h => h) (fun v u t H1 locs1 ht hvm hw hB hz hk hS1 => ?_)
  subst hw
  obtain ⟨h1, -, h3⟩ := hB
  rw [ht] at h1
  exact kk H1 locs1 h1 h3 hS1
theorem R_calll {r : Int64} (hr : va_Run p l e R s m args below meth c H locs cells slots 0 0 (F0 m pc ls st0) rest (RQl K A r σ' a) (RF A)) (hS : va_S (RF A) H0 H locs)
    (kk : ∀ (H1 : Heap) (locs1 : List Loc), va_P K.1 vwCl (wR K A σ') H1 → va_D (RF A) (wR K A σ') → va_S (RF A) H0 H1 locs1 → W p l e R s m args below meth c H1 locs1 cells slots Q (F0 m (pc + 3) ls (.long r :: rest))) : W p l e R s m args below meth c H locs cells slots Q (F0 m pc ls st0) := by
  refine va_calll hr hS (fun q _ h => h) (fun q h => h) (fun v u t H1 locs1 ht hvm hw hB hz hk hS1 => ?_)
  subst hw
  obtain ⟨h1, -, h3⟩ := hB
  rw [ht] at h1
  exact kk H1 locs1 h1 h3 hS1
theorem R_callv (hr : va_Run p l e R s m args below meth c H locs cells slots 0 0 (F0 m pc ls st0) rest (RQv K A σ' a) (RF A)) (hS : va_S (RF A) H0 H locs)
    (kk : ∀ (H1 : Heap) (locs1 : List Loc), va_P K.1 vwCl (wR K A σ') H1 → va_D (RF A) (wR K A σ') → va_S (RF A) H0 H1 locs1 → W p l e R s m args below meth c H1 locs1 cells slots Q (F0 m (pc + 3) ls rest)) : W p l e R s m args below meth c H locs cells slots Q (F0 m pc ls st0) := by
  refine va_callv hr hS (fun q _ h => h) (fun q h => h) (fun u t H1 locs1 ht hvm hw hB hz hk hS1 => ?_)
  obtain ⟨h1, -, h3⟩ := hB
  rw [ht] at h1
  exact kk H1 locs1 h1 h3 hS1
theorem keepP {ws : va_W} {H1 : Heap} (hP : va_P K.1 vwCl ws H) (hk : ∀ q : Nat, q < H.size → ¬ PF q → H1[q]? = H[q]?) : va_P K.1 vwCl ws H1 :=
  hP.kept fun k q hq => hk _ (hP k q hq).lt id
theorem R_cpi {r : Int32} {ws : va_W} {F : Nat → Prop} (hr : va_Run p l e R s m args below meth c H locs cells slots 0 0 (F0 m pc ls st0) rest (PQi r a) PF) (hP : va_P K.1 vwCl ws H) (hD : va_D F ws) (hS : va_S F H0 H locs)
    (kk : ∀ (H1 : Heap) (locs1 : List Loc), va_P K.1 vwCl ws H1 → va_D F ws → va_S F H0 H1 locs1 → W p l e R s m args below meth c H1 locs1 cells slots Q (F0 m (pc + 3) ls (.int r :: rest))) : W p l e R s m args below meth c H locs cells slots Q (F0 m pc ls st0) := by
  refine va_calli hr hS (fun q _ h => h.elim) (fun q h => h.elim) (fun v u t H1 locs1 ht hvm hw hB hz hk hS1 => ?_)
  subst hw
  exact kk H1 locs1 (keepP hP hk) hD hS1
theorem R_cpl {r : Int64} {ws : va_W} {F : Nat → Prop} (hr : va_Run p l e R s m args below meth c H locs cells slots 0 0 (F0 m pc ls st0) rest (PQl r a) PF) (hP : va_P K.1 vwCl ws H) (hD : va_D F ws) (hS : va_S F H0 H locs)
    (kk : ∀ (H1 : Heap) (locs1 : List Loc), va_P K.1 vwCl ws H1 → va_D F ws → va_S F H0 H1 locs1 → W p l e R s m args below meth c H1 locs1 cells slots Q (F0 m (pc + 3) ls (.long r :: rest))) : W p l e R s m args below meth c H locs cells slots Q (F0 m pc ls st0) := by
  refine va_calll hr hS (fun q _ h => h.elim) (fun q h => h.elim) (fun v u t H1 locs1 ht hvm hw hB hz hk hS1 => ?_)
  subst hw
  exact kk H1 locs1 (keepP hP hk) hD hS1
theorem P_cpi {r : Int32} (hr : va_Run p l e R s m args below meth c H locs cells slots 0 0 (F0 m pc ls st0) rest (PQi r a) PF) (hS : va_S PF H0 H locs)
    (kk : ∀ (H1 : Heap) (locs1 : List Loc), va_S PF H0 H1 locs1 → W p l e R s m args below meth c H1 locs1 cells slots Q (F0 m (pc + 3) ls (.int r :: rest))) : W p l e R s m args below meth c H locs cells slots Q (F0 m pc ls st0) := by
  refine va_calli hr hS (fun q _ h => h) (fun q h => h) (fun v u t H1 locs1 ht hvm hw hB hz hk hS1 => ?_)
  subst hw
  exact kk H1 locs1 hS1
end BASE

