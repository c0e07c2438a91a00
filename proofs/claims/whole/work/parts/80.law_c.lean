/-- one call on both sides: what the object and the reference answer, and the two states behind it -/
def Sx (Sim : Sto → Sto → Sto → Prop) (pl : Option Lr) (pm : Option (Int32 × Sto)) (cs : List (Nat × Int32)) : Prop :=
  ∃ q ∈ cs, ∃ (v : Int32) (σ' τ' : Sto) (b : Int32) (μ' : Sto), pl = some (q.1, v, σ', τ') ∧ pm = some (b, μ') ∧ μ'.1 0 = q.2 ∧ (q.2 = 0 → v = b) ∧ (if q.1 = 4 then Sim τ' σ' μ' else Sim σ' τ' μ')
/-- diagnostics -/
def Sd (Sim : Sto → Sto → Sto → Prop) (pl : Option Lr) (pm : Option (Int32 × Sto)) : Prop :=
  ∃ (b : Int32) (σ' τ' μ' : Sto), pl = some (0, b, σ', τ') ∧ pm = some (b, μ') ∧ Sim σ' τ' μ'
def Hx (Sim : Sto → Sto → Sto → Prop) (l : Launch) (K : Kst) (a o : Nat) (A B : Nat → Nat) (f : Nat → Int64) (σ τ : Sto) (y : MethodName) (ws : List Cond) (rm : Room) (As : List Value) (pm : Option (Int32 × Sto)) : Prop :=
  ∃ (A' B' : Nat → Nat) (σ' τ' μ' : Sto) (f' : Nat → Int64) (k b : Int32), Met l y ws rm (va_Pc As (HB K a A B σ τ o f)) (va_Qi (S := Unit) (fun v _ => v = k) (fun _ t => HB K a A' B' σ' τ' o f' t) (HF a A B o)) 1 6 (HF a A B o) ∧ (∀ q, HF a A' B' o q → HF a A B o q) ∧ pm = some (b, μ') ∧ μ'.1 0 = k ∧ (k = 0 → f' 0 = b.toInt64) ∧ Sim σ' τ' μ'
theorem lg_cmp_rf (x : Int64) : lg_cmp x x = 0 := by simp [lg_cmp]
theorem hx_insert (l : Launch) (hlt : l.stackTraces = false) (K : Kst) (a o : Nat) (A B : Nat → Nat) (f : Nat → Int64) {Sim : Sto → Sto → Sto → Prop} {σ τ μ : Sto} {x1 : Int32} {x2 : Int32} (h : Sx Sim (p_LanguageServer_insert σ τ x1 x2) (p_Mo_insert μ x1 x2) [(0, 0), (1, 1), (2, 2)]) : Hx Sim l K a o A B f σ τ y_Law_insert w_Law_insert r_Law_insert [.ref a, .int x1, .int x2, .ref o] (p_Mo_insert μ x1 x2) := by
  obtain ⟨q, hq, v, σ', τ', b, μ', h1, h2, h3, h4, h5⟩ := h
  simp only [List.mem_cons, List.not_mem_nil, or_false] at hq
  rcases hq with rfl | rfl | rfl
  · exact ⟨A, B, σ', τ', μ', vp_updL f 0 v.toInt64, 0, b, ch_insert_0 l hlt K a o A B f h1, fun _ h => h, h2, h3, fun _ => by rw [← h4 rfl]; rfl, h5⟩
  · exact ⟨A, B, σ', τ', μ', f, 1, b, ch_insert_1 l hlt K a o A B f h1, fun _ h => h, h2, h3, fun h => absurd h (by decide), h5⟩
  · exact ⟨A, B, σ', τ', μ', f, 2, b, ch_insert_2 l hlt K a o A B f h1, fun _ h => h, h2, h3, fun h => absurd h (by decide), h5⟩
theorem hx_append (l : Launch) (hlt : l.stackTraces = false) (K : Kst) (a o : Nat) (A B : Nat → Nat) (f : Nat → Int64) {Sim : Sto → Sto → Sto → Prop} {σ τ μ : Sto} {x1 : Int64} {x3 : Int32} (h : Sx Sim (p_LanguageServer_append σ τ x1 x3) (p_Mo_append μ x1 x3) [(0, 0), (1, 1), (2, 2)]) : Hx Sim l K a o A B f σ τ y_Law_append w_Law_append r_Law_append [.ref a, .long x1, .int x3, .ref o] (p_Mo_append μ x1 x3) := by
  obtain ⟨q, hq, v, σ', τ', b, μ', h1, h2, h3, h4, h5⟩ := h
  simp only [List.mem_cons, List.not_mem_nil, or_false] at hq
  rcases hq with rfl | rfl | rfl
  · exact ⟨A, B, σ', τ', μ', vp_updL f 0 v.toInt64, 0, b, ch_append_0 l hlt K a o A B f h1, fun _ h => h, h2, h3, fun _ => by rw [← h4 rfl]; rfl, h5⟩
  · exact ⟨A, B, σ', τ', μ', f, 1, b, ch_append_1 l hlt K a o A B f h1, fun _ h => h, h2, h3, fun h => absurd h (by decide), h5⟩
  · exact ⟨A, B, σ', τ', μ', f, 2, b, ch_append_2 l hlt K a o A B f h1, fun _ h => h, h2, h3, fun h => absurd h (by decide), h5⟩
theorem hx_delete (l : Launch) (hlt : l.stackTraces = false) (K : Kst) (a o : Nat) (A B : Nat → Nat) (f : Nat → Int64) {Sim : Sto → Sto → Sto → Prop} {σ τ μ : Sto} {x1 : Int32} {x2 : Int32} (h : Sx Sim (p_LanguageServer_delete σ τ x1 x2) (p_Mo_delete μ x1 x2) [(0, 0), (1, 1)]) : Hx Sim l K a o A B f σ τ y_Law_delete w_Law_delete r_Law_delete [.ref a, .int x1, .int x2, .ref o] (p_Mo_delete μ x1 x2) := by
  obtain ⟨q, hq, v, σ', τ', b, μ', h1, h2, h3, h4, h5⟩ := h
  simp only [List.mem_cons, List.not_mem_nil, or_false] at hq
  rcases hq with rfl | rfl
  · exact ⟨A, B, σ', τ', μ', vp_updL f 0 v.toInt64, 0, b, ch_delete_0 l hlt K a o A B f h1, fun _ h => h, h2, h3, fun _ => by rw [← h4 rfl]; rfl, h5⟩
  · exact ⟨A, B, σ', τ', μ', f, 1, b, ch_delete_1 l hlt K a o A B f h1, fun _ h => h, h2, h3, fun h => absurd h (by decide), h5⟩
theorem hx_text (l : Launch) (hlt : l.stackTraces = false) (K : Kst) (a o : Nat) (A B : Nat → Nat) (f : Nat → Int64) {Sim : Sto → Sto → Sto → Prop} {σ τ μ : Sto} {x1 : Int32} (h : Sx Sim (p_LanguageServer_text σ τ x1) (p_Mo_text μ x1) [(0, 0), (3, 1)]) : Hx Sim l K a o A B f σ τ y_Law_text w_Law_text r_Law_text [.ref a, .int x1, .ref o] (p_Mo_text μ x1) := by
  obtain ⟨q, hq, v, σ', τ', b, μ', h1, h2, h3, h4, h5⟩ := h
  simp only [List.mem_cons, List.not_mem_nil, or_false] at hq
  rcases hq with rfl | rfl
  · exact ⟨A, B, σ', τ', μ', vp_updL f 0 v.toInt64, 0, b, ch_text_0 l hlt K a o A B f h1, fun _ h => h, h2, h3, fun _ => by rw [← h4 rfl]; rfl, h5⟩
  · exact ⟨A, B, σ', τ', μ', f, 1, b, ch_text_3 l hlt K a o A B f h1, fun _ h => h, h2, h3, fun h => absurd h (by decide), h5⟩
theorem hx_diagnostic (l : Launch) (hlt : l.stackTraces = false) (K : Kst) (a o : Nat) (A B : Nat → Nat) (f : Nat → Int64) {Sim : Sto → Sto → Sto → Prop} {σ τ μ : Sto} {x1 : Int32} {x2 : Int32} (h : Sx Sim (p_LanguageServer_diagnostic σ τ x1 x2) (p_Mo_diagnostic μ x1 x2) [(0, 0), (3, 1), (1, 2)]) : Hx Sim l K a o A B f σ τ y_Law_diagnostic w_Law_diagnostic r_Law_diagnostic [.ref a, .int x1, .int x2, .ref o] (p_Mo_diagnostic μ x1 x2) := by
  obtain ⟨q, hq, v, σ', τ', b, μ', h1, h2, h3, h4, h5⟩ := h
  simp only [List.mem_cons, List.not_mem_nil, or_false] at hq
  rcases hq with rfl | rfl | rfl
  · exact ⟨A, B, σ', τ', μ', vp_updL f 0 v.toInt64, 0, b, ch_diagnostic_0 l hlt K a o A B f h1, fun _ h => h, h2, h3, fun _ => by rw [← h4 rfl]; rfl, h5⟩
  · exact ⟨A, B, σ', τ', μ', f, 1, b, ch_diagnostic_3 l hlt K a o A B f h1, fun _ h => h, h2, h3, fun h => absurd h (by decide), h5⟩
  · exact ⟨A, B, σ', τ', μ', f, 2, b, ch_diagnostic_1 l hlt K a o A B f h1, fun _ h => h, h2, h3, fun h => absurd h (by decide), h5⟩
theorem hx_definition (l : Launch) (hlt : l.stackTraces = false) (K : Kst) (a o : Nat) (A B : Nat → Nat) (f : Nat → Int64) {Sim : Sto → Sto → Sto → Prop} {σ τ μ : Sto} {x1 : Int32} (h : Sx Sim (p_LanguageServer_definition σ τ x1) (p_Mo_definition μ x1) [(0, 0), (3, 1)]) : Hx Sim l K a o A B f σ τ y_Law_definition w_Law_definition r_Law_definition [.ref a, .int x1, .ref o] (p_Mo_definition μ x1) := by
  obtain ⟨q, hq, v, σ', τ', b, μ', h1, h2, h3, h4, h5⟩ := h
  simp only [List.mem_cons, List.not_mem_nil, or_false] at hq
  rcases hq with rfl | rfl
  · exact ⟨A, B, σ', τ', μ', vp_updL f 0 v.toInt64, 0, b, ch_definition_0 l hlt K a o A B f h1, fun _ h => h, h2, h3, fun _ => by rw [← h4 rfl]; rfl, h5⟩
  · exact ⟨A, B, σ', τ', μ', f, 1, b, ch_definition_3 l hlt K a o A B f h1, fun _ h => h, h2, h3, fun h => absurd h (by decide), h5⟩
theorem hx_type (l : Launch) (hlt : l.stackTraces = false) (K : Kst) (a o : Nat) (A B : Nat → Nat) (f : Nat → Int64) {Sim : Sto → Sto → Sto → Prop} {σ τ μ : Sto} {x1 : Int32} (h : Sx Sim (p_LanguageServer_type σ τ x1) (p_Mo_type μ x1) [(0, 0), (3, 1)]) : Hx Sim l K a o A B f σ τ y_Law_type w_Law_type r_Law_type [.ref a, .int x1, .ref o] (p_Mo_type μ x1) := by
  obtain ⟨q, hq, v, σ', τ', b, μ', h1, h2, h3, h4, h5⟩ := h
  simp only [List.mem_cons, List.not_mem_nil, or_false] at hq
  rcases hq with rfl | rfl
  · exact ⟨A, B, σ', τ', μ', vp_updL f 0 v.toInt64, 0, b, ch_type_0 l hlt K a o A B f h1, fun _ h => h, h2, h3, fun _ => by rw [← h4 rfl]; rfl, h5⟩
  · exact ⟨A, B, σ', τ', μ', f, 1, b, ch_type_3 l hlt K a o A B f h1, fun _ h => h, h2, h3, fun h => absurd h (by decide), h5⟩
theorem hx_references (l : Launch) (hlt : l.stackTraces = false) (K : Kst) (a o : Nat) (A B : Nat → Nat) (f : Nat → Int64) {Sim : Sto → Sto → Sto → Prop} {σ τ μ : Sto} {x1 : Int32} (h : Sx Sim (p_LanguageServer_references σ τ x1) (p_Mo_references μ x1) [(0, 0), (3, 1)]) : Hx Sim l K a o A B f σ τ y_Law_references w_Law_references r_Law_references [.ref a, .int x1, .ref o] (p_Mo_references μ x1) := by
  obtain ⟨q, hq, v, σ', τ', b, μ', h1, h2, h3, h4, h5⟩ := h
  simp only [List.mem_cons, List.not_mem_nil, or_false] at hq
  rcases hq with rfl | rfl
  · exact ⟨A, B, σ', τ', μ', vp_updL f 0 v.toInt64, 0, b, ch_references_0 l hlt K a o A B f h1, fun _ h => h, h2, h3, fun _ => by rw [← h4 rfl]; rfl, h5⟩
  · exact ⟨A, B, σ', τ', μ', f, 1, b, ch_references_3 l hlt K a o A B f h1, fun _ h => h, h2, h3, fun h => absurd h (by decide), h5⟩
theorem hx_reference (l : Launch) (hlt : l.stackTraces = false) (K : Kst) (a o : Nat) (A B : Nat → Nat) (f : Nat → Int64) {Sim : Sto → Sto → Sto → Prop} {σ τ μ : Sto} {x1 : Int32} {x2 : Int32} (h : Sx Sim (p_LanguageServer_reference σ τ x1 x2) (p_Mo_reference μ x1 x2) [(0, 0), (3, 1)]) : Hx Sim l K a o A B f σ τ y_Law_reference w_Law_reference r_Law_reference [.ref a, .int x1, .int x2, .ref o] (p_Mo_reference μ x1 x2) := by
  obtain ⟨q, hq, v, σ', τ', b, μ', h1, h2, h3, h4, h5⟩ := h
  simp only [List.mem_cons, List.not_mem_nil, or_false] at hq
  rcases hq with rfl | rfl
  · exact ⟨A, B, σ', τ', μ', vp_updL f 0 v.toInt64, 0, b, ch_reference_0 l hlt K a o A B f h1, fun _ h => h, h2, h3, fun _ => by rw [← h4 rfl]; rfl, h5⟩
  · exact ⟨A, B, σ', τ', μ', f, 1, b, ch_reference_3 l hlt K a o A B f h1, fun _ h => h, h2, h3, fun h => absurd h (by decide), h5⟩
theorem hx_members (l : Launch) (hlt : l.stackTraces = false) (K : Kst) (a o : Nat) (A B : Nat → Nat) (f : Nat → Int64) {Sim : Sto → Sto → Sto → Prop} {σ τ μ : Sto} {x1 : Int32} (h : Sx Sim (p_LanguageServer_members σ τ x1) (p_Mo_members μ x1) [(0, 0), (3, 1)]) : Hx Sim l K a o A B f σ τ y_Law_members w_Law_members r_Law_members [.ref a, .int x1, .ref o] (p_Mo_members μ x1) := by
  obtain ⟨q, hq, v, σ', τ', b, μ', h1, h2, h3, h4, h5⟩ := h
  simp only [List.mem_cons, List.not_mem_nil, or_false] at hq
  rcases hq with rfl | rfl
  · exact ⟨A, B, σ', τ', μ', vp_updL f 0 v.toInt64, 0, b, ch_members_0 l hlt K a o A B f h1, fun _ h => h, h2, h3, fun _ => by rw [← h4 rfl]; rfl, h5⟩
  · exact ⟨A, B, σ', τ', μ', f, 1, b, ch_members_3 l hlt K a o A B f h1, fun _ h => h, h2, h3, fun h => absurd h (by decide), h5⟩
theorem hx_member (l : Launch) (hlt : l.stackTraces = false) (K : Kst) (a o : Nat) (A B : Nat → Nat) (f : Nat → Int64) {Sim : Sto → Sto → Sto → Prop} {σ τ μ : Sto} {x1 : Int32} {x2 : Int32} (h : Sx Sim (p_LanguageServer_member σ τ x1 x2) (p_Mo_member μ x1 x2) [(0, 0), (3, 1)]) : Hx Sim l K a o A B f σ τ y_Law_member w_Law_member r_Law_member [.ref a, .int x1, .int x2, .ref o] (p_Mo_member μ x1 x2) := by
  obtain ⟨q, hq, v, σ', τ', b, μ', h1, h2, h3, h4, h5⟩ := h
  simp only [List.mem_cons, List.not_mem_nil, or_false] at hq
  rcases hq with rfl | rfl
  · exact ⟨A, B, σ', τ', μ', vp_updL f 0 v.toInt64, 0, b, ch_member_0 l hlt K a o A B f h1, fun _ h => h, h2, h3, fun _ => by rw [← h4 rfl]; rfl, h5⟩
  · exact ⟨A, B, σ', τ', μ', f, 1, b, ch_member_3 l hlt K a o A B f h1, fun _ h => h, h2, h3, fun h => absurd h (by decide), h5⟩
theorem hx_rename (l : Launch) (hlt : l.stackTraces = false) (K : Kst) (a o : Nat) (A B : Nat → Nat) (f : Nat → Int64) {Sim : Sto → Sto → Sto → Prop} {σ τ μ : Sto} {x1 : Int32} {x2 : Int64} {x4 : Int32} (h : Sx Sim (p_LanguageServer_rename σ τ x1 x2 x4) (p_Mo_rename μ x1 x2 x4) [(4, 0), (3, 1), (1, 2), (2, 3)]) : Hx Sim l K a o A B f σ τ y_Law_rename w_Law_rename r_Law_rename [.ref a, .int x1, .long x2, .int x4, .ref o] (p_Mo_rename μ x1 x2 x4) := by
  obtain ⟨q, hq, v, σ', τ', b, μ', h1, h2, h3, h4, h5⟩ := h
  simp only [List.mem_cons, List.not_mem_nil, or_false] at hq
  rcases hq with rfl | rfl | rfl | rfl
  · exact ⟨B, A, τ', σ', μ', vp_updL f 0 v.toInt64, 0, b, ch_rename_4 l hlt K a o A B f h1, fun _ h => HF_sw h, h2, h3, fun _ => by rw [← h4 rfl]; rfl, h5⟩
  · exact ⟨A, B, σ', τ', μ', f, 1, b, ch_rename_3 l hlt K a o A B f h1, fun _ h => h, h2, h3, fun h => absurd h (by decide), h5⟩
  · exact ⟨A, B, σ', τ', μ', f, 2, b, ch_rename_1 l hlt K a o A B f h1, fun _ h => h, h2, h3, fun h => absurd h (by decide), h5⟩
  · exact ⟨A, B, σ', τ', μ', f, 3, b, ch_rename_2 l hlt K a o A B f h1, fun _ h => h, h2, h3, fun h => absurd h (by decide), h5⟩
theorem hx_count (l : Launch) (hlt : l.stackTraces = false) (K : Kst) (a o : Nat) (A B : Nat → Nat) (f : Nat → Int64) {Sim : Sto → Sto → Sto → Prop} {σ τ μ : Sto} {x1 : Int32} (h : Sx Sim (p_LanguageServer_count σ τ x1) (p_Mo_count μ x1) [(0, 0), (1, 1)]) : Hx Sim l K a o A B f σ τ y_Law_count w_Law_count r_Law_count [.ref a, .int x1, .ref o] (p_Mo_count μ x1) := by
  obtain ⟨q, hq, v, σ', τ', b, μ', h1, h2, h3, h4, h5⟩ := h
  simp only [List.mem_cons, List.not_mem_nil, or_false] at hq
  rcases hq with rfl | rfl
  · exact ⟨A, B, σ', τ', μ', vp_updL f 0 v.toInt64, 0, b, ch_count_0 l hlt K a o A B f h1, fun _ h => h, h2, h3, fun _ => by rw [← h4 rfl]; rfl, h5⟩
  · exact ⟨A, B, σ', τ', μ', f, 1, b, ch_count_1 l hlt K a o A B f h1, fun _ h => h, h2, h3, fun h => absurd h (by decide), h5⟩
/-- what stands over the whole walk of the law -/
def Lx (p : Program) (s : State) (m : MethodId) (c : Code) (K : Kst) (b L : Nat) (xs : Nat → Int32) : Prop :=
  p.tables.exec = Jvm.exec ∧ c.code = code ∧ c.maxLocals = 7 ∧ s.vm.findClass "LanguageServerLaw" = some m.cls ∧ (∀ w ∈ (Cond.initialized "LanguageServerLaw" :: Tg), w.before #[Value.ref b] s = true) ∧ va_X b L xs s s.heap ∧ b < s.heap.size ∧ HK K (fun q => s.heap.size ≤ q) s
section LAWC
variable {p : Program} {l : Launch} {e : Env} {s : State} {m : MethodId} {below : List Frame} {meth : Method} {c : Code} {H : Heap} {locs : List Loc} {cells slots : Nat} {Q : State → Prop} {ls : Array Slot} {K : Kst} {a b L o : Nat} {xs : Nat → Int32} {A B Y : Nat → Nat} {σ τ μ : Sto} {f : Nat → Int64} {Sim : Sto → Sto → Sto → Prop} {x4 : Int32}
/-- at the loop's tail: the world, the locals, the two states in step -/
def Lt (p : Program) (l : Launch) (e : Env) (s : State) (m : MethodId) (below : List Frame) (meth : Method) (c : Code) (K : Kst) (a b o : Nat) (Y : Nat → Nat) (x4 : Int32) (Q : State → Prop) (Sim : Sto → Sto → Sto → Prop) (cells slots : Nat) : Prop :=
  ∀ (A B : Nat → Nat) (σ τ μ : Sto) (f : Nat → Int64) (H : Heap) (locs : List Loc) (ls : Array Slot), Sim σ τ μ → va_P K.1 vwCl (wW K a A B σ τ o f Y μ) H → va_D (fun q => s.heap.size ≤ q) (wW K a A B σ τ o f Y μ) → va_S (fun q => s.heap.size ≤ q) s.heap H locs → lv_has ls 7 [(0, .ref b), (1, .ref a), (2, .ref (Y 0)), (3, .ref o), (4, .int x4)] → W p l e room_1 s m #[Value.ref b] below meth c H locs cells slots Q (F0 m 1009 ls [])
set_option maxHeartbeats 4000000 in
set_option maxRecDepth 100000 in
theorem lc_insert (hlt : l.stackTraces = false) (C : Lx p s m c K b L xs) (hP : va_P K.1 vwCl (wW K a A B σ τ o f Y μ) H) (hD : va_D (fun q => s.heap.size ≤ q) (wW K a A B σ τ o f Y μ)) (hS : va_S (fun q => s.heap.size ≤ q) s.heap H locs) (hl : lv_has ls 7 [(0, .ref b), (1, .ref a), (2, .ref (Y 0)), (3, .ref o), (4, .int x4)]) (v1 : vp_in (x4 + 1) L) (v2 : vp_in (x4 + 2) L) (v3 : vp_in (x4 + 3) L) (v4 : vp_in (x4 + 4) L) (hc : cells + 1 ≤ 1125) (hs : slots + 6 ≤ 13651) (hq : Sx Sim (p_LanguageServer_insert σ τ (xs (x4 + 1).toNatClampNeg) (xs (x4 + 2).toNatClampNeg)) (p_Mo_insert μ (xs (x4 + 1).toNatClampNeg) (xs (x4 + 2).toNatClampNeg)) [(0, 0), (1, 1), (2, 2)]) (kk : Lt p l e s m below meth c K a b o Y x4 Q Sim (cells + 1) (slots + 6)) : W p l e room_1 s m #[Value.ref b] below meth c H locs cells slots Q (F0 m 108 ls []) := by
  obtain ⟨hx, hb, hml, hown, hts, hX, hbl, hHK⟩ := C
  have hg : ∀ w ∈ Tg, w.before #[Value.ref b] s = true := fun w q => hts w (List.mem_cons_of_mem _ q)
  have hbA : ¬ (fun q : Nat => s.heap.size ≤ q) b := Nat.not_le.mpr hbl
  unfold Lt at kk
  refine lv_aload_n hx hb d_law_108 rfl (lv_at hl 1 rfl) ?_
  refine lv_aload_n hx hb d_law_109 rfl (lv_at hl 0 rfl) ?_
  refine lv_iload hx hb d_law_110 (lv_at hl 4 rfl) ?_
  refine lv_iconst (v := 1) hx hb d_law_112 (by decide) ?_
  refine lv_iadd hx hb d_law_113 ?_
  refine va_sld hx hb hX hbl hbA hS v1 d_law_114 ?_
  refine lv_aload_n hx hb d_law_115 rfl (lv_at hl 0 rfl) ?_
  refine lv_iload hx hb d_law_116 (lv_at hl 4 rfl) ?_
  refine lv_iconst (v := 2) hx hb d_law_118 (by decide) ?_
  refine lv_iadd hx hb d_law_119 ?_
  refine va_sld hx hb hX hbl hbA hS v2 d_law_120 ?_
  refine lv_aload_n hx hb d_law_121 rfl (lv_at hl 3 rfl) ?_
  obtain ⟨A1, B1, σ1, τ1, μ1, f1, k1, b1, hM, hHF, hm1, hm2, hm3, hsim⟩ := hx_insert l hlt K a o A B f hq
  refine W_callH (H_runS (As := [.ref a, .int (xs (x4 + 1).toNatClampNeg), .int (xs (x4 + 2).toNatClampNeg), .ref o]) (rest := []) ⟨hx, hb, hml, hown, hts⟩ hM rfl rfl (Nat.le_of_ble_eq_true rfl) (Nat.le_of_ble_eq_true rfl) (pay_in hts (gd_C wd_596)) List.mem_cons_self (hg _ wd_596) (hg _ wd_0) ds_Law_insert (hg _ wd_594) (hg _ wd_595) (W_pH hHK hS hP hD) rfl rfl hl.1 rfl (lv_room (Nat.le_of_ble_eq_true rfl)) d_law_122 ⟨hc, hs⟩) hP hD hS hHF (fun H locs hP hD hS => ?_)
  refine lv_istore (lv' := [(5, .int k1), (0, .ref b), (1, .ref a), (2, .ref (Y 0)), (3, .ref o), (4, .int x4)]) hx hb d_law_125 hl (by decide) rfl (fun ls hl => ?_)
  refine lv_aload_n hx hb d_law_127 rfl (lv_at hl 3 rfl) ?_
  refine lv_aload_n hx hb d_law_128 rfl (lv_at hl 1 rfl) ?_
  refine lv_iload hx hb d_law_129 (lv_at hl 5 rfl) ?_
  refine lv_iconst (v := 1) hx hb d_law_131 (by decide) ?_
  refine lv_iadd hx hb d_law_132 ?_
  refine va_sld hx hb hX hbl hbA hS v1 d_law_133 ?_
  refine lv_aload_n hx hb d_law_134 rfl (lv_at hl 1 rfl) ?_
  refine lv_iload hx hb d_law_135 (lv_at hl 5 rfl) ?_
  refine lv_iconst (v := 2) hx hb d_law_137 (by decide) ?_
  refine lv_iadd hx hb d_law_138 ?_
  refine va_sld hx hb hX hbl hbA hS v2 d_law_139 ?_
  refine W_callY (va_runV (As := [.int (xs (x4 + 1).toNatClampNeg), .int (xs (x4 + 2).toNatClampNeg)]) (rest := []) ⟨hx, hb, hml, hown, hts⟩ (c_Mo_insert l K Y hm1) (cwV 2 hts (gd_V wd_1000 wd_1001 wd_1002 wd_10 wd_1003) rfl rfl rfl dv_Mo_insert ⟨Nat.le_of_ble_eq_true rfl, Nat.le_of_ble_eq_true rfl⟩) (W_pY hHK.1.1 hP hD) rfl rfl hl.1 rfl (lv_room (Nat.le_of_ble_eq_true rfl)) d_law_140 ⟨hc, hs⟩) hP hD hS (fun H locs hP hD hS => ?_)
  refine lv_istore (lv' := [(6, .int b1), (5, .int k1), (0, .ref b), (1, .ref a), (2, .ref (Y 0)), (3, .ref o), (4, .int x4)]) hx hb d_law_143 hl (by decide) rfl (fun ls hl => ?_)
  refine lv_aload_n hx hb d_law_145 rfl (lv_at hl 4 rfl) ?_
  refine W_callY (va_runV (As := []) (rest := []) ⟨hx, hb, hml, hown, hts⟩ (c_Mo_thrown l K Y (σ := μ1) rfl) (cwV 0 hts (gd_V wd_996 wd_997 wd_998 wd_10 wd_999) rfl rfl rfl dv_Mo_thrown ⟨Nat.le_of_ble_eq_true rfl, Nat.le_of_ble_eq_true rfl⟩) (W_pY hHK.1.1 hP hD) rfl rfl hl.1 rfl (lv_room (Nat.le_of_ble_eq_true rfl)) d_law_146 ⟨hc, hs⟩) hP hD hS (fun H locs hP hD hS => ?_)
  rw [hm2]
  refine lv_iload hx hb d_law_149 (lv_at hl 1 rfl) ?_
  refine lv_icmp_eq (tgt := 156) hx hb d_law_151 (by decide) (fun _ => ?_) (fun c9 => absurd rfl c9)
  refine lv_iload hx hb d_law_156 (lv_at hl 1 rfl) ?_
  refine lv_if_ne (tgt := 173) hx hb d_law_158 (by decide) (fun c9 => ?_) (fun c9 => ?_)
  · refine lv_goto (tgt := 1009) hx hb d_law_173 (by decide) ?_
    exact kk A1 B1 σ1 τ1 μ1 f1 H locs ls hsim hP hD hS (lv_sub hl [2, 3, 4, 5, 6] rfl)
  · have c9 : k1 = 0 := by first | exact c9 | exact Decidable.not_not.mp c9
    refine lv_aload_n hx hb d_law_161 rfl (lv_at hl 5 rfl) ?_
    refine lv_iconst (v := 0) hx hb d_law_162 (by decide) ?_
    refine va_lald hx hb hHK.1.1.1 hP 59 1 rfl rfl (show vp_in 0 1 by show inR 0 1; decide) d_law_163 ?_
    refine lv_iload hx hb d_law_164 (lv_at hl 0 rfl) ?_
    refine lv_i2l hx hb d_law_166 rfl ?_
    refine W.lcmp hx hb d_law_167 ?_
    rw [show f1 ((0 : Int32).toNatClampNeg) = b1.toInt64 from hm3 c9, lg_cmp_rf]
    refine lv_if_eq (tgt := 173) hx hb d_law_168 (by decide) (fun _ => ?_) (fun c9 => absurd rfl c9)
    refine lv_goto (tgt := 1009) hx hb d_law_173 (by decide) ?_
    exact kk A1 B1 σ1 τ1 μ1 f1 H locs ls hsim hP hD hS (lv_sub hl [2, 3, 4, 5, 6] rfl)
set_option maxHeartbeats 4000000 in
set_option maxRecDepth 100000 in
theorem lc_append (hlt : l.stackTraces = false) (C : Lx p s m c K b L xs) (hP : va_P K.1 vwCl (wW K a A B σ τ o f Y μ) H) (hD : va_D (fun q => s.heap.size ≤ q) (wW K a A B σ τ o f Y μ)) (hS : va_S (fun q => s.heap.size ≤ q) s.heap H locs) (hl : lv_has ls 7 [(0, .ref b), (1, .ref a), (2, .ref (Y 0)), (3, .ref o), (4, .int x4)]) (v1 : vp_in (x4 + 1) L) (v2 : vp_in (x4 + 2) L) (v3 : vp_in (x4 + 3) L) (v4 : vp_in (x4 + 4) L) (hc : cells + 1 ≤ 1125) (hs : slots + 6 ≤ 13651) (hq : Sx Sim (p_LanguageServer_append σ τ (((xs (x4 + 1).toNatClampNeg).toInt64 <<< ((32 : Int32).toInt64 &&& 63)) ||| ((xs (x4 + 2).toNatClampNeg).toInt64 &&& 4294967295)) (xs (x4 + 3).toNatClampNeg)) (p_Mo_append μ (((xs (x4 + 1).toNatClampNeg).toInt64 <<< ((32 : Int32).toInt64 &&& 63)) ||| ((xs (x4 + 2).toNatClampNeg).toInt64 &&& 4294967295)) (xs (x4 + 3).toNatClampNeg)) [(0, 0), (1, 1), (2, 2)]) (kk : Lt p l e s m below meth c K a b o Y x4 Q Sim (cells + 1) (slots + 6)) : W p l e room_1 s m #[Value.ref b] below meth c H locs cells slots Q (F0 m 176 ls []) := by
  obtain ⟨hx, hb, hml, hown, hts, hX, hbl, hHK⟩ := C
  have hg : ∀ w ∈ Tg, w.before #[Value.ref b] s = true := fun w q => hts w (List.mem_cons_of_mem _ q)
  have hbA : ¬ (fun q : Nat => s.heap.size ≤ q) b := Nat.not_le.mpr hbl
  unfold Lt at kk
  refine lv_aload_n hx hb d_law_176 rfl (lv_at hl 1 rfl) ?_
  refine lv_aload_n hx hb d_law_177 rfl (lv_at hl 0 rfl) ?_
  refine lv_iload hx hb d_law_178 (lv_at hl 4 rfl) ?_
  refine lv_iconst (v := 1) hx hb d_law_180 (by decide) ?_
  refine lv_iadd hx hb d_law_181 ?_
  refine va_sld hx hb hX hbl hbA hS v1 d_law_182 ?_
  refine lv_i2l hx hb d_law_183 rfl ?_
  refine lv_bipush (v := 32) hx hb d_law_184 (by decide) ?_
  refine lv_lshl hx hb d_law_186 rfl ?_
  refine lv_aload_n hx hb d_law_187 rfl (lv_at hl 0 rfl) ?_
  refine lv_iload hx hb d_law_188 (lv_at hl 4 rfl) ?_
  refine lv_iconst (v := 2) hx hb d_law_190 (by decide) ?_
  refine lv_iadd hx hb d_law_191 ?_
  refine va_sld hx hb hX hbl hbA hS v2 d_law_192 ?_
  refine lv_i2l hx hb d_law_193 rfl ?_
  refine lv_ldc2 hx hb hown (hg _ wd_1292) d_law_194 ?_
  refine lv_land hx hb d_law_197 ?_
  refine lv_lor hx hb d_law_198 ?_
  refine lv_aload_n hx hb d_law_199 rfl (lv_at hl 0 rfl) ?_
  refine lv_iload hx hb d_law_200 (lv_at hl 4 rfl) ?_
  refine lv_iconst (v := 3) hx hb d_law_202 (by decide) ?_
  refine lv_iadd hx hb d_law_203 ?_
  refine va_sld hx hb hX hbl hbA hS v3 d_law_204 ?_
  refine lv_aload_n hx hb d_law_205 rfl (lv_at hl 3 rfl) ?_
  obtain ⟨A1, B1, σ1, τ1, μ1, f1, k1, b1, hM, hHF, hm1, hm2, hm3, hsim⟩ := hx_append l hlt K a o A B f hq
  refine W_callH (H_runS (As := [.ref a, .long (((xs (x4 + 1).toNatClampNeg).toInt64 <<< ((32 : Int32).toInt64 &&& 63)) ||| ((xs (x4 + 2).toNatClampNeg).toInt64 &&& 4294967295)), .int (xs (x4 + 3).toNatClampNeg), .ref o]) (rest := []) ⟨hx, hb, hml, hown, hts⟩ hM rfl rfl (Nat.le_of_ble_eq_true rfl) (Nat.le_of_ble_eq_true rfl) (pay_in hts (gd_C wd_703)) List.mem_cons_self (hg _ wd_703) (hg _ wd_0) ds_Law_append (hg _ wd_701) (hg _ wd_702) (W_pH hHK hS hP hD) rfl rfl hl.1 rfl (lv_room (Nat.le_of_ble_eq_true rfl)) d_law_206 ⟨hc, hs⟩) hP hD hS hHF (fun H locs hP hD hS => ?_)
  refine lv_istore (lv' := [(5, .int k1), (0, .ref b), (1, .ref a), (2, .ref (Y 0)), (3, .ref o), (4, .int x4)]) hx hb d_law_209 hl (by decide) rfl (fun ls hl => ?_)
  refine lv_aload_n hx hb d_law_211 rfl (lv_at hl 3 rfl) ?_
  refine lv_aload_n hx hb d_law_212 rfl (lv_at hl 1 rfl) ?_
  refine lv_iload hx hb d_law_213 (lv_at hl 5 rfl) ?_
  refine lv_iconst (v := 1) hx hb d_law_215 (by decide) ?_
  refine lv_iadd hx hb d_law_216 ?_
  refine va_sld hx hb hX hbl hbA hS v1 d_law_217 ?_
  refine lv_i2l hx hb d_law_218 rfl ?_
  refine lv_bipush (v := 32) hx hb d_law_219 (by decide) ?_
  refine lv_lshl hx hb d_law_221 rfl ?_
  refine lv_aload_n hx hb d_law_222 rfl (lv_at hl 1 rfl) ?_
  refine lv_iload hx hb d_law_223 (lv_at hl 5 rfl) ?_
  refine lv_iconst (v := 2) hx hb d_law_225 (by decide) ?_
  refine lv_iadd hx hb d_law_226 ?_
  refine va_sld hx hb hX hbl hbA hS v2 d_law_227 ?_
  refine lv_i2l hx hb d_law_228 rfl ?_
  refine lv_ldc2 hx hb hown (hg _ wd_1292) d_law_229 ?_
  refine lv_land hx hb d_law_232 ?_
  refine lv_lor hx hb d_law_233 ?_
  refine lv_aload_n hx hb d_law_234 rfl (lv_at hl 1 rfl) ?_
  refine lv_iload hx hb d_law_235 (lv_at hl 5 rfl) ?_
  refine lv_iconst (v := 3) hx hb d_law_237 (by decide) ?_
  refine lv_iadd hx hb d_law_238 ?_
  refine va_sld hx hb hX hbl hbA hS v3 d_law_239 ?_
  refine W_callY (va_runV (As := [.long (((xs (x4 + 1).toNatClampNeg).toInt64 <<< ((32 : Int32).toInt64 &&& 63)) ||| ((xs (x4 + 2).toNatClampNeg).toInt64 &&& 4294967295)), .int (xs (x4 + 3).toNatClampNeg)]) (rest := []) ⟨hx, hb, hml, hown, hts⟩ (c_Mo_append l K Y hm1) (cwV 2 hts (gd_V wd_1011 wd_1012 wd_1013 wd_10 wd_1014) rfl rfl rfl dv_Mo_append ⟨Nat.le_of_ble_eq_true rfl, Nat.le_of_ble_eq_true rfl⟩) (W_pY hHK.1.1 hP hD) rfl rfl hl.1 rfl (lv_room (Nat.le_of_ble_eq_true rfl)) d_law_240 ⟨hc, hs⟩) hP hD hS (fun H locs hP hD hS => ?_)
  refine lv_istore (lv' := [(6, .int b1), (5, .int k1), (0, .ref b), (1, .ref a), (2, .ref (Y 0)), (3, .ref o), (4, .int x4)]) hx hb d_law_243 hl (by decide) rfl (fun ls hl => ?_)
  refine lv_aload_n hx hb d_law_245 rfl (lv_at hl 4 rfl) ?_
  refine W_callY (va_runV (As := []) (rest := []) ⟨hx, hb, hml, hown, hts⟩ (c_Mo_thrown l K Y (σ := μ1) rfl) (cwV 0 hts (gd_V wd_996 wd_997 wd_998 wd_10 wd_999) rfl rfl rfl dv_Mo_thrown ⟨Nat.le_of_ble_eq_true rfl, Nat.le_of_ble_eq_true rfl⟩) (W_pY hHK.1.1 hP hD) rfl rfl hl.1 rfl (lv_room (Nat.le_of_ble_eq_true rfl)) d_law_246 ⟨hc, hs⟩) hP hD hS (fun H locs hP hD hS => ?_)
  rw [hm2]
  refine lv_iload hx hb d_law_249 (lv_at hl 1 rfl) ?_
  refine lv_icmp_eq (tgt := 256) hx hb d_law_251 (by decide) (fun _ => ?_) (fun c9 => absurd rfl c9)
  refine lv_iload hx hb d_law_256 (lv_at hl 1 rfl) ?_
  refine lv_if_ne (tgt := 273) hx hb d_law_258 (by decide) (fun c9 => ?_) (fun c9 => ?_)
  · refine lv_goto (tgt := 1009) hx hb d_law_273 (by decide) ?_
    exact kk A1 B1 σ1 τ1 μ1 f1 H locs ls hsim hP hD hS (lv_sub hl [2, 3, 4, 5, 6] rfl)
  · have c9 : k1 = 0 := by first | exact c9 | exact Decidable.not_not.mp c9
    refine lv_aload_n hx hb d_law_261 rfl (lv_at hl 5 rfl) ?_
    refine lv_iconst (v := 0) hx hb d_law_262 (by decide) ?_
    refine va_lald hx hb hHK.1.1.1 hP 59 1 rfl rfl (show vp_in 0 1 by show inR 0 1; decide) d_law_263 ?_
    refine lv_iload hx hb d_law_264 (lv_at hl 0 rfl) ?_
    refine lv_i2l hx hb d_law_266 rfl ?_
    refine W.lcmp hx hb d_law_267 ?_
    rw [show f1 ((0 : Int32).toNatClampNeg) = b1.toInt64 from hm3 c9, lg_cmp_rf]
    refine lv_if_eq (tgt := 273) hx hb d_law_268 (by decide) (fun _ => ?_) (fun c9 => absurd rfl c9)
    refine lv_goto (tgt := 1009) hx hb d_law_273 (by decide) ?_
    exact kk A1 B1 σ1 τ1 μ1 f1 H locs ls hsim hP hD hS (lv_sub hl [2, 3, 4, 5, 6] rfl)
set_option maxHeartbeats 4000000 in
set_option maxRecDepth 100000 in
theorem lc_delete (hlt : l.stackTraces = false) (C : Lx p s m c K b L xs) (hP : va_P K.1 vwCl (wW K a A B σ τ o f Y μ) H) (hD : va_D (fun q => s.heap.size ≤ q) (wW K a A B σ τ o f Y μ)) (hS : va_S (fun q => s.heap.size ≤ q) s.heap H locs) (hl : lv_has ls 7 [(0, .ref b), (1, .ref a), (2, .ref (Y 0)), (3, .ref o), (4, .int x4)]) (v1 : vp_in (x4 + 1) L) (v2 : vp_in (x4 + 2) L) (v3 : vp_in (x4 + 3) L) (v4 : vp_in (x4 + 4) L) (hc : cells + 1 ≤ 1125) (hs : slots + 6 ≤ 13651) (hq : Sx Sim (p_LanguageServer_delete σ τ (xs (x4 + 1).toNatClampNeg) (xs (x4 + 2).toNatClampNeg)) (p_Mo_delete μ (xs (x4 + 1).toNatClampNeg) (xs (x4 + 2).toNatClampNeg)) [(0, 0), (1, 1)]) (kk : Lt p l e s m below meth c K a b o Y x4 Q Sim (cells + 1) (slots + 6)) : W p l e room_1 s m #[Value.ref b] below meth c H locs cells slots Q (F0 m 276 ls []) := by
  obtain ⟨hx, hb, hml, hown, hts, hX, hbl, hHK⟩ := C
  have hg : ∀ w ∈ Tg, w.before #[Value.ref b] s = true := fun w q => hts w (List.mem_cons_of_mem _ q)
  have hbA : ¬ (fun q : Nat => s.heap.size ≤ q) b := Nat.not_le.mpr hbl
  unfold Lt at kk
  refine lv_aload_n hx hb d_law_276 rfl (lv_at hl 1 rfl) ?_
  refine lv_aload_n hx hb d_law_277 rfl (lv_at hl 0 rfl) ?_
  refine lv_iload hx hb d_law_278 (lv_at hl 4 rfl) ?_
  refine lv_iconst (v := 1) hx hb d_law_280 (by decide) ?_
  refine lv_iadd hx hb d_law_281 ?_
  refine va_sld hx hb hX hbl hbA hS v1 d_law_282 ?_
  refine lv_aload_n hx hb d_law_283 rfl (lv_at hl 0 rfl) ?_
  refine lv_iload hx hb d_law_284 (lv_at hl 4 rfl) ?_
  refine lv_iconst (v := 2) hx hb d_law_286 (by decide) ?_
  refine lv_iadd hx hb d_law_287 ?_
  refine va_sld hx hb hX hbl hbA hS v2 d_law_288 ?_
  refine lv_aload_n hx hb d_law_289 rfl (lv_at hl 3 rfl) ?_
  obtain ⟨A1, B1, σ1, τ1, μ1, f1, k1, b1, hM, hHF, hm1, hm2, hm3, hsim⟩ := hx_delete l hlt K a o A B f hq
  refine W_callH (H_runS (As := [.ref a, .int (xs (x4 + 1).toNatClampNeg), .int (xs (x4 + 2).toNatClampNeg), .ref o]) (rest := []) ⟨hx, hb, hml, hown, hts⟩ hM rfl rfl (Nat.le_of_ble_eq_true rfl) (Nat.le_of_ble_eq_true rfl) (pay_in hts (gd_C wd_727)) List.mem_cons_self (hg _ wd_727) (hg _ wd_0) ds_Law_delete (hg _ wd_725) (hg _ wd_726) (W_pH hHK hS hP hD) rfl rfl hl.1 rfl (lv_room (Nat.le_of_ble_eq_true rfl)) d_law_290 ⟨hc, hs⟩) hP hD hS hHF (fun H locs hP hD hS => ?_)
  refine lv_istore (lv' := [(5, .int k1), (0, .ref b), (1, .ref a), (2, .ref (Y 0)), (3, .ref o), (4, .int x4)]) hx hb d_law_293 hl (by decide) rfl (fun ls hl => ?_)
  refine lv_aload_n hx hb d_law_295 rfl (lv_at hl 3 rfl) ?_
  refine lv_aload_n hx hb d_law_296 rfl (lv_at hl 1 rfl) ?_
  refine lv_iload hx hb d_law_297 (lv_at hl 5 rfl) ?_
  refine lv_iconst (v := 1) hx hb d_law_299 (by decide) ?_
  refine lv_iadd hx hb d_law_300 ?_
  refine va_sld hx hb hX hbl hbA hS v1 d_law_301 ?_
  refine lv_aload_n hx hb d_law_302 rfl (lv_at hl 1 rfl) ?_
  refine lv_iload hx hb d_law_303 (lv_at hl 5 rfl) ?_
  refine lv_iconst (v := 2) hx hb d_law_305 (by decide) ?_
  refine lv_iadd hx hb d_law_306 ?_
  refine va_sld hx hb hX hbl hbA hS v2 d_law_307 ?_
  refine W_callY (va_runV (As := [.int (xs (x4 + 1).toNatClampNeg), .int (xs (x4 + 2).toNatClampNeg)]) (rest := []) ⟨hx, hb, hml, hown, hts⟩ (c_Mo_delete l K Y hm1) (cwV 2 hts (gd_V wd_1018 wd_1019 wd_1020 wd_10 wd_1021) rfl rfl rfl dv_Mo_delete ⟨Nat.le_of_ble_eq_true rfl, Nat.le_of_ble_eq_true rfl⟩) (W_pY hHK.1.1 hP hD) rfl rfl hl.1 rfl (lv_room (Nat.le_of_ble_eq_true rfl)) d_law_308 ⟨hc, hs⟩) hP hD hS (fun H locs hP hD hS => ?_)
  refine lv_istore (lv' := [(6, .int b1), (5, .int k1), (0, .ref b), (1, .ref a), (2, .ref (Y 0)), (3, .ref o), (4, .int x4)]) hx hb d_law_311 hl (by decide) rfl (fun ls hl => ?_)
  refine lv_aload_n hx hb d_law_313 rfl (lv_at hl 4 rfl) ?_
  refine W_callY (va_runV (As := []) (rest := []) ⟨hx, hb, hml, hown, hts⟩ (c_Mo_thrown l K Y (σ := μ1) rfl) (cwV 0 hts (gd_V wd_996 wd_997 wd_998 wd_10 wd_999) rfl rfl rfl dv_Mo_thrown ⟨Nat.le_of_ble_eq_true rfl, Nat.le_of_ble_eq_true rfl⟩) (W_pY hHK.1.1 hP hD) rfl rfl hl.1 rfl (lv_room (Nat.le_of_ble_eq_true rfl)) d_law_314 ⟨hc, hs⟩) hP hD hS (fun H locs hP hD hS => ?_)
  rw [hm2]
  refine lv_iload hx hb d_law_317 (lv_at hl 1 rfl) ?_
  refine lv_icmp_eq (tgt := 324) hx hb d_law_319 (by decide) (fun _ => ?_) (fun c9 => absurd rfl c9)
  refine lv_iload hx hb d_law_324 (lv_at hl 1 rfl) ?_
  refine lv_if_ne (tgt := 341) hx hb d_law_326 (by decide) (fun c9 => ?_) (fun c9 => ?_)
  · refine lv_goto (tgt := 1009) hx hb d_law_341 (by decide) ?_
    exact kk A1 B1 σ1 τ1 μ1 f1 H locs ls hsim hP hD hS (lv_sub hl [2, 3, 4, 5, 6] rfl)
  · have c9 : k1 = 0 := by first | exact c9 | exact Decidable.not_not.mp c9
    refine lv_aload_n hx hb d_law_329 rfl (lv_at hl 5 rfl) ?_
    refine lv_iconst (v := 0) hx hb d_law_330 (by decide) ?_
    refine va_lald hx hb hHK.1.1.1 hP 59 1 rfl rfl (show vp_in 0 1 by show inR 0 1; decide) d_law_331 ?_
    refine lv_iload hx hb d_law_332 (lv_at hl 0 rfl) ?_
    refine lv_i2l hx hb d_law_334 rfl ?_
    refine W.lcmp hx hb d_law_335 ?_
    rw [show f1 ((0 : Int32).toNatClampNeg) = b1.toInt64 from hm3 c9, lg_cmp_rf]
    refine lv_if_eq (tgt := 341) hx hb d_law_336 (by decide) (fun _ => ?_) (fun c9 => absurd rfl c9)
    refine lv_goto (tgt := 1009) hx hb d_law_341 (by decide) ?_
    exact kk A1 B1 σ1 τ1 μ1 f1 H locs ls hsim hP hD hS (lv_sub hl [2, 3, 4, 5, 6] rfl)
set_option maxHeartbeats 4000000 in
set_option maxRecDepth 100000 in
theorem lc_text (hlt : l.stackTraces = false) (C : Lx p s m c K b L xs) (hP : va_P K.1 vwCl (wW K a A B σ τ o f Y μ) H) (hD : va_D (fun q => s.heap.size ≤ q) (wW K a A B σ τ o f Y μ)) (hS : va_S (fun q => s.heap.size ≤ q) s.heap H locs) (hl : lv_has ls 7 [(0, .ref b), (1, .ref a), (2, .ref (Y 0)), (3, .ref o), (4, .int x4)]) (v1 : vp_in (x4 + 1) L) (v2 : vp_in (x4 + 2) L) (v3 : vp_in (x4 + 3) L) (v4 : vp_in (x4 + 4) L) (hc : cells + 1 ≤ 1125) (hs : slots + 6 ≤ 13651) (hq : Sx Sim (p_LanguageServer_text σ τ (xs (x4 + 1).toNatClampNeg)) (p_Mo_text μ (xs (x4 + 1).toNatClampNeg)) [(0, 0), (3, 1)]) (kk : Lt p l e s m below meth c K a b o Y x4 Q Sim (cells + 1) (slots + 6)) : W p l e room_1 s m #[Value.ref b] below meth c H locs cells slots Q (F0 m 344 ls []) := by
  obtain ⟨hx, hb, hml, hown, hts, hX, hbl, hHK⟩ := C
  have hg : ∀ w ∈ Tg, w.before #[Value.ref b] s = true := fun w q => hts w (List.mem_cons_of_mem _ q)
  have hbA : ¬ (fun q : Nat => s.heap.size ≤ q) b := Nat.not_le.mpr hbl
  unfold Lt at kk
  refine lv_aload_n hx hb d_law_344 rfl (lv_at hl 1 rfl) ?_
  refine lv_aload_n hx hb d_law_345 rfl (lv_at hl 0 rfl) ?_
  refine lv_iload hx hb d_law_346 (lv_at hl 4 rfl) ?_
  refine lv_iconst (v := 1) hx hb d_law_348 (by decide) ?_
  refine lv_iadd hx hb d_law_349 ?_
  refine va_sld hx hb hX hbl hbA hS v1 d_law_350 ?_
  refine lv_aload_n hx hb d_law_351 rfl (lv_at hl 3 rfl) ?_
  obtain ⟨A1, B1, σ1, τ1, μ1, f1, k1, b1, hM, hHF, hm1, hm2, hm3, hsim⟩ := hx_text l hlt K a o A B f hq
  refine W_callH (H_runS (As := [.ref a, .int (xs (x4 + 1).toNatClampNeg), .ref o]) (rest := []) ⟨hx, hb, hml, hown, hts⟩ hM rfl rfl (Nat.le_of_ble_eq_true rfl) (Nat.le_of_ble_eq_true rfl) (pay_in hts (gd_C wd_739)) List.mem_cons_self (hg _ wd_739) (hg _ wd_0) ds_Law_text (hg _ wd_737) (hg _ wd_738) (W_pH hHK hS hP hD) rfl rfl hl.1 rfl (lv_room (Nat.le_of_ble_eq_true rfl)) d_law_352 ⟨hc, hs⟩) hP hD hS hHF (fun H locs hP hD hS => ?_)
  refine lv_istore (lv' := [(5, .int k1), (0, .ref b), (1, .ref a), (2, .ref (Y 0)), (3, .ref o), (4, .int x4)]) hx hb d_law_355 hl (by decide) rfl (fun ls hl => ?_)
  refine lv_aload_n hx hb d_law_357 rfl (lv_at hl 3 rfl) ?_
  refine lv_aload_n hx hb d_law_358 rfl (lv_at hl 1 rfl) ?_
  refine lv_iload hx hb d_law_359 (lv_at hl 5 rfl) ?_
  refine lv_iconst (v := 1) hx hb d_law_361 (by decide) ?_
  refine lv_iadd hx hb d_law_362 ?_
  refine va_sld hx hb hX hbl hbA hS v1 d_law_363 ?_
  refine W_callY (va_runV (As := [.int (xs (x4 + 1).toNatClampNeg)]) (rest := []) ⟨hx, hb, hml, hown, hts⟩ (c_Mo_text l K Y hm1) (cwV 1 hts (gd_V wd_1022 wd_1023 wd_1024 wd_10 wd_1025) rfl rfl rfl dv_Mo_text ⟨Nat.le_of_ble_eq_true rfl, Nat.le_of_ble_eq_true rfl⟩) (W_pY hHK.1.1 hP hD) rfl rfl hl.1 rfl (lv_room (Nat.le_of_ble_eq_true rfl)) d_law_364 ⟨hc, hs⟩) hP hD hS (fun H locs hP hD hS => ?_)
  refine lv_istore (lv' := [(6, .int b1), (5, .int k1), (0, .ref b), (1, .ref a), (2, .ref (Y 0)), (3, .ref o), (4, .int x4)]) hx hb d_law_367 hl (by decide) rfl (fun ls hl => ?_)
  refine lv_aload_n hx hb d_law_369 rfl (lv_at hl 4 rfl) ?_
  refine W_callY (va_runV (As := []) (rest := []) ⟨hx, hb, hml, hown, hts⟩ (c_Mo_thrown l K Y (σ := μ1) rfl) (cwV 0 hts (gd_V wd_996 wd_997 wd_998 wd_10 wd_999) rfl rfl rfl dv_Mo_thrown ⟨Nat.le_of_ble_eq_true rfl, Nat.le_of_ble_eq_true rfl⟩) (W_pY hHK.1.1 hP hD) rfl rfl hl.1 rfl (lv_room (Nat.le_of_ble_eq_true rfl)) d_law_370 ⟨hc, hs⟩) hP hD hS (fun H locs hP hD hS => ?_)
  rw [hm2]
  refine lv_iload hx hb d_law_373 (lv_at hl 1 rfl) ?_
  refine lv_icmp_eq (tgt := 380) hx hb d_law_375 (by decide) (fun _ => ?_) (fun c9 => absurd rfl c9)
  refine lv_iload hx hb d_law_380 (lv_at hl 1 rfl) ?_
  refine lv_if_ne (tgt := 397) hx hb d_law_382 (by decide) (fun c9 => ?_) (fun c9 => ?_)
  · refine lv_goto (tgt := 1009) hx hb d_law_397 (by decide) ?_
    exact kk A1 B1 σ1 τ1 μ1 f1 H locs ls hsim hP hD hS (lv_sub hl [2, 3, 4, 5, 6] rfl)
  · have c9 : k1 = 0 := by first | exact c9 | exact Decidable.not_not.mp c9
    refine lv_aload_n hx hb d_law_385 rfl (lv_at hl 5 rfl) ?_
    refine lv_iconst (v := 0) hx hb d_law_386 (by decide) ?_
    refine va_lald hx hb hHK.1.1.1 hP 59 1 rfl rfl (show vp_in 0 1 by show inR 0 1; decide) d_law_387 ?_
    refine lv_iload hx hb d_law_388 (lv_at hl 0 rfl) ?_
    refine lv_i2l hx hb d_law_390 rfl ?_
    refine W.lcmp hx hb d_law_391 ?_
    rw [show f1 ((0 : Int32).toNatClampNeg) = b1.toInt64 from hm3 c9, lg_cmp_rf]
    refine lv_if_eq (tgt := 397) hx hb d_law_392 (by decide) (fun _ => ?_) (fun c9 => absurd rfl c9)
    refine lv_goto (tgt := 1009) hx hb d_law_397 (by decide) ?_
    exact kk A1 B1 σ1 τ1 μ1 f1 H locs ls hsim hP hD hS (lv_sub hl [2, 3, 4, 5, 6] rfl)
set_option maxHeartbeats 4000000 in
set_option maxRecDepth 100000 in
theorem lc_diagnostics (hlt : l.stackTraces = false) (C : Lx p s m c K b L xs) (hP : va_P K.1 vwCl (wW K a A B σ τ o f Y μ) H) (hD : va_D (fun q => s.heap.size ≤ q) (wW K a A B σ τ o f Y μ)) (hS : va_S (fun q => s.heap.size ≤ q) s.heap H locs) (hl : lv_has ls 7 [(0, .ref b), (1, .ref a), (2, .ref (Y 0)), (3, .ref o), (4, .int x4)]) (v1 : vp_in (x4 + 1) L) (v2 : vp_in (x4 + 2) L) (v3 : vp_in (x4 + 3) L) (v4 : vp_in (x4 + 4) L) (hc : cells + 1 ≤ 1125) (hs : slots + 6 ≤ 13651) (hq : Sd Sim (p_LanguageServer_diagnostics σ τ) (p_Mo_diagnostics μ)) (kk : Lt p l e s m below meth c K a b o Y x4 Q Sim (cells + 1) (slots + 6)) : W p l e room_1 s m #[Value.ref b] below meth c H locs cells slots Q (F0 m 400 ls []) := by
  obtain ⟨hx, hb, hml, hown, hts, hX, hbl, hHK⟩ := C
  have hg : ∀ w ∈ Tg, w.before #[Value.ref b] s = true := fun w q => hts w (List.mem_cons_of_mem _ q)
  have hbA : ¬ (fun q : Nat => s.heap.size ≤ q) b := Nat.not_le.mpr hbl
  unfold Lt at kk
  refine lv_aload_n hx hb d_law_400 rfl (lv_at hl 1 rfl) ?_
  obtain ⟨b1, σ1, τ1, μ1, hl1, hm1, hsim⟩ := hq
  refine W_callL (va_runV (As := []) (rest := []) ⟨hx, hb, hml, hown, hts⟩ (c_LS_diagnostics l K a A B hl1) (cwV 0 hts (gd_V wd_305 wd_306 wd_307 wd_1 wd_308) rfl rfl rfl dv_LS_diagnostics ⟨Nat.le_of_ble_eq_true rfl, Nat.le_of_ble_eq_true rfl⟩) (W_pL hHK hS hP hD) rfl rfl hl.1 rfl (lv_room (Nat.le_of_ble_eq_true rfl)) d_law_401 ⟨by show cells ≤ 1125; omega, by show slots ≤ 13651; omega⟩) hP hD hS (fun H locs hP hD hS => ?_)
  refine lv_aload_n hx hb d_law_404 rfl (lv_at hl 2 rfl) ?_
  refine W_callY (va_runV (As := []) (rest := [.int b1]) ⟨hx, hb, hml, hown, hts⟩ (c_Mo_diagnostics l K Y hm1) (cwV 0 hts (gd_V wd_1026 wd_1027 wd_1028 wd_10 wd_1029) rfl rfl rfl dv_Mo_diagnostics ⟨Nat.le_of_ble_eq_true rfl, Nat.le_of_ble_eq_true rfl⟩) (W_pY hHK.1.1 hP hD) rfl rfl hl.1 rfl (lv_room (Nat.le_of_ble_eq_true rfl)) d_law_405 ⟨by show cells ≤ 1125; omega, by show slots ≤ 13651; omega⟩) hP hD hS (fun H locs hP hD hS => ?_)
  refine lv_icmp_eq (tgt := 1009) hx hb d_law_408 (by decide) (fun _ => ?_) (fun c9 => absurd rfl c9)
  refine W.widen (k := cells + 1) (n := slots + 6) (Nat.le_succ _) (Nat.le_add_right _ _) ?_
  exact kk A B σ1 τ1 μ1 f H locs ls hsim hP hD hS (lv_sub hl [0, 1, 2, 3, 4] rfl)
set_option maxHeartbeats 4000000 in
set_option maxRecDepth 100000 in
theorem lc_diagnostic (hlt : l.stackTraces = false) (C : Lx p s m c K b L xs) (hP : va_P K.1 vwCl (wW K a A B σ τ o f Y μ) H) (hD : va_D (fun q => s.heap.size ≤ q) (wW K a A B σ τ o f Y μ)) (hS : va_S (fun q => s.heap.size ≤ q) s.heap H locs) (hl : lv_has ls 7 [(0, .ref b), (1, .ref a), (2, .ref (Y 0)), (3, .ref o), (4, .int x4)]) (v1 : vp_in (x4 + 1) L) (v2 : vp_in (x4 + 2) L) (v3 : vp_in (x4 + 3) L) (v4 : vp_in (x4 + 4) L) (hc : cells + 1 ≤ 1125) (hs : slots + 6 ≤ 13651) (hq : Sx Sim (p_LanguageServer_diagnostic σ τ (xs (x4 + 1).toNatClampNeg) (xs (x4 + 2).toNatClampNeg)) (p_Mo_diagnostic μ (xs (x4 + 1).toNatClampNeg) (xs (x4 + 2).toNatClampNeg)) [(0, 0), (3, 1), (1, 2)]) (kk : Lt p l e s m below meth c K a b o Y x4 Q Sim (cells + 1) (slots + 6)) : W p l e room_1 s m #[Value.ref b] below meth c H locs cells slots Q (F0 m 413 ls []) := by
  obtain ⟨hx, hb, hml, hown, hts, hX, hbl, hHK⟩ := C
  have hg : ∀ w ∈ Tg, w.before #[Value.ref b] s = true := fun w q => hts w (List.mem_cons_of_mem _ q)
  have hbA : ¬ (fun q : Nat => s.heap.size ≤ q) b := Nat.not_le.mpr hbl
  unfold Lt at kk
  refine lv_aload_n hx hb d_law_413 rfl (lv_at hl 1 rfl) ?_
  refine lv_aload_n hx hb d_law_414 rfl (lv_at hl 0 rfl) ?_
  refine lv_iload hx hb d_law_415 (lv_at hl 4 rfl) ?_
  refine lv_iconst (v := 1) hx hb d_law_417 (by decide) ?_
  refine lv_iadd hx hb d_law_418 ?_
  refine va_sld hx hb hX hbl hbA hS v1 d_law_419 ?_
  refine lv_aload_n hx hb d_law_420 rfl (lv_at hl 0 rfl) ?_
  refine lv_iload hx hb d_law_421 (lv_at hl 4 rfl) ?_
  refine lv_iconst (v := 2) hx hb d_law_423 (by decide) ?_
  refine lv_iadd hx hb d_law_424 ?_
  refine va_sld hx hb hX hbl hbA hS v2 d_law_425 ?_
  refine lv_aload_n hx hb d_law_426 rfl (lv_at hl 3 rfl) ?_
  obtain ⟨A1, B1, σ1, τ1, μ1, f1, k1, b1, hM, hHF, hm1, hm2, hm3, hsim⟩ := hx_diagnostic l hlt K a o A B f hq
  refine W_callH (H_runS (As := [.ref a, .int (xs (x4 + 1).toNatClampNeg), .int (xs (x4 + 2).toNatClampNeg), .ref o]) (rest := []) ⟨hx, hb, hml, hown, hts⟩ hM rfl rfl (Nat.le_of_ble_eq_true rfl) (Nat.le_of_ble_eq_true rfl) (pay_in hts (gd_C wd_763)) List.mem_cons_self (hg _ wd_763) (hg _ wd_0) ds_Law_diagnostic (hg _ wd_761) (hg _ wd_762) (W_pH hHK hS hP hD) rfl rfl hl.1 rfl (lv_room (Nat.le_of_ble_eq_true rfl)) d_law_427 ⟨hc, hs⟩) hP hD hS hHF (fun H locs hP hD hS => ?_)
  refine lv_istore (lv' := [(5, .int k1), (0, .ref b), (1, .ref a), (2, .ref (Y 0)), (3, .ref o), (4, .int x4)]) hx hb d_law_430 hl (by decide) rfl (fun ls hl => ?_)
  refine lv_aload_n hx hb d_law_432 rfl (lv_at hl 3 rfl) ?_
  refine lv_aload_n hx hb d_law_433 rfl (lv_at hl 1 rfl) ?_
  refine lv_iload hx hb d_law_434 (lv_at hl 5 rfl) ?_
  refine lv_iconst (v := 1) hx hb d_law_436 (by decide) ?_
  refine lv_iadd hx hb d_law_437 ?_
  refine va_sld hx hb hX hbl hbA hS v1 d_law_438 ?_
  refine lv_aload_n hx hb d_law_439 rfl (lv_at hl 1 rfl) ?_
  refine lv_iload hx hb d_law_440 (lv_at hl 5 rfl) ?_
  refine lv_iconst (v := 2) hx hb d_law_442 (by decide) ?_
  refine lv_iadd hx hb d_law_443 ?_
  refine va_sld hx hb hX hbl hbA hS v2 d_law_444 ?_
  refine W_callY (va_runV (As := [.int (xs (x4 + 1).toNatClampNeg), .int (xs (x4 + 2).toNatClampNeg)]) (rest := []) ⟨hx, hb, hml, hown, hts⟩ (c_Mo_diagnostic l K Y hm1) (cwV 2 hts (gd_V wd_1215 wd_1216 wd_1217 wd_10 wd_1218) rfl rfl rfl dv_Mo_diagnostic ⟨Nat.le_of_ble_eq_true rfl, Nat.le_of_ble_eq_true rfl⟩) (W_pY hHK.1.1 hP hD) rfl rfl hl.1 rfl (lv_room (Nat.le_of_ble_eq_true rfl)) d_law_445 ⟨hc, hs⟩) hP hD hS (fun H locs hP hD hS => ?_)
  refine lv_istore (lv' := [(6, .int b1), (5, .int k1), (0, .ref b), (1, .ref a), (2, .ref (Y 0)), (3, .ref o), (4, .int x4)]) hx hb d_law_448 hl (by decide) rfl (fun ls hl => ?_)
  refine lv_aload_n hx hb d_law_450 rfl (lv_at hl 4 rfl) ?_
  refine W_callY (va_runV (As := []) (rest := []) ⟨hx, hb, hml, hown, hts⟩ (c_Mo_thrown l K Y (σ := μ1) rfl) (cwV 0 hts (gd_V wd_996 wd_997 wd_998 wd_10 wd_999) rfl rfl rfl dv_Mo_thrown ⟨Nat.le_of_ble_eq_true rfl, Nat.le_of_ble_eq_true rfl⟩) (W_pY hHK.1.1 hP hD) rfl rfl hl.1 rfl (lv_room (Nat.le_of_ble_eq_true rfl)) d_law_451 ⟨hc, hs⟩) hP hD hS (fun H locs hP hD hS => ?_)
  rw [hm2]
  refine lv_iload hx hb d_law_454 (lv_at hl 1 rfl) ?_
  refine lv_icmp_eq (tgt := 461) hx hb d_law_456 (by decide) (fun _ => ?_) (fun c9 => absurd rfl c9)
  refine lv_iload hx hb d_law_461 (lv_at hl 1 rfl) ?_
  refine lv_if_ne (tgt := 478) hx hb d_law_463 (by decide) (fun c9 => ?_) (fun c9 => ?_)
  · refine lv_goto (tgt := 1009) hx hb d_law_478 (by decide) ?_
    exact kk A1 B1 σ1 τ1 μ1 f1 H locs ls hsim hP hD hS (lv_sub hl [2, 3, 4, 5, 6] rfl)
  · have c9 : k1 = 0 := by first | exact c9 | exact Decidable.not_not.mp c9
    refine lv_aload_n hx hb d_law_466 rfl (lv_at hl 5 rfl) ?_
    refine lv_iconst (v := 0) hx hb d_law_467 (by decide) ?_
    refine va_lald hx hb hHK.1.1.1 hP 59 1 rfl rfl (show vp_in 0 1 by show inR 0 1; decide) d_law_468 ?_
    refine lv_iload hx hb d_law_469 (lv_at hl 0 rfl) ?_
    refine lv_i2l hx hb d_law_471 rfl ?_
    refine W.lcmp hx hb d_law_472 ?_
    rw [show f1 ((0 : Int32).toNatClampNeg) = b1.toInt64 from hm3 c9, lg_cmp_rf]
    refine lv_if_eq (tgt := 478) hx hb d_law_473 (by decide) (fun _ => ?_) (fun c9 => absurd rfl c9)
    refine lv_goto (tgt := 1009) hx hb d_law_478 (by decide) ?_
    exact kk A1 B1 σ1 τ1 μ1 f1 H locs ls hsim hP hD hS (lv_sub hl [2, 3, 4, 5, 6] rfl)
set_option maxHeartbeats 4000000 in
set_option maxRecDepth 100000 in
theorem lc_definition (hlt : l.stackTraces = false) (C : Lx p s m c K b L xs) (hP : va_P K.1 vwCl (wW K a A B σ τ o f Y μ) H) (hD : va_D (fun q => s.heap.size ≤ q) (wW K a A B σ τ o f Y μ)) (hS : va_S (fun q => s.heap.size ≤ q) s.heap H locs) (hl : lv_has ls 7 [(0, .ref b), (1, .ref a), (2, .ref (Y 0)), (3, .ref o), (4, .int x4)]) (v1 : vp_in (x4 + 1) L) (v2 : vp_in (x4 + 2) L) (v3 : vp_in (x4 + 3) L) (v4 : vp_in (x4 + 4) L) (hc : cells + 1 ≤ 1125) (hs : slots + 6 ≤ 13651) (hq : Sx Sim (p_LanguageServer_definition σ τ (xs (x4 + 1).toNatClampNeg)) (p_Mo_definition μ (xs (x4 + 1).toNatClampNeg)) [(0, 0), (3, 1)]) (kk : Lt p l e s m below meth c K a b o Y x4 Q Sim (cells + 1) (slots + 6)) : W p l e room_1 s m #[Value.ref b] below meth c H locs cells slots Q (F0 m 481 ls []) := by
  obtain ⟨hx, hb, hml, hown, hts, hX, hbl, hHK⟩ := C
  have hg : ∀ w ∈ Tg, w.before #[Value.ref b] s = true := fun w q => hts w (List.mem_cons_of_mem _ q)
  have hbA : ¬ (fun q : Nat => s.heap.size ≤ q) b := Nat.not_le.mpr hbl
  unfold Lt at kk
  refine lv_aload_n hx hb d_law_481 rfl (lv_at hl 1 rfl) ?_
  refine lv_aload_n hx hb d_law_482 rfl (lv_at hl 0 rfl) ?_
  refine lv_iload hx hb d_law_483 (lv_at hl 4 rfl) ?_
  refine lv_iconst (v := 1) hx hb d_law_485 (by decide) ?_
  refine lv_iadd hx hb d_law_486 ?_
  refine va_sld hx hb hX hbl hbA hS v1 d_law_487 ?_
  refine lv_aload_n hx hb d_law_488 rfl (lv_at hl 3 rfl) ?_
  obtain ⟨A1, B1, σ1, τ1, μ1, f1, k1, b1, hM, hHF, hm1, hm2, hm3, hsim⟩ := hx_definition l hlt K a o A B f hq
  refine W_callH (H_runS (As := [.ref a, .int (xs (x4 + 1).toNatClampNeg), .ref o]) (rest := []) ⟨hx, hb, hml, hown, hts⟩ hM rfl rfl (Nat.le_of_ble_eq_true rfl) (Nat.le_of_ble_eq_true rfl) (pay_in hts (gd_C wd_784)) List.mem_cons_self (hg _ wd_784) (hg _ wd_0) ds_Law_definition (hg _ wd_782) (hg _ wd_783) (W_pH hHK hS hP hD) rfl rfl hl.1 rfl (lv_room (Nat.le_of_ble_eq_true rfl)) d_law_489 ⟨hc, hs⟩) hP hD hS hHF (fun H locs hP hD hS => ?_)
  refine lv_istore (lv' := [(5, .int k1), (0, .ref b), (1, .ref a), (2, .ref (Y 0)), (3, .ref o), (4, .int x4)]) hx hb d_law_492 hl (by decide) rfl (fun ls hl => ?_)
  refine lv_aload_n hx hb d_law_494 rfl (lv_at hl 3 rfl) ?_
  refine lv_aload_n hx hb d_law_495 rfl (lv_at hl 1 rfl) ?_
  refine lv_iload hx hb d_law_496 (lv_at hl 5 rfl) ?_
  refine lv_iconst (v := 1) hx hb d_law_498 (by decide) ?_
  refine lv_iadd hx hb d_law_499 ?_
  refine va_sld hx hb hX hbl hbA hS v1 d_law_500 ?_
  refine W_callY (va_runV (As := [.int (xs (x4 + 1).toNatClampNeg)]) (rest := []) ⟨hx, hb, hml, hown, hts⟩ (c_Mo_definition l K Y hm1) (cwV 1 hts (gd_V wd_1219 wd_1220 wd_1221 wd_10 wd_1222) rfl rfl rfl dv_Mo_definition ⟨Nat.le_of_ble_eq_true rfl, Nat.le_of_ble_eq_true rfl⟩) (W_pY hHK.1.1 hP hD) rfl rfl hl.1 rfl (lv_room (Nat.le_of_ble_eq_true rfl)) d_law_501 ⟨hc, hs⟩) hP hD hS (fun H locs hP hD hS => ?_)
  refine lv_istore (lv' := [(6, .int b1), (5, .int k1), (0, .ref b), (1, .ref a), (2, .ref (Y 0)), (3, .ref o), (4, .int x4)]) hx hb d_law_504 hl (by decide) rfl (fun ls hl => ?_)
  refine lv_aload_n hx hb d_law_506 rfl (lv_at hl 4 rfl) ?_
  refine W_callY (va_runV (As := []) (rest := []) ⟨hx, hb, hml, hown, hts⟩ (c_Mo_thrown l K Y (σ := μ1) rfl) (cwV 0 hts (gd_V wd_996 wd_997 wd_998 wd_10 wd_999) rfl rfl rfl dv_Mo_thrown ⟨Nat.le_of_ble_eq_true rfl, Nat.le_of_ble_eq_true rfl⟩) (W_pY hHK.1.1 hP hD) rfl rfl hl.1 rfl (lv_room (Nat.le_of_ble_eq_true rfl)) d_law_507 ⟨hc, hs⟩) hP hD hS (fun H locs hP hD hS => ?_)
  rw [hm2]
  refine lv_iload hx hb d_law_510 (lv_at hl 1 rfl) ?_
  refine lv_icmp_eq (tgt := 517) hx hb d_law_512 (by decide) (fun _ => ?_) (fun c9 => absurd rfl c9)
  refine lv_iload hx hb d_law_517 (lv_at hl 1 rfl) ?_
  refine lv_if_ne (tgt := 534) hx hb d_law_519 (by decide) (fun c9 => ?_) (fun c9 => ?_)
  · refine lv_goto (tgt := 1009) hx hb d_law_534 (by decide) ?_
    exact kk A1 B1 σ1 τ1 μ1 f1 H locs ls hsim hP hD hS (lv_sub hl [2, 3, 4, 5, 6] rfl)
  · have c9 : k1 = 0 := by first | exact c9 | exact Decidable.not_not.mp c9
    refine lv_aload_n hx hb d_law_522 rfl (lv_at hl 5 rfl) ?_
    refine lv_iconst (v := 0) hx hb d_law_523 (by decide) ?_
    refine va_lald hx hb hHK.1.1.1 hP 59 1 rfl rfl (show vp_in 0 1 by show inR 0 1; decide) d_law_524 ?_
    refine lv_iload hx hb d_law_525 (lv_at hl 0 rfl) ?_
    refine lv_i2l hx hb d_law_527 rfl ?_
    refine W.lcmp hx hb d_law_528 ?_
    rw [show f1 ((0 : Int32).toNatClampNeg) = b1.toInt64 from hm3 c9, lg_cmp_rf]
    refine lv_if_eq (tgt := 534) hx hb d_law_529 (by decide) (fun _ => ?_) (fun c9 => absurd rfl c9)
    refine lv_goto (tgt := 1009) hx hb d_law_534 (by decide) ?_
    exact kk A1 B1 σ1 τ1 μ1 f1 H locs ls hsim hP hD hS (lv_sub hl [2, 3, 4, 5, 6] rfl)
set_option maxHeartbeats 4000000 in
set_option maxRecDepth 100000 in
theorem lc_type (hlt : l.stackTraces = false) (C : Lx p s m c K b L xs) (hP : va_P K.1 vwCl (wW K a A B σ τ o f Y μ) H) (hD : va_D (fun q => s.heap.size ≤ q) (wW K a A B σ τ o f Y μ)) (hS : va_S (fun q => s.heap.size ≤ q) s.heap H locs) (hl : lv_has ls 7 [(0, .ref b), (1, .ref a), (2, .ref (Y 0)), (3, .ref o), (4, .int x4)]) (v1 : vp_in (x4 + 1) L) (v2 : vp_in (x4 + 2) L) (v3 : vp_in (x4 + 3) L) (v4 : vp_in (x4 + 4) L) (hc : cells + 1 ≤ 1125) (hs : slots + 6 ≤ 13651) (hq : Sx Sim (p_LanguageServer_type σ τ (xs (x4 + 1).toNatClampNeg)) (p_Mo_type μ (xs (x4 + 1).toNatClampNeg)) [(0, 0), (3, 1)]) (kk : Lt p l e s m below meth c K a b o Y x4 Q Sim (cells + 1) (slots + 6)) : W p l e room_1 s m #[Value.ref b] below meth c H locs cells slots Q (F0 m 537 ls []) := by
  obtain ⟨hx, hb, hml, hown, hts, hX, hbl, hHK⟩ := C
  have hg : ∀ w ∈ Tg, w.before #[Value.ref b] s = true := fun w q => hts w (List.mem_cons_of_mem _ q)
  have hbA : ¬ (fun q : Nat => s.heap.size ≤ q) b := Nat.not_le.mpr hbl
  unfold Lt at kk
  refine lv_aload_n hx hb d_law_537 rfl (lv_at hl 1 rfl) ?_
  refine lv_aload_n hx hb d_law_538 rfl (lv_at hl 0 rfl) ?_
  refine lv_iload hx hb d_law_539 (lv_at hl 4 rfl) ?_
  refine lv_iconst (v := 1) hx hb d_law_541 (by decide) ?_
  refine lv_iadd hx hb d_law_542 ?_
  refine va_sld hx hb hX hbl hbA hS v1 d_law_543 ?_
  refine lv_aload_n hx hb d_law_544 rfl (lv_at hl 3 rfl) ?_
  obtain ⟨A1, B1, σ1, τ1, μ1, f1, k1, b1, hM, hHF, hm1, hm2, hm3, hsim⟩ := hx_type l hlt K a o A B f hq
  refine W_callH (H_runS (As := [.ref a, .int (xs (x4 + 1).toNatClampNeg), .ref o]) (rest := []) ⟨hx, hb, hml, hown, hts⟩ hM rfl rfl (Nat.le_of_ble_eq_true rfl) (Nat.le_of_ble_eq_true rfl) (pay_in hts (gd_C wd_800)) List.mem_cons_self (hg _ wd_800) (hg _ wd_0) ds_Law_type (hg _ wd_798) (hg _ wd_799) (W_pH hHK hS hP hD) rfl rfl hl.1 rfl (lv_room (Nat.le_of_ble_eq_true rfl)) d_law_545 ⟨hc, hs⟩) hP hD hS hHF (fun H locs hP hD hS => ?_)
  refine lv_istore (lv' := [(5, .int k1), (0, .ref b), (1, .ref a), (2, .ref (Y 0)), (3, .ref o), (4, .int x4)]) hx hb d_law_548 hl (by decide) rfl (fun ls hl => ?_)
  refine lv_aload_n hx hb d_law_550 rfl (lv_at hl 3 rfl) ?_
  refine lv_aload_n hx hb d_law_551 rfl (lv_at hl 1 rfl) ?_
  refine lv_iload hx hb d_law_552 (lv_at hl 5 rfl) ?_
  refine lv_iconst (v := 1) hx hb d_law_554 (by decide) ?_
  refine lv_iadd hx hb d_law_555 ?_
  refine va_sld hx hb hX hbl hbA hS v1 d_law_556 ?_
  refine W_callY (va_runV (As := [.int (xs (x4 + 1).toNatClampNeg)]) (rest := []) ⟨hx, hb, hml, hown, hts⟩ (c_Mo_type l K Y hm1) (cwV 1 hts (gd_V wd_1227 wd_1228 wd_1229 wd_10 wd_1230) rfl rfl rfl dv_Mo_type ⟨Nat.le_of_ble_eq_true rfl, Nat.le_of_ble_eq_true rfl⟩) (W_pY hHK.1.1 hP hD) rfl rfl hl.1 rfl (lv_room (Nat.le_of_ble_eq_true rfl)) d_law_557 ⟨hc, hs⟩) hP hD hS (fun H locs hP hD hS => ?_)
  refine lv_istore (lv' := [(6, .int b1), (5, .int k1), (0, .ref b), (1, .ref a), (2, .ref (Y 0)), (3, .ref o), (4, .int x4)]) hx hb d_law_560 hl (by decide) rfl (fun ls hl => ?_)
  refine lv_aload_n hx hb d_law_562 rfl (lv_at hl 4 rfl) ?_
  refine W_callY (va_runV (As := []) (rest := []) ⟨hx, hb, hml, hown, hts⟩ (c_Mo_thrown l K Y (σ := μ1) rfl) (cwV 0 hts (gd_V wd_996 wd_997 wd_998 wd_10 wd_999) rfl rfl rfl dv_Mo_thrown ⟨Nat.le_of_ble_eq_true rfl, Nat.le_of_ble_eq_true rfl⟩) (W_pY hHK.1.1 hP hD) rfl rfl hl.1 rfl (lv_room (Nat.le_of_ble_eq_true rfl)) d_law_563 ⟨hc, hs⟩) hP hD hS (fun H locs hP hD hS => ?_)
  rw [hm2]
  refine lv_iload hx hb d_law_566 (lv_at hl 1 rfl) ?_
  refine lv_icmp_eq (tgt := 573) hx hb d_law_568 (by decide) (fun _ => ?_) (fun c9 => absurd rfl c9)
  refine lv_iload hx hb d_law_573 (lv_at hl 1 rfl) ?_
  refine lv_if_ne (tgt := 590) hx hb d_law_575 (by decide) (fun c9 => ?_) (fun c9 => ?_)
  · refine lv_goto (tgt := 1009) hx hb d_law_590 (by decide) ?_
    exact kk A1 B1 σ1 τ1 μ1 f1 H locs ls hsim hP hD hS (lv_sub hl [2, 3, 4, 5, 6] rfl)
  · have c9 : k1 = 0 := by first | exact c9 | exact Decidable.not_not.mp c9
    refine lv_aload_n hx hb d_law_578 rfl (lv_at hl 5 rfl) ?_
    refine lv_iconst (v := 0) hx hb d_law_579 (by decide) ?_
    refine va_lald hx hb hHK.1.1.1 hP 59 1 rfl rfl (show vp_in 0 1 by show inR 0 1; decide) d_law_580 ?_
    refine lv_iload hx hb d_law_581 (lv_at hl 0 rfl) ?_
    refine lv_i2l hx hb d_law_583 rfl ?_
    refine W.lcmp hx hb d_law_584 ?_
    rw [show f1 ((0 : Int32).toNatClampNeg) = b1.toInt64 from hm3 c9, lg_cmp_rf]
    refine lv_if_eq (tgt := 590) hx hb d_law_585 (by decide) (fun _ => ?_) (fun c9 => absurd rfl c9)
    refine lv_goto (tgt := 1009) hx hb d_law_590 (by decide) ?_
    exact kk A1 B1 σ1 τ1 μ1 f1 H locs ls hsim hP hD hS (lv_sub hl [2, 3, 4, 5, 6] rfl)
set_option maxHeartbeats 4000000 in
set_option maxRecDepth 100000 in
theorem lc_references (hlt : l.stackTraces = false) (C : Lx p s m c K b L xs) (hP : va_P K.1 vwCl (wW K a A B σ τ o f Y μ) H) (hD : va_D (fun q => s.heap.size ≤ q) (wW K a A B σ τ o f Y μ)) (hS : va_S (fun q => s.heap.size ≤ q) s.heap H locs) (hl : lv_has ls 7 [(0, .ref b), (1, .ref a), (2, .ref (Y 0)), (3, .ref o), (4, .int x4)]) (v1 : vp_in (x4 + 1) L) (v2 : vp_in (x4 + 2) L) (v3 : vp_in (x4 + 3) L) (v4 : vp_in (x4 + 4) L) (hc : cells + 1 ≤ 1125) (hs : slots + 6 ≤ 13651) (hq : Sx Sim (p_LanguageServer_references σ τ (xs (x4 + 1).toNatClampNeg)) (p_Mo_references μ (xs (x4 + 1).toNatClampNeg)) [(0, 0), (3, 1)]) (kk : Lt p l e s m below meth c K a b o Y x4 Q Sim (cells + 1) (slots + 6)) : W p l e room_1 s m #[Value.ref b] below meth c H locs cells slots Q (F0 m 593 ls []) := by
  obtain ⟨hx, hb, hml, hown, hts, hX, hbl, hHK⟩ := C
  have hg : ∀ w ∈ Tg, w.before #[Value.ref b] s = true := fun w q => hts w (List.mem_cons_of_mem _ q)
  have hbA : ¬ (fun q : Nat => s.heap.size ≤ q) b := Nat.not_le.mpr hbl
  unfold Lt at kk
  refine lv_aload_n hx hb d_law_593 rfl (lv_at hl 1 rfl) ?_
  refine lv_aload_n hx hb d_law_594 rfl (lv_at hl 0 rfl) ?_
  refine lv_iload hx hb d_law_595 (lv_at hl 4 rfl) ?_
  refine lv_iconst (v := 1) hx hb d_law_597 (by decide) ?_
  refine lv_iadd hx hb d_law_598 ?_
  refine va_sld hx hb hX hbl hbA hS v1 d_law_599 ?_
  refine lv_aload_n hx hb d_law_600 rfl (lv_at hl 3 rfl) ?_
  obtain ⟨A1, B1, σ1, τ1, μ1, f1, k1, b1, hM, hHF, hm1, hm2, hm3, hsim⟩ := hx_references l hlt K a o A B f hq
  refine W_callH (H_runS (As := [.ref a, .int (xs (x4 + 1).toNatClampNeg), .ref o]) (rest := []) ⟨hx, hb, hml, hown, hts⟩ hM rfl rfl (Nat.le_of_ble_eq_true rfl) (Nat.le_of_ble_eq_true rfl) (pay_in hts (gd_C wd_807)) List.mem_cons_self (hg _ wd_807) (hg _ wd_0) ds_Law_references (hg _ wd_805) (hg _ wd_806) (W_pH hHK hS hP hD) rfl rfl hl.1 rfl (lv_room (Nat.le_of_ble_eq_true rfl)) d_law_601 ⟨hc, hs⟩) hP hD hS hHF (fun H locs hP hD hS => ?_)
  refine lv_istore (lv' := [(5, .int k1), (0, .ref b), (1, .ref a), (2, .ref (Y 0)), (3, .ref o), (4, .int x4)]) hx hb d_law_604 hl (by decide) rfl (fun ls hl => ?_)
  refine lv_aload_n hx hb d_law_606 rfl (lv_at hl 3 rfl) ?_
  refine lv_aload_n hx hb d_law_607 rfl (lv_at hl 1 rfl) ?_
  refine lv_iload hx hb d_law_608 (lv_at hl 5 rfl) ?_
  refine lv_iconst (v := 1) hx hb d_law_610 (by decide) ?_
  refine lv_iadd hx hb d_law_611 ?_
  refine va_sld hx hb hX hbl hbA hS v1 d_law_612 ?_
  refine W_callY (va_runV (As := [.int (xs (x4 + 1).toNatClampNeg)]) (rest := []) ⟨hx, hb, hml, hown, hts⟩ (c_Mo_references l K Y hm1) (cwV 1 hts (gd_V wd_1231 wd_1232 wd_1233 wd_10 wd_1234) rfl rfl rfl dv_Mo_references ⟨Nat.le_of_ble_eq_true rfl, Nat.le_of_ble_eq_true rfl⟩) (W_pY hHK.1.1 hP hD) rfl rfl hl.1 rfl (lv_room (Nat.le_of_ble_eq_true rfl)) d_law_613 ⟨hc, hs⟩) hP hD hS (fun H locs hP hD hS => ?_)
  refine lv_istore (lv' := [(6, .int b1), (5, .int k1), (0, .ref b), (1, .ref a), (2, .ref (Y 0)), (3, .ref o), (4, .int x4)]) hx hb d_law_616 hl (by decide) rfl (fun ls hl => ?_)
  refine lv_aload_n hx hb d_law_618 rfl (lv_at hl 4 rfl) ?_
  refine W_callY (va_runV (As := []) (rest := []) ⟨hx, hb, hml, hown, hts⟩ (c_Mo_thrown l K Y (σ := μ1) rfl) (cwV 0 hts (gd_V wd_996 wd_997 wd_998 wd_10 wd_999) rfl rfl rfl dv_Mo_thrown ⟨Nat.le_of_ble_eq_true rfl, Nat.le_of_ble_eq_true rfl⟩) (W_pY hHK.1.1 hP hD) rfl rfl hl.1 rfl (lv_room (Nat.le_of_ble_eq_true rfl)) d_law_619 ⟨hc, hs⟩) hP hD hS (fun H locs hP hD hS => ?_)
  rw [hm2]
  refine lv_iload hx hb d_law_622 (lv_at hl 1 rfl) ?_
  refine lv_icmp_eq (tgt := 629) hx hb d_law_624 (by decide) (fun _ => ?_) (fun c9 => absurd rfl c9)
  refine lv_iload hx hb d_law_629 (lv_at hl 1 rfl) ?_
  refine lv_if_ne (tgt := 646) hx hb d_law_631 (by decide) (fun c9 => ?_) (fun c9 => ?_)
  · refine lv_goto (tgt := 1009) hx hb d_law_646 (by decide) ?_
    exact kk A1 B1 σ1 τ1 μ1 f1 H locs ls hsim hP hD hS (lv_sub hl [2, 3, 4, 5, 6] rfl)
  · have c9 : k1 = 0 := by first | exact c9 | exact Decidable.not_not.mp c9
    refine lv_aload_n hx hb d_law_634 rfl (lv_at hl 5 rfl) ?_
    refine lv_iconst (v := 0) hx hb d_law_635 (by decide) ?_
    refine va_lald hx hb hHK.1.1.1 hP 59 1 rfl rfl (show vp_in 0 1 by show inR 0 1; decide) d_law_636 ?_
    refine lv_iload hx hb d_law_637 (lv_at hl 0 rfl) ?_
    refine lv_i2l hx hb d_law_639 rfl ?_
    refine W.lcmp hx hb d_law_640 ?_
    rw [show f1 ((0 : Int32).toNatClampNeg) = b1.toInt64 from hm3 c9, lg_cmp_rf]
    refine lv_if_eq (tgt := 646) hx hb d_law_641 (by decide) (fun _ => ?_) (fun c9 => absurd rfl c9)
    refine lv_goto (tgt := 1009) hx hb d_law_646 (by decide) ?_
    exact kk A1 B1 σ1 τ1 μ1 f1 H locs ls hsim hP hD hS (lv_sub hl [2, 3, 4, 5, 6] rfl)
set_option maxHeartbeats 4000000 in
set_option maxRecDepth 100000 in
theorem lc_reference (hlt : l.stackTraces = false) (C : Lx p s m c K b L xs) (hP : va_P K.1 vwCl (wW K a A B σ τ o f Y μ) H) (hD : va_D (fun q => s.heap.size ≤ q) (wW K a A B σ τ o f Y μ)) (hS : va_S (fun q => s.heap.size ≤ q) s.heap H locs) (hl : lv_has ls 7 [(0, .ref b), (1, .ref a), (2, .ref (Y 0)), (3, .ref o), (4, .int x4)]) (v1 : vp_in (x4 + 1) L) (v2 : vp_in (x4 + 2) L) (v3 : vp_in (x4 + 3) L) (v4 : vp_in (x4 + 4) L) (hc : cells + 1 ≤ 1125) (hs : slots + 6 ≤ 13651) (hq : Sx Sim (p_LanguageServer_reference σ τ (xs (x4 + 1).toNatClampNeg) (xs (x4 + 2).toNatClampNeg)) (p_Mo_reference μ (xs (x4 + 1).toNatClampNeg) (xs (x4 + 2).toNatClampNeg)) [(0, 0), (3, 1)]) (kk : Lt p l e s m below meth c K a b o Y x4 Q Sim (cells + 1) (slots + 6)) : W p l e room_1 s m #[Value.ref b] below meth c H locs cells slots Q (F0 m 649 ls []) := by
  obtain ⟨hx, hb, hml, hown, hts, hX, hbl, hHK⟩ := C
  have hg : ∀ w ∈ Tg, w.before #[Value.ref b] s = true := fun w q => hts w (List.mem_cons_of_mem _ q)
  have hbA : ¬ (fun q : Nat => s.heap.size ≤ q) b := Nat.not_le.mpr hbl
  unfold Lt at kk
  refine lv_aload_n hx hb d_law_649 rfl (lv_at hl 1 rfl) ?_
  refine lv_aload_n hx hb d_law_650 rfl (lv_at hl 0 rfl) ?_
  refine lv_iload hx hb d_law_651 (lv_at hl 4 rfl) ?_
  refine lv_iconst (v := 1) hx hb d_law_653 (by decide) ?_
  refine lv_iadd hx hb d_law_654 ?_
  refine va_sld hx hb hX hbl hbA hS v1 d_law_655 ?_
  refine lv_aload_n hx hb d_law_656 rfl (lv_at hl 0 rfl) ?_
  refine lv_iload hx hb d_law_657 (lv_at hl 4 rfl) ?_
  refine lv_iconst (v := 2) hx hb d_law_659 (by decide) ?_
  refine lv_iadd hx hb d_law_660 ?_
  refine va_sld hx hb hX hbl hbA hS v2 d_law_661 ?_
  refine lv_aload_n hx hb d_law_662 rfl (lv_at hl 3 rfl) ?_
  obtain ⟨A1, B1, σ1, τ1, μ1, f1, k1, b1, hM, hHF, hm1, hm2, hm3, hsim⟩ := hx_reference l hlt K a o A B f hq
  refine W_callH (H_runS (As := [.ref a, .int (xs (x4 + 1).toNatClampNeg), .int (xs (x4 + 2).toNatClampNeg), .ref o]) (rest := []) ⟨hx, hb, hml, hown, hts⟩ hM rfl rfl (Nat.le_of_ble_eq_true rfl) (Nat.le_of_ble_eq_true rfl) (pay_in hts (gd_C wd_818)) List.mem_cons_self (hg _ wd_818) (hg _ wd_0) ds_Law_reference (hg _ wd_816) (hg _ wd_817) (W_pH hHK hS hP hD) rfl rfl hl.1 rfl (lv_room (Nat.le_of_ble_eq_true rfl)) d_law_663 ⟨hc, hs⟩) hP hD hS hHF (fun H locs hP hD hS => ?_)
  refine lv_istore (lv' := [(5, .int k1), (0, .ref b), (1, .ref a), (2, .ref (Y 0)), (3, .ref o), (4, .int x4)]) hx hb d_law_666 hl (by decide) rfl (fun ls hl => ?_)
  refine lv_aload_n hx hb d_law_668 rfl (lv_at hl 3 rfl) ?_
  refine lv_aload_n hx hb d_law_669 rfl (lv_at hl 1 rfl) ?_
  refine lv_iload hx hb d_law_670 (lv_at hl 5 rfl) ?_
  refine lv_iconst (v := 1) hx hb d_law_672 (by decide) ?_
  refine lv_iadd hx hb d_law_673 ?_
  refine va_sld hx hb hX hbl hbA hS v1 d_law_674 ?_
  refine lv_aload_n hx hb d_law_675 rfl (lv_at hl 1 rfl) ?_
  refine lv_iload hx hb d_law_676 (lv_at hl 5 rfl) ?_
  refine lv_iconst (v := 2) hx hb d_law_678 (by decide) ?_
  refine lv_iadd hx hb d_law_679 ?_
  refine va_sld hx hb hX hbl hbA hS v2 d_law_680 ?_
  refine W_callY (va_runV (As := [.int (xs (x4 + 1).toNatClampNeg), .int (xs (x4 + 2).toNatClampNeg)]) (rest := []) ⟨hx, hb, hml, hown, hts⟩ (c_Mo_reference l K Y hm1) (cwV 2 hts (gd_V wd_1239 wd_1240 wd_1241 wd_10 wd_1242) rfl rfl rfl dv_Mo_reference ⟨Nat.le_of_ble_eq_true rfl, Nat.le_of_ble_eq_true rfl⟩) (W_pY hHK.1.1 hP hD) rfl rfl hl.1 rfl (lv_room (Nat.le_of_ble_eq_true rfl)) d_law_681 ⟨hc, hs⟩) hP hD hS (fun H locs hP hD hS => ?_)
  refine lv_istore (lv' := [(6, .int b1), (5, .int k1), (0, .ref b), (1, .ref a), (2, .ref (Y 0)), (3, .ref o), (4, .int x4)]) hx hb d_law_684 hl (by decide) rfl (fun ls hl => ?_)
  refine lv_aload_n hx hb d_law_686 rfl (lv_at hl 4 rfl) ?_
  refine W_callY (va_runV (As := []) (rest := []) ⟨hx, hb, hml, hown, hts⟩ (c_Mo_thrown l K Y (σ := μ1) rfl) (cwV 0 hts (gd_V wd_996 wd_997 wd_998 wd_10 wd_999) rfl rfl rfl dv_Mo_thrown ⟨Nat.le_of_ble_eq_true rfl, Nat.le_of_ble_eq_true rfl⟩) (W_pY hHK.1.1 hP hD) rfl rfl hl.1 rfl (lv_room (Nat.le_of_ble_eq_true rfl)) d_law_687 ⟨hc, hs⟩) hP hD hS (fun H locs hP hD hS => ?_)
  rw [hm2]
  refine lv_iload hx hb d_law_690 (lv_at hl 1 rfl) ?_
  refine lv_icmp_eq (tgt := 697) hx hb d_law_692 (by decide) (fun _ => ?_) (fun c9 => absurd rfl c9)
  refine lv_iload hx hb d_law_697 (lv_at hl 1 rfl) ?_
  refine lv_if_ne (tgt := 714) hx hb d_law_699 (by decide) (fun c9 => ?_) (fun c9 => ?_)
  · refine lv_goto (tgt := 1009) hx hb d_law_714 (by decide) ?_
    exact kk A1 B1 σ1 τ1 μ1 f1 H locs ls hsim hP hD hS (lv_sub hl [2, 3, 4, 5, 6] rfl)
  · have c9 : k1 = 0 := by first | exact c9 | exact Decidable.not_not.mp c9
    refine lv_aload_n hx hb d_law_702 rfl (lv_at hl 5 rfl) ?_
    refine lv_iconst (v := 0) hx hb d_law_703 (by decide) ?_
    refine va_lald hx hb hHK.1.1.1 hP 59 1 rfl rfl (show vp_in 0 1 by show inR 0 1; decide) d_law_704 ?_
    refine lv_iload hx hb d_law_705 (lv_at hl 0 rfl) ?_
    refine lv_i2l hx hb d_law_707 rfl ?_
    refine W.lcmp hx hb d_law_708 ?_
    rw [show f1 ((0 : Int32).toNatClampNeg) = b1.toInt64 from hm3 c9, lg_cmp_rf]
    refine lv_if_eq (tgt := 714) hx hb d_law_709 (by decide) (fun _ => ?_) (fun c9 => absurd rfl c9)
    refine lv_goto (tgt := 1009) hx hb d_law_714 (by decide) ?_
    exact kk A1 B1 σ1 τ1 μ1 f1 H locs ls hsim hP hD hS (lv_sub hl [2, 3, 4, 5, 6] rfl)
set_option maxHeartbeats 4000000 in
set_option maxRecDepth 100000 in
theorem lc_members (hlt : l.stackTraces = false) (C : Lx p s m c K b L xs) (hP : va_P K.1 vwCl (wW K a A B σ τ o f Y μ) H) (hD : va_D (fun q => s.heap.size ≤ q) (wW K a A B σ τ o f Y μ)) (hS : va_S (fun q => s.heap.size ≤ q) s.heap H locs) (hl : lv_has ls 7 [(0, .ref b), (1, .ref a), (2, .ref (Y 0)), (3, .ref o), (4, .int x4)]) (v1 : vp_in (x4 + 1) L) (v2 : vp_in (x4 + 2) L) (v3 : vp_in (x4 + 3) L) (v4 : vp_in (x4 + 4) L) (hc : cells + 1 ≤ 1125) (hs : slots + 6 ≤ 13651) (hq : Sx Sim (p_LanguageServer_members σ τ (xs (x4 + 1).toNatClampNeg)) (p_Mo_members μ (xs (x4 + 1).toNatClampNeg)) [(0, 0), (3, 1)]) (kk : Lt p l e s m below meth c K a b o Y x4 Q Sim (cells + 1) (slots + 6)) : W p l e room_1 s m #[Value.ref b] below meth c H locs cells slots Q (F0 m 717 ls []) := by
  obtain ⟨hx, hb, hml, hown, hts, hX, hbl, hHK⟩ := C
  have hg : ∀ w ∈ Tg, w.before #[Value.ref b] s = true := fun w q => hts w (List.mem_cons_of_mem _ q)
  have hbA : ¬ (fun q : Nat => s.heap.size ≤ q) b := Nat.not_le.mpr hbl
  unfold Lt at kk
  refine lv_aload_n hx hb d_law_717 rfl (lv_at hl 1 rfl) ?_
  refine lv_aload_n hx hb d_law_718 rfl (lv_at hl 0 rfl) ?_
  refine lv_iload hx hb d_law_719 (lv_at hl 4 rfl) ?_
  refine lv_iconst (v := 1) hx hb d_law_721 (by decide) ?_
  refine lv_iadd hx hb d_law_722 ?_
  refine va_sld hx hb hX hbl hbA hS v1 d_law_723 ?_
  refine lv_aload_n hx hb d_law_724 rfl (lv_at hl 3 rfl) ?_
  obtain ⟨A1, B1, σ1, τ1, μ1, f1, k1, b1, hM, hHF, hm1, hm2, hm3, hsim⟩ := hx_members l hlt K a o A B f hq
  refine W_callH (H_runS (As := [.ref a, .int (xs (x4 + 1).toNatClampNeg), .ref o]) (rest := []) ⟨hx, hb, hml, hown, hts⟩ hM rfl rfl (Nat.le_of_ble_eq_true rfl) (Nat.le_of_ble_eq_true rfl) (pay_in hts (gd_C wd_830)) List.mem_cons_self (hg _ wd_830) (hg _ wd_0) ds_Law_members (hg _ wd_828) (hg _ wd_829) (W_pH hHK hS hP hD) rfl rfl hl.1 rfl (lv_room (Nat.le_of_ble_eq_true rfl)) d_law_725 ⟨hc, hs⟩) hP hD hS hHF (fun H locs hP hD hS => ?_)
  refine lv_istore (lv' := [(5, .int k1), (0, .ref b), (1, .ref a), (2, .ref (Y 0)), (3, .ref o), (4, .int x4)]) hx hb d_law_728 hl (by decide) rfl (fun ls hl => ?_)
  refine lv_aload_n hx hb d_law_730 rfl (lv_at hl 3 rfl) ?_
  refine lv_aload_n hx hb d_law_731 rfl (lv_at hl 1 rfl) ?_
  refine lv_iload hx hb d_law_732 (lv_at hl 5 rfl) ?_
  refine lv_iconst (v := 1) hx hb d_law_734 (by decide) ?_
  refine lv_iadd hx hb d_law_735 ?_
  refine va_sld hx hb hX hbl hbA hS v1 d_law_736 ?_
  refine W_callY (va_runV (As := [.int (xs (x4 + 1).toNatClampNeg)]) (rest := []) ⟨hx, hb, hml, hown, hts⟩ (c_Mo_members l K Y hm1) (cwV 1 hts (gd_V wd_1243 wd_1244 wd_1245 wd_10 wd_1246) rfl rfl rfl dv_Mo_members ⟨Nat.le_of_ble_eq_true rfl, Nat.le_of_ble_eq_true rfl⟩) (W_pY hHK.1.1 hP hD) rfl rfl hl.1 rfl (lv_room (Nat.le_of_ble_eq_true rfl)) d_law_737 ⟨hc, hs⟩) hP hD hS (fun H locs hP hD hS => ?_)
  refine lv_istore (lv' := [(6, .int b1), (5, .int k1), (0, .ref b), (1, .ref a), (2, .ref (Y 0)), (3, .ref o), (4, .int x4)]) hx hb d_law_740 hl (by decide) rfl (fun ls hl => ?_)
  refine lv_aload_n hx hb d_law_742 rfl (lv_at hl 4 rfl) ?_
  refine W_callY (va_runV (As := []) (rest := []) ⟨hx, hb, hml, hown, hts⟩ (c_Mo_thrown l K Y (σ := μ1) rfl) (cwV 0 hts (gd_V wd_996 wd_997 wd_998 wd_10 wd_999) rfl rfl rfl dv_Mo_thrown ⟨Nat.le_of_ble_eq_true rfl, Nat.le_of_ble_eq_true rfl⟩) (W_pY hHK.1.1 hP hD) rfl rfl hl.1 rfl (lv_room (Nat.le_of_ble_eq_true rfl)) d_law_743 ⟨hc, hs⟩) hP hD hS (fun H locs hP hD hS => ?_)
  rw [hm2]
  refine lv_iload hx hb d_law_746 (lv_at hl 1 rfl) ?_
  refine lv_icmp_eq (tgt := 753) hx hb d_law_748 (by decide) (fun _ => ?_) (fun c9 => absurd rfl c9)
  refine lv_iload hx hb d_law_753 (lv_at hl 1 rfl) ?_
  refine lv_if_ne (tgt := 770) hx hb d_law_755 (by decide) (fun c9 => ?_) (fun c9 => ?_)
  · refine lv_goto (tgt := 1009) hx hb d_law_770 (by decide) ?_
    exact kk A1 B1 σ1 τ1 μ1 f1 H locs ls hsim hP hD hS (lv_sub hl [2, 3, 4, 5, 6] rfl)
  · have c9 : k1 = 0 := by first | exact c9 | exact Decidable.not_not.mp c9
    refine lv_aload_n hx hb d_law_758 rfl (lv_at hl 5 rfl) ?_
    refine lv_iconst (v := 0) hx hb d_law_759 (by decide) ?_
    refine va_lald hx hb hHK.1.1.1 hP 59 1 rfl rfl (show vp_in 0 1 by show inR 0 1; decide) d_law_760 ?_
    refine lv_iload hx hb d_law_761 (lv_at hl 0 rfl) ?_
    refine lv_i2l hx hb d_law_763 rfl ?_
    refine W.lcmp hx hb d_law_764 ?_
    rw [show f1 ((0 : Int32).toNatClampNeg) = b1.toInt64 from hm3 c9, lg_cmp_rf]
    refine lv_if_eq (tgt := 770) hx hb d_law_765 (by decide) (fun _ => ?_) (fun c9 => absurd rfl c9)
    refine lv_goto (tgt := 1009) hx hb d_law_770 (by decide) ?_
    exact kk A1 B1 σ1 τ1 μ1 f1 H locs ls hsim hP hD hS (lv_sub hl [2, 3, 4, 5, 6] rfl)
set_option maxHeartbeats 4000000 in
set_option maxRecDepth 100000 in
theorem lc_member (hlt : l.stackTraces = false) (C : Lx p s m c K b L xs) (hP : va_P K.1 vwCl (wW K a A B σ τ o f Y μ) H) (hD : va_D (fun q => s.heap.size ≤ q) (wW K a A B σ τ o f Y μ)) (hS : va_S (fun q => s.heap.size ≤ q) s.heap H locs) (hl : lv_has ls 7 [(0, .ref b), (1, .ref a), (2, .ref (Y 0)), (3, .ref o), (4, .int x4)]) (v1 : vp_in (x4 + 1) L) (v2 : vp_in (x4 + 2) L) (v3 : vp_in (x4 + 3) L) (v4 : vp_in (x4 + 4) L) (hc : cells + 1 ≤ 1125) (hs : slots + 6 ≤ 13651) (hq : Sx Sim (p_LanguageServer_member σ τ (xs (x4 + 1).toNatClampNeg) (xs (x4 + 2).toNatClampNeg)) (p_Mo_member μ (xs (x4 + 1).toNatClampNeg) (xs (x4 + 2).toNatClampNeg)) [(0, 0), (3, 1)]) (kk : Lt p l e s m below meth c K a b o Y x4 Q Sim (cells + 1) (slots + 6)) : W p l e room_1 s m #[Value.ref b] below meth c H locs cells slots Q (F0 m 773 ls []) := by
  obtain ⟨hx, hb, hml, hown, hts, hX, hbl, hHK⟩ := C
  have hg : ∀ w ∈ Tg, w.before #[Value.ref b] s = true := fun w q => hts w (List.mem_cons_of_mem _ q)
  have hbA : ¬ (fun q : Nat => s.heap.size ≤ q) b := Nat.not_le.mpr hbl
  unfold Lt at kk
  refine lv_aload_n hx hb d_law_773 rfl (lv_at hl 1 rfl) ?_
  refine lv_aload_n hx hb d_law_774 rfl (lv_at hl 0 rfl) ?_
  refine lv_iload hx hb d_law_775 (lv_at hl 4 rfl) ?_
  refine lv_iconst (v := 1) hx hb d_law_777 (by decide) ?_
  refine lv_iadd hx hb d_law_778 ?_
  refine va_sld hx hb hX hbl hbA hS v1 d_law_779 ?_
  refine lv_aload_n hx hb d_law_780 rfl (lv_at hl 0 rfl) ?_
  refine lv_iload hx hb d_law_781 (lv_at hl 4 rfl) ?_
  refine lv_iconst (v := 2) hx hb d_law_783 (by decide) ?_
  refine lv_iadd hx hb d_law_784 ?_
  refine va_sld hx hb hX hbl hbA hS v2 d_law_785 ?_
  refine lv_aload_n hx hb d_law_786 rfl (lv_at hl 3 rfl) ?_
  obtain ⟨A1, B1, σ1, τ1, μ1, f1, k1, b1, hM, hHF, hm1, hm2, hm3, hsim⟩ := hx_member l hlt K a o A B f hq
  refine W_callH (H_runS (As := [.ref a, .int (xs (x4 + 1).toNatClampNeg), .int (xs (x4 + 2).toNatClampNeg), .ref o]) (rest := []) ⟨hx, hb, hml, hown, hts⟩ hM rfl rfl (Nat.le_of_ble_eq_true rfl) (Nat.le_of_ble_eq_true rfl) (pay_in hts (gd_C wd_851)) List.mem_cons_self (hg _ wd_851) (hg _ wd_0) ds_Law_member (hg _ wd_849) (hg _ wd_850) (W_pH hHK hS hP hD) rfl rfl hl.1 rfl (lv_room (Nat.le_of_ble_eq_true rfl)) d_law_787 ⟨hc, hs⟩) hP hD hS hHF (fun H locs hP hD hS => ?_)
  refine lv_istore (lv' := [(5, .int k1), (0, .ref b), (1, .ref a), (2, .ref (Y 0)), (3, .ref o), (4, .int x4)]) hx hb d_law_790 hl (by decide) rfl (fun ls hl => ?_)
  refine lv_aload_n hx hb d_law_792 rfl (lv_at hl 3 rfl) ?_
  refine lv_aload_n hx hb d_law_793 rfl (lv_at hl 1 rfl) ?_
  refine lv_iload hx hb d_law_794 (lv_at hl 5 rfl) ?_
  refine lv_iconst (v := 1) hx hb d_law_796 (by decide) ?_
  refine lv_iadd hx hb d_law_797 ?_
  refine va_sld hx hb hX hbl hbA hS v1 d_law_798 ?_
  refine lv_aload_n hx hb d_law_799 rfl (lv_at hl 1 rfl) ?_
  refine lv_iload hx hb d_law_800 (lv_at hl 5 rfl) ?_
  refine lv_iconst (v := 2) hx hb d_law_802 (by decide) ?_
  refine lv_iadd hx hb d_law_803 ?_
  refine va_sld hx hb hX hbl hbA hS v2 d_law_804 ?_
  refine W_callY (va_runV (As := [.int (xs (x4 + 1).toNatClampNeg), .int (xs (x4 + 2).toNatClampNeg)]) (rest := []) ⟨hx, hb, hml, hown, hts⟩ (c_Mo_member l K Y hm1) (cwV 2 hts (gd_V wd_1251 wd_1252 wd_1253 wd_10 wd_1254) rfl rfl rfl dv_Mo_member ⟨Nat.le_of_ble_eq_true rfl, Nat.le_of_ble_eq_true rfl⟩) (W_pY hHK.1.1 hP hD) rfl rfl hl.1 rfl (lv_room (Nat.le_of_ble_eq_true rfl)) d_law_805 ⟨hc, hs⟩) hP hD hS (fun H locs hP hD hS => ?_)
  refine lv_istore (lv' := [(6, .int b1), (5, .int k1), (0, .ref b), (1, .ref a), (2, .ref (Y 0)), (3, .ref o), (4, .int x4)]) hx hb d_law_808 hl (by decide) rfl (fun ls hl => ?_)
  refine lv_aload_n hx hb d_law_810 rfl (lv_at hl 4 rfl) ?_
  refine W_callY (va_runV (As := []) (rest := []) ⟨hx, hb, hml, hown, hts⟩ (c_Mo_thrown l K Y (σ := μ1) rfl) (cwV 0 hts (gd_V wd_996 wd_997 wd_998 wd_10 wd_999) rfl rfl rfl dv_Mo_thrown ⟨Nat.le_of_ble_eq_true rfl, Nat.le_of_ble_eq_true rfl⟩) (W_pY hHK.1.1 hP hD) rfl rfl hl.1 rfl (lv_room (Nat.le_of_ble_eq_true rfl)) d_law_811 ⟨hc, hs⟩) hP hD hS (fun H locs hP hD hS => ?_)
  rw [hm2]
  refine lv_iload hx hb d_law_814 (lv_at hl 1 rfl) ?_
  refine lv_icmp_eq (tgt := 821) hx hb d_law_816 (by decide) (fun _ => ?_) (fun c9 => absurd rfl c9)
  refine lv_iload hx hb d_law_821 (lv_at hl 1 rfl) ?_
  refine lv_if_ne (tgt := 838) hx hb d_law_823 (by decide) (fun c9 => ?_) (fun c9 => ?_)
  · refine lv_goto (tgt := 1009) hx hb d_law_838 (by decide) ?_
    exact kk A1 B1 σ1 τ1 μ1 f1 H locs ls hsim hP hD hS (lv_sub hl [2, 3, 4, 5, 6] rfl)
  · have c9 : k1 = 0 := by first | exact c9 | exact Decidable.not_not.mp c9
    refine lv_aload_n hx hb d_law_826 rfl (lv_at hl 5 rfl) ?_
    refine lv_iconst (v := 0) hx hb d_law_827 (by decide) ?_
    refine va_lald hx hb hHK.1.1.1 hP 59 1 rfl rfl (show vp_in 0 1 by show inR 0 1; decide) d_law_828 ?_
    refine lv_iload hx hb d_law_829 (lv_at hl 0 rfl) ?_
    refine lv_i2l hx hb d_law_831 rfl ?_
    refine W.lcmp hx hb d_law_832 ?_
    rw [show f1 ((0 : Int32).toNatClampNeg) = b1.toInt64 from hm3 c9, lg_cmp_rf]
    refine lv_if_eq (tgt := 838) hx hb d_law_833 (by decide) (fun _ => ?_) (fun c9 => absurd rfl c9)
    refine lv_goto (tgt := 1009) hx hb d_law_838 (by decide) ?_
    exact kk A1 B1 σ1 τ1 μ1 f1 H locs ls hsim hP hD hS (lv_sub hl [2, 3, 4, 5, 6] rfl)
set_option maxHeartbeats 4000000 in
set_option maxRecDepth 100000 in
theorem lc_rename (hlt : l.stackTraces = false) (C : Lx p s m c K b L xs) (hP : va_P K.1 vwCl (wW K a A B σ τ o f Y μ) H) (hD : va_D (fun q => s.heap.size ≤ q) (wW K a A B σ τ o f Y μ)) (hS : va_S (fun q => s.heap.size ≤ q) s.heap H locs) (hl : lv_has ls 7 [(0, .ref b), (1, .ref a), (2, .ref (Y 0)), (3, .ref o), (4, .int x4)]) (v1 : vp_in (x4 + 1) L) (v2 : vp_in (x4 + 2) L) (v3 : vp_in (x4 + 3) L) (v4 : vp_in (x4 + 4) L) (hc : cells + 1 ≤ 1125) (hs : slots + 6 ≤ 13651) (hq : Sx Sim (p_LanguageServer_rename σ τ (xs (x4 + 1).toNatClampNeg) (((xs (x4 + 2).toNatClampNeg).toInt64 <<< ((32 : Int32).toInt64 &&& 63)) ||| ((xs (x4 + 3).toNatClampNeg).toInt64 &&& 4294967295)) (xs (x4 + 4).toNatClampNeg)) (p_Mo_rename μ (xs (x4 + 1).toNatClampNeg) (((xs (x4 + 2).toNatClampNeg).toInt64 <<< ((32 : Int32).toInt64 &&& 63)) ||| ((xs (x4 + 3).toNatClampNeg).toInt64 &&& 4294967295)) (xs (x4 + 4).toNatClampNeg)) [(4, 0), (3, 1), (1, 2), (2, 3)]) (kk : Lt p l e s m below meth c K a b o Y x4 Q Sim (cells + 1) (slots + 6)) : W p l e room_1 s m #[Value.ref b] below meth c H locs cells slots Q (F0 m 841 ls []) := by
  obtain ⟨hx, hb, hml, hown, hts, hX, hbl, hHK⟩ := C
  have hg : ∀ w ∈ Tg, w.before #[Value.ref b] s = true := fun w q => hts w (List.mem_cons_of_mem _ q)
  have hbA : ¬ (fun q : Nat => s.heap.size ≤ q) b := Nat.not_le.mpr hbl
  unfold Lt at kk
  refine lv_aload_n hx hb d_law_841 rfl (lv_at hl 1 rfl) ?_
  refine lv_aload_n hx hb d_law_842 rfl (lv_at hl 0 rfl) ?_
  refine lv_iload hx hb d_law_843 (lv_at hl 4 rfl) ?_
  refine lv_iconst (v := 1) hx hb d_law_845 (by decide) ?_
  refine lv_iadd hx hb d_law_846 ?_
  refine va_sld hx hb hX hbl hbA hS v1 d_law_847 ?_
  refine lv_aload_n hx hb d_law_848 rfl (lv_at hl 0 rfl) ?_
  refine lv_iload hx hb d_law_849 (lv_at hl 4 rfl) ?_
  refine lv_iconst (v := 2) hx hb d_law_851 (by decide) ?_
  refine lv_iadd hx hb d_law_852 ?_
  refine va_sld hx hb hX hbl hbA hS v2 d_law_853 ?_
  refine lv_i2l hx hb d_law_854 rfl ?_
  refine lv_bipush (v := 32) hx hb d_law_855 (by decide) ?_
  refine lv_lshl hx hb d_law_857 rfl ?_
  refine lv_aload_n hx hb d_law_858 rfl (lv_at hl 0 rfl) ?_
  refine lv_iload hx hb d_law_859 (lv_at hl 4 rfl) ?_
  refine lv_iconst (v := 3) hx hb d_law_861 (by decide) ?_
  refine lv_iadd hx hb d_law_862 ?_
  refine va_sld hx hb hX hbl hbA hS v3 d_law_863 ?_
  refine lv_i2l hx hb d_law_864 rfl ?_
  refine lv_ldc2 hx hb hown (hg _ wd_1292) d_law_865 ?_
  refine lv_land hx hb d_law_868 ?_
  refine lv_lor hx hb d_law_869 ?_
  refine lv_aload_n hx hb d_law_870 rfl (lv_at hl 0 rfl) ?_
  refine lv_iload hx hb d_law_871 (lv_at hl 4 rfl) ?_
  refine lv_iconst (v := 4) hx hb d_law_873 (by decide) ?_
  refine lv_iadd hx hb d_law_874 ?_
  refine va_sld hx hb hX hbl hbA hS v4 d_law_875 ?_
  refine lv_aload_n hx hb d_law_876 rfl (lv_at hl 3 rfl) ?_
  obtain ⟨A1, B1, σ1, τ1, μ1, f1, k1, b1, hM, hHF, hm1, hm2, hm3, hsim⟩ := hx_rename l hlt K a o A B f hq
  refine W_callH (H_runS (As := [.ref a, .int (xs (x4 + 1).toNatClampNeg), .long (((xs (x4 + 2).toNatClampNeg).toInt64 <<< ((32 : Int32).toInt64 &&& 63)) ||| ((xs (x4 + 3).toNatClampNeg).toInt64 &&& 4294967295)), .int (xs (x4 + 4).toNatClampNeg), .ref o]) (rest := []) ⟨hx, hb, hml, hown, hts⟩ hM rfl rfl (Nat.le_of_ble_eq_true rfl) (Nat.le_of_ble_eq_true rfl) (pay_in hts (gd_C wd_859)) List.mem_cons_self (hg _ wd_859) (hg _ wd_0) ds_Law_rename (hg _ wd_857) (hg _ wd_858) (W_pH hHK hS hP hD) rfl rfl hl.1 rfl (lv_room (Nat.le_of_ble_eq_true rfl)) d_law_877 ⟨hc, hs⟩) hP hD hS hHF (fun H locs hP hD hS => ?_)
  refine lv_istore (lv' := [(5, .int k1), (0, .ref b), (1, .ref a), (2, .ref (Y 0)), (3, .ref o), (4, .int x4)]) hx hb d_law_880 hl (by decide) rfl (fun ls hl => ?_)
  refine lv_aload_n hx hb d_law_882 rfl (lv_at hl 3 rfl) ?_
  refine lv_aload_n hx hb d_law_883 rfl (lv_at hl 1 rfl) ?_
  refine lv_iload hx hb d_law_884 (lv_at hl 5 rfl) ?_
  refine lv_iconst (v := 1) hx hb d_law_886 (by decide) ?_
  refine lv_iadd hx hb d_law_887 ?_
  refine va_sld hx hb hX hbl hbA hS v1 d_law_888 ?_
  refine lv_aload_n hx hb d_law_889 rfl (lv_at hl 1 rfl) ?_
  refine lv_iload hx hb d_law_890 (lv_at hl 5 rfl) ?_
  refine lv_iconst (v := 2) hx hb d_law_892 (by decide) ?_
  refine lv_iadd hx hb d_law_893 ?_
  refine va_sld hx hb hX hbl hbA hS v2 d_law_894 ?_
  refine lv_i2l hx hb d_law_895 rfl ?_
  refine lv_bipush (v := 32) hx hb d_law_896 (by decide) ?_
  refine lv_lshl hx hb d_law_898 rfl ?_
  refine lv_aload_n hx hb d_law_899 rfl (lv_at hl 1 rfl) ?_
  refine lv_iload hx hb d_law_900 (lv_at hl 5 rfl) ?_
  refine lv_iconst (v := 3) hx hb d_law_902 (by decide) ?_
  refine lv_iadd hx hb d_law_903 ?_
  refine va_sld hx hb hX hbl hbA hS v3 d_law_904 ?_
  refine lv_i2l hx hb d_law_905 rfl ?_
  refine lv_ldc2 hx hb hown (hg _ wd_1292) d_law_906 ?_
  refine lv_land hx hb d_law_909 ?_
  refine lv_lor hx hb d_law_910 ?_
  refine lv_aload_n hx hb d_law_911 rfl (lv_at hl 1 rfl) ?_
  refine lv_iload hx hb d_law_912 (lv_at hl 5 rfl) ?_
  refine lv_iconst (v := 4) hx hb d_law_914 (by decide) ?_
  refine lv_iadd hx hb d_law_915 ?_
  refine va_sld hx hb hX hbl hbA hS v4 d_law_916 ?_
  refine W_callY (va_runV (As := [.int (xs (x4 + 1).toNatClampNeg), .long (((xs (x4 + 2).toNatClampNeg).toInt64 <<< ((32 : Int32).toInt64 &&& 63)) ||| ((xs (x4 + 3).toNatClampNeg).toInt64 &&& 4294967295)), .int (xs (x4 + 4).toNatClampNeg)]) (rest := []) ⟨hx, hb, hml, hown, hts⟩ (c_Mo_rename l K Y hm1) (cwV 3 hts (gd_V wd_1262 wd_1263 wd_1264 wd_10 wd_1265) rfl rfl rfl dv_Mo_rename ⟨Nat.le_of_ble_eq_true rfl, Nat.le_of_ble_eq_true rfl⟩) (W_pY hHK.1.1 hP hD) rfl rfl hl.1 rfl (lv_room (Nat.le_of_ble_eq_true rfl)) d_law_917 ⟨hc, hs⟩) hP hD hS (fun H locs hP hD hS => ?_)
  refine lv_istore (lv' := [(6, .int b1), (5, .int k1), (0, .ref b), (1, .ref a), (2, .ref (Y 0)), (3, .ref o), (4, .int x4)]) hx hb d_law_920 hl (by decide) rfl (fun ls hl => ?_)
  refine lv_aload_n hx hb d_law_922 rfl (lv_at hl 4 rfl) ?_
  refine W_callY (va_runV (As := []) (rest := []) ⟨hx, hb, hml, hown, hts⟩ (c_Mo_thrown l K Y (σ := μ1) rfl) (cwV 0 hts (gd_V wd_996 wd_997 wd_998 wd_10 wd_999) rfl rfl rfl dv_Mo_thrown ⟨Nat.le_of_ble_eq_true rfl, Nat.le_of_ble_eq_true rfl⟩) (W_pY hHK.1.1 hP hD) rfl rfl hl.1 rfl (lv_room (Nat.le_of_ble_eq_true rfl)) d_law_923 ⟨hc, hs⟩) hP hD hS (fun H locs hP hD hS => ?_)
  rw [hm2]
  refine lv_iload hx hb d_law_926 (lv_at hl 1 rfl) ?_
  refine lv_icmp_eq (tgt := 933) hx hb d_law_928 (by decide) (fun _ => ?_) (fun c9 => absurd rfl c9)
  refine lv_iload hx hb d_law_933 (lv_at hl 1 rfl) ?_
  refine lv_if_ne (tgt := 950) hx hb d_law_935 (by decide) (fun c9 => ?_) (fun c9 => ?_)
  · refine lv_goto (tgt := 1009) hx hb d_law_950 (by decide) ?_
    exact kk A1 B1 σ1 τ1 μ1 f1 H locs ls hsim hP hD hS (lv_sub hl [2, 3, 4, 5, 6] rfl)
  · have c9 : k1 = 0 := by first | exact c9 | exact Decidable.not_not.mp c9
    refine lv_aload_n hx hb d_law_938 rfl (lv_at hl 5 rfl) ?_
    refine lv_iconst (v := 0) hx hb d_law_939 (by decide) ?_
    refine va_lald hx hb hHK.1.1.1 hP 59 1 rfl rfl (show vp_in 0 1 by show inR 0 1; decide) d_law_940 ?_
    refine lv_iload hx hb d_law_941 (lv_at hl 0 rfl) ?_
    refine lv_i2l hx hb d_law_943 rfl ?_
    refine W.lcmp hx hb d_law_944 ?_
    rw [show f1 ((0 : Int32).toNatClampNeg) = b1.toInt64 from hm3 c9, lg_cmp_rf]
    refine lv_if_eq (tgt := 950) hx hb d_law_945 (by decide) (fun _ => ?_) (fun c9 => absurd rfl c9)
    refine lv_goto (tgt := 1009) hx hb d_law_950 (by decide) ?_
    exact kk A1 B1 σ1 τ1 μ1 f1 H locs ls hsim hP hD hS (lv_sub hl [2, 3, 4, 5, 6] rfl)
set_option maxHeartbeats 4000000 in
set_option maxRecDepth 100000 in
theorem lc_count (hlt : l.stackTraces = false) (C : Lx p s m c K b L xs) (hP : va_P K.1 vwCl (wW K a A B σ τ o f Y μ) H) (hD : va_D (fun q => s.heap.size ≤ q) (wW K a A B σ τ o f Y μ)) (hS : va_S (fun q => s.heap.size ≤ q) s.heap H locs) (hl : lv_has ls 7 [(0, .ref b), (1, .ref a), (2, .ref (Y 0)), (3, .ref o), (4, .int x4)]) (v1 : vp_in (x4 + 1) L) (v2 : vp_in (x4 + 2) L) (v3 : vp_in (x4 + 3) L) (v4 : vp_in (x4 + 4) L) (hc : cells + 1 ≤ 1125) (hs : slots + 6 ≤ 13651) (hq : Sx Sim (p_LanguageServer_count σ τ (xs (x4 + 1).toNatClampNeg)) (p_Mo_count μ (xs (x4 + 1).toNatClampNeg)) [(0, 0), (1, 1)]) (kk : Lt p l e s m below meth c K a b o Y x4 Q Sim (cells + 1) (slots + 6)) : W p l e room_1 s m #[Value.ref b] below meth c H locs cells slots Q (F0 m 953 ls []) := by
  obtain ⟨hx, hb, hml, hown, hts, hX, hbl, hHK⟩ := C
  have hg : ∀ w ∈ Tg, w.before #[Value.ref b] s = true := fun w q => hts w (List.mem_cons_of_mem _ q)
  have hbA : ¬ (fun q : Nat => s.heap.size ≤ q) b := Nat.not_le.mpr hbl
  unfold Lt at kk
  refine lv_aload_n hx hb d_law_953 rfl (lv_at hl 1 rfl) ?_
  refine lv_aload_n hx hb d_law_954 rfl (lv_at hl 0 rfl) ?_
  refine lv_iload hx hb d_law_955 (lv_at hl 4 rfl) ?_
  refine lv_iconst (v := 1) hx hb d_law_957 (by decide) ?_
  refine lv_iadd hx hb d_law_958 ?_
  refine va_sld hx hb hX hbl hbA hS v1 d_law_959 ?_
  refine lv_aload_n hx hb d_law_960 rfl (lv_at hl 3 rfl) ?_
  obtain ⟨A1, B1, σ1, τ1, μ1, f1, k1, b1, hM, hHF, hm1, hm2, hm3, hsim⟩ := hx_count l hlt K a o A B f hq
  refine W_callH (H_runS (As := [.ref a, .int (xs (x4 + 1).toNatClampNeg), .ref o]) (rest := []) ⟨hx, hb, hml, hown, hts⟩ hM rfl rfl (Nat.le_of_ble_eq_true rfl) (Nat.le_of_ble_eq_true rfl) (pay_in hts (gd_C wd_887)) List.mem_cons_self (hg _ wd_887) (hg _ wd_0) ds_Law_count (hg _ wd_885) (hg _ wd_886) (W_pH hHK hS hP hD) rfl rfl hl.1 rfl (lv_room (Nat.le_of_ble_eq_true rfl)) d_law_961 ⟨hc, hs⟩) hP hD hS hHF (fun H locs hP hD hS => ?_)
  refine lv_istore (lv' := [(5, .int k1), (0, .ref b), (1, .ref a), (2, .ref (Y 0)), (3, .ref o), (4, .int x4)]) hx hb d_law_964 hl (by decide) rfl (fun ls hl => ?_)
  refine lv_aload_n hx hb d_law_966 rfl (lv_at hl 3 rfl) ?_
  refine lv_aload_n hx hb d_law_967 rfl (lv_at hl 1 rfl) ?_
  refine lv_iload hx hb d_law_968 (lv_at hl 5 rfl) ?_
  refine lv_iconst (v := 1) hx hb d_law_970 (by decide) ?_
  refine lv_iadd hx hb d_law_971 ?_
  refine va_sld hx hb hX hbl hbA hS v1 d_law_972 ?_
  refine W_callY (va_runV (As := [.int (xs (x4 + 1).toNatClampNeg)]) (rest := []) ⟨hx, hb, hml, hown, hts⟩ (c_Mo_count l K Y hm1) (cwV 1 hts (gd_V wd_1288 wd_1289 wd_1290 wd_10 wd_1291) rfl rfl rfl dv_Mo_count ⟨Nat.le_of_ble_eq_true rfl, Nat.le_of_ble_eq_true rfl⟩) (W_pY hHK.1.1 hP hD) rfl rfl hl.1 rfl (lv_room (Nat.le_of_ble_eq_true rfl)) d_law_973 ⟨hc, hs⟩) hP hD hS (fun H locs hP hD hS => ?_)
  refine lv_istore (lv' := [(6, .int b1), (5, .int k1), (0, .ref b), (1, .ref a), (2, .ref (Y 0)), (3, .ref o), (4, .int x4)]) hx hb d_law_976 hl (by decide) rfl (fun ls hl => ?_)
  refine lv_aload_n hx hb d_law_978 rfl (lv_at hl 4 rfl) ?_
  refine W_callY (va_runV (As := []) (rest := []) ⟨hx, hb, hml, hown, hts⟩ (c_Mo_thrown l K Y (σ := μ1) rfl) (cwV 0 hts (gd_V wd_996 wd_997 wd_998 wd_10 wd_999) rfl rfl rfl dv_Mo_thrown ⟨Nat.le_of_ble_eq_true rfl, Nat.le_of_ble_eq_true rfl⟩) (W_pY hHK.1.1 hP hD) rfl rfl hl.1 rfl (lv_room (Nat.le_of_ble_eq_true rfl)) d_law_979 ⟨hc, hs⟩) hP hD hS (fun H locs hP hD hS => ?_)
  rw [hm2]
  refine lv_iload hx hb d_law_982 (lv_at hl 1 rfl) ?_
  refine lv_icmp_eq (tgt := 989) hx hb d_law_984 (by decide) (fun _ => ?_) (fun c9 => absurd rfl c9)
  refine lv_iload hx hb d_law_989 (lv_at hl 1 rfl) ?_
  refine lv_if_ne (tgt := 1006) hx hb d_law_991 (by decide) (fun c9 => ?_) (fun c9 => ?_)
  · refine lv_goto (tgt := 1009) hx hb d_law_1006 (by decide) ?_
    exact kk A1 B1 σ1 τ1 μ1 f1 H locs ls hsim hP hD hS (lv_sub hl [2, 3, 4, 5, 6] rfl)
  · have c9 : k1 = 0 := by first | exact c9 | exact Decidable.not_not.mp c9
    refine lv_aload_n hx hb d_law_994 rfl (lv_at hl 5 rfl) ?_
    refine lv_iconst (v := 0) hx hb d_law_995 (by decide) ?_
    refine va_lald hx hb hHK.1.1.1 hP 59 1 rfl rfl (show vp_in 0 1 by show inR 0 1; decide) d_law_996 ?_
    refine lv_iload hx hb d_law_997 (lv_at hl 0 rfl) ?_
    refine lv_i2l hx hb d_law_999 rfl ?_
    refine W.lcmp hx hb d_law_1000 ?_
    rw [show f1 ((0 : Int32).toNatClampNeg) = b1.toInt64 from hm3 c9, lg_cmp_rf]
    refine lv_if_eq (tgt := 1006) hx hb d_law_1001 (by decide) (fun _ => ?_) (fun c9 => absurd rfl c9)
    refine lv_goto (tgt := 1009) hx hb d_law_1006 (by decide) ?_
    exact kk A1 B1 σ1 τ1 μ1 f1 H locs ls hsim hP hD hS (lv_sub hl [2, 3, 4, 5, 6] rfl)
/-- every call keeps the two sides in step -/
def Stps (Sim : Sto → Sto → Sto → Prop) : Prop := ∀ σ τ μ : Sto, Sim σ τ μ → (∀ (x1 : Int32) (x2 : Int32), Sx Sim (p_LanguageServer_insert σ τ x1 x2) (p_Mo_insert μ x1 x2) [(0, 0), (1, 1), (2, 2)]) ∧ (∀ (x1 : Int64) (x3 : Int32), Sx Sim (p_LanguageServer_append σ τ x1 x3) (p_Mo_append μ x1 x3) [(0, 0), (1, 1), (2, 2)]) ∧ (∀ (x1 : Int32) (x2 : Int32), Sx Sim (p_LanguageServer_delete σ τ x1 x2) (p_Mo_delete μ x1 x2) [(0, 0), (1, 1)]) ∧ (∀ (x1 : Int32), Sx Sim (p_LanguageServer_text σ τ x1) (p_Mo_text μ x1) [(0, 0), (3, 1)]) ∧ Sd Sim (p_LanguageServer_diagnostics σ τ) (p_Mo_diagnostics μ) ∧ (∀ (x1 : Int32) (x2 : Int32), Sx Sim (p_LanguageServer_diagnostic σ τ x1 x2) (p_Mo_diagnostic μ x1 x2) [(0, 0), (3, 1), (1, 2)]) ∧ (∀ (x1 : Int32), Sx Sim (p_LanguageServer_definition σ τ x1) (p_Mo_definition μ x1) [(0, 0), (3, 1)]) ∧ (∀ (x1 : Int32), Sx Sim (p_LanguageServer_type σ τ x1) (p_Mo_type μ x1) [(0, 0), (3, 1)]) ∧ (∀ (x1 : Int32), Sx Sim (p_LanguageServer_references σ τ x1) (p_Mo_references μ x1) [(0, 0), (3, 1)]) ∧ (∀ (x1 : Int32) (x2 : Int32), Sx Sim (p_LanguageServer_reference σ τ x1 x2) (p_Mo_reference μ x1 x2) [(0, 0), (3, 1)]) ∧ (∀ (x1 : Int32), Sx Sim (p_LanguageServer_members σ τ x1) (p_Mo_members μ x1) [(0, 0), (3, 1)]) ∧ (∀ (x1 : Int32) (x2 : Int32), Sx Sim (p_LanguageServer_member σ τ x1 x2) (p_Mo_member μ x1 x2) [(0, 0), (3, 1)]) ∧ (∀ (x1 : Int32) (x2 : Int64) (x4 : Int32), Sx Sim (p_LanguageServer_rename σ τ x1 x2 x4) (p_Mo_rename μ x1 x2 x4) [(4, 0), (3, 1), (1, 2), (2, 3)]) ∧ (∀ (x1 : Int32), Sx Sim (p_LanguageServer_count σ τ x1) (p_Mo_count μ x1) [(0, 0), (1, 1)])
theorem law_go {L i : Nat} (hL : L ≤ 2560) (h : ¬ (Int32.ofNat L - 5 < nI (5 * i))) (hi : 5 * i ≤ L) : 5 * i + 5 ≤ L := by
  by_cases h5 : 5 * i + 5 ≤ L
  · exact h5
  · refine absurd ?_ h
    have e1 : (nI (5 * i)).toInt = ((5 * i : Nat) : Int) := nI_toInt (by omega)
    have e2 : (Int32.ofNat L).toInt = (L : Int) := nI_toInt (n := L) (by omega)
    rw [Int32.lt_iff_toInt_lt, Int32.toInt_sub, e1, e2]
    have e3 : (5 : Int32).toInt = 5 := rfl
    rw [e3, Int.bmod_eq_of_le (by omega) (by omega)]
    omega
theorem law_in {L i k : Nat} (hL : L ≤ 2560) (h : 5 * i + 5 ≤ L) (hk : k < 5) : vp_in (nI (5 * i) + nI k) L := by
  rw [nI_add]
  exact vp_in_nI (by omega) (by omega)
set_option maxHeartbeats 4000000 in
set_option maxRecDepth 100000 in
theorem law_loop {xs : Nat → Int32} (hL : L ≤ 2560) (hlt : l.stackTraces = false) (C : Lx p s m c K b L xs) (hr : meth.sig.returnType = ret) (hlocks : meth.locks = false) (hSt : Stps Sim) : ∀ (n i : Nat), 5 * i ≤ L → L + 1 ≤ 5 * i + n → ∀ (A B : Nat → Nat) (σ τ μ : Sto) (f : Nat → Int64) (H : Heap) (locs : List Loc) (ls : Array Slot), Sim σ τ μ → va_P K.1 vwCl (wW K a A B σ τ o f Y μ) H → va_D (fun q => s.heap.size ≤ q) (wW K a A B σ τ o f Y μ) → va_S (fun q => s.heap.size ≤ q) s.heap H locs → lv_has ls 7 [(0, .ref b), (1, .ref a), (2, .ref (Y 0)), (3, .ref o), (4, .int (nI (5 * i)))] → W p l e room_1 s m #[Value.ref b] below meth c H locs (84 + i) (5357 + 6 * i) (lw_Z below #[Value.ref b] s) (F0 m 23 ls []) := by
  obtain ⟨hx, hb, hml, hown, hts, hX, hbl, hHK⟩ := id C
  have hbA : ¬ (fun q : Nat => s.heap.size ≤ q) b := Nat.not_le.mpr hbl
  intro n
  induction n with
  | zero =>
    intro i h1 h2
    exact absurd h2 (by omega)
  | succ n ih =>
    intro i hi hin A B σ τ μ f H locs ls hsim hP hD hS hl
    refine lv_iload hx hb d_law_23 (lv_at hl 4 rfl) ?_
    refine lv_aload_n hx hb d_law_25 rfl (lv_at hl 0 rfl) ?_
    refine va_slen hx hb hX hbl hbA hS d_law_26 ?_
    refine lv_iconst (v := 5) hx hb d_law_27 (by decide) ?_
    refine lv_isub hx hb d_law_28 ?_
    refine lv_icmp_gt (tgt := 1015) hx hb d_law_29 (by decide) (fun c9 => ?_) (fun c9 => ?_)
    · refine lv_iconst (v := 1) hx hb d_law_1015 (by decide) ?_
      refine va_forget (fun q hq => hS.2.2 q hq) ?_
      refine W.widen (k := 1125) (n := 13651) (by omega) (by omega) ?_
      exact lw_ret hx hb hr hlocks d_law_1016
    · have h5 : 5 * i + 5 ≤ L := law_go hL c9 hi
      have w0 : vp_in (nI (5 * i)) L := vp_in_nI (by omega) (by omega)
      have w1 : vp_in (nI (5 * i) + 1) L := law_in hL h5 (k := 1) (by omega)
      have w2 : vp_in (nI (5 * i) + 2) L := law_in hL h5 (k := 2) (by omega)
      have w3 : vp_in (nI (5 * i) + 3) L := law_in hL h5 (k := 3) (by omega)
      have w4 : vp_in (nI (5 * i) + 4) L := law_in hL h5 (k := 4) (by omega)
      have hc : 84 + i + 1 ≤ 1125 := by omega
      have hs : 5357 + 6 * i + 6 ≤ 13651 := by omega
      have kk : Lt p l e s m below meth c K a b o Y (nI (5 * i)) (lw_Z below #[Value.ref b] s) Sim (84 + i + 1) (5357 + 6 * i + 6) := by
        intro A B σ τ μ f H locs ls hsim hP hD hS hl
        refine lv_iinc (v := nI (5 * (i + 1))) (lv' := [(4, .int (nI (5 * (i + 1)))), (0, .ref b), (1, .ref a), (2, .ref (Y 0)), (3, .ref o)]) hx hb d_law_1009 hl (k := 4) rfl (by show nI (5 * i) + nI 5 = _; exact nI_add _ _) (by decide) rfl (fun ls hl => ?_)
        refine lv_goto (tgt := 23) hx hb d_law_1012 (by decide) ?_
        exact ih (i + 1) (by omega) (by omega) A B σ τ μ f H locs ls hsim hP hD hS (lv_sub hl [1, 2, 3, 4, 0] rfl)
      obtain ⟨t0, t1, t2, t3, t4, t5, t6, t7, t8, t9, t10, t11, t12, t13⟩ := hSt σ τ μ hsim
      refine lv_aload_n hx hb d_law_32 rfl (lv_at hl 0 rfl) ?_
      refine lv_iload hx hb d_law_33 (lv_at hl 4 rfl) ?_
      refine va_sld hx hb hX hbl hbA hS w0 d_law_35 ?_
      refine lv_bipush (v := 15) hx hb d_law_36 (by decide) ?_
      refine lv_iand hx hb d_law_38 ?_
      refine lv_topi (fun z ez => ?_)
      by_cases c_0 : z = 0
      · refine lv_tableIn (off := 69) (tgt := 108) hx hb d_law_39 (by rw [c_0]; decide) (by rw [c_0]; decide) (by rw [c_0]; first | done | rfl | decide) (by decide) ?_
        exact lc_insert hlt C hP hD hS hl w1 w2 w3 w4 hc hs (t0 _ _) kk
      by_cases c_1 : z = 1
      · refine lv_tableIn (off := 137) (tgt := 176) hx hb d_law_39 (by rw [c_1]; decide) (by rw [c_1]; decide) (by rw [c_1]; first | done | rfl | decide) (by decide) ?_
        exact lc_append hlt C hP hD hS hl w1 w2 w3 w4 hc hs (t1 _ _) kk
      by_cases c_2 : z = 2
      · refine lv_tableIn (off := 237) (tgt := 276) hx hb d_law_39 (by rw [c_2]; decide) (by rw [c_2]; decide) (by rw [c_2]; first | done | rfl | decide) (by decide) ?_
        exact lc_delete hlt C hP hD hS hl w1 w2 w3 w4 hc hs (t2 _ _) kk
      by_cases c_3 : z = 3
      · refine lv_tableIn (off := 305) (tgt := 344) hx hb d_law_39 (by rw [c_3]; decide) (by rw [c_3]; decide) (by rw [c_3]; first | done | rfl | decide) (by decide) ?_
        exact lc_text hlt C hP hD hS hl w1 w2 w3 w4 hc hs (t3 _) kk
      by_cases c_4 : z = 4
      · refine lv_tableIn (off := 361) (tgt := 400) hx hb d_law_39 (by rw [c_4]; decide) (by rw [c_4]; decide) (by rw [c_4]; first | done | rfl | decide) (by decide) ?_
        exact lc_diagnostics hlt C hP hD hS hl w1 w2 w3 w4 hc hs t4 kk
      by_cases c_5 : z = 5
      · refine lv_tableIn (off := 374) (tgt := 413) hx hb d_law_39 (by rw [c_5]; decide) (by rw [c_5]; decide) (by rw [c_5]; first | done | rfl | decide) (by decide) ?_
        exact lc_diagnostic hlt C hP hD hS hl w1 w2 w3 w4 hc hs (t5 _ _) kk
      by_cases c_6 : z = 6
      · refine lv_tableIn (off := 442) (tgt := 481) hx hb d_law_39 (by rw [c_6]; decide) (by rw [c_6]; decide) (by rw [c_6]; first | done | rfl | decide) (by decide) ?_
        exact lc_definition hlt C hP hD hS hl w1 w2 w3 w4 hc hs (t6 _) kk
      by_cases c_7 : z = 7
      · refine lv_tableIn (off := 498) (tgt := 537) hx hb d_law_39 (by rw [c_7]; decide) (by rw [c_7]; decide) (by rw [c_7]; first | done | rfl | decide) (by decide) ?_
        exact lc_type hlt C hP hD hS hl w1 w2 w3 w4 hc hs (t7 _) kk
      by_cases c_8 : z = 8
      · refine lv_tableIn (off := 554) (tgt := 593) hx hb d_law_39 (by rw [c_8]; decide) (by rw [c_8]; decide) (by rw [c_8]; first | done | rfl | decide) (by decide) ?_
        exact lc_references hlt C hP hD hS hl w1 w2 w3 w4 hc hs (t8 _) kk
      by_cases c_9 : z = 9
      · refine lv_tableIn (off := 610) (tgt := 649) hx hb d_law_39 (by rw [c_9]; decide) (by rw [c_9]; decide) (by rw [c_9]; first | done | rfl | decide) (by decide) ?_
        exact lc_reference hlt C hP hD hS hl w1 w2 w3 w4 hc hs (t9 _ _) kk
      by_cases c_10 : z = 10
      · refine lv_tableIn (off := 678) (tgt := 717) hx hb d_law_39 (by rw [c_10]; decide) (by rw [c_10]; decide) (by rw [c_10]; first | done | rfl | decide) (by decide) ?_
        exact lc_members hlt C hP hD hS hl w1 w2 w3 w4 hc hs (t10 _) kk
      by_cases c_11 : z = 11
      · refine lv_tableIn (off := 734) (tgt := 773) hx hb d_law_39 (by rw [c_11]; decide) (by rw [c_11]; decide) (by rw [c_11]; first | done | rfl | decide) (by decide) ?_
        exact lc_member hlt C hP hD hS hl w1 w2 w3 w4 hc hs (t11 _ _) kk
      by_cases c_12 : z = 12
      · refine lv_tableIn (off := 802) (tgt := 841) hx hb d_law_39 (by rw [c_12]; decide) (by rw [c_12]; decide) (by rw [c_12]; first | done | rfl | decide) (by decide) ?_
        exact lc_rename hlt C hP hD hS hl w1 w2 w3 w4 hc hs (t12 _ _ _) kk
      by_cases c_13 : z = 13
      · refine lv_tableIn (off := 914) (tgt := 953) hx hb d_law_39 (by rw [c_13]; decide) (by rw [c_13]; decide) (by rw [c_13]; first | done | rfl | decide) (by decide) ?_
        exact lc_count hlt C hP hD hS hl w1 w2 w3 w4 hc hs (t13 _) kk
      have n_0 := lv_neT c_0 (a := 0) rfl
      have n_1 := lv_neT c_1 (a := 1) rfl
      have n_2 := lv_neT c_2 (a := 2) rfl
      have n_3 := lv_neT c_3 (a := 3) rfl
      have n_4 := lv_neT c_4 (a := 4) rfl
      have n_5 := lv_neT c_5 (a := 5) rfl
      have n_6 := lv_neT c_6 (a := 6) rfl
      have n_7 := lv_neT c_7 (a := 7) rfl
      have n_8 := lv_neT c_8 (a := 8) rfl
      have n_9 := lv_neT c_9 (a := 9) rfl
      have n_10 := lv_neT c_10 (a := 10) rfl
      have n_11 := lv_neT c_11 (a := 11) rfl
      have n_12 := lv_neT c_12 (a := 12) rfl
      have n_13 := lv_neT c_13 (a := 13) rfl
      refine lv_tableOut (tgt := 1009) hx hb d_law_39 (by omega) (by decide) ?_
      exact W.widen (k := 84 + i + 1) (n := 5357 + 6 * i + 6) (by omega) (by omega) (kk A B σ τ μ f H locs ls hsim hP hD hS hl)
end LAWC
