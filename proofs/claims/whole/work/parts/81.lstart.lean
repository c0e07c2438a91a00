theorem tl_of {w : Cond} (h : w ∈ tables_1) : w ∈ lw_tbl := List.mem_append_right (k2_sels lw_privs) h
theorem tl_1 {w : Cond} {i : Nat} (h : tables_1_1[i]? = some w) : w ∈ lw_tbl := tl_of (List.mem_append_left _ (List.mem_of_getElem? h))
theorem tl_3 {w : Cond} {i : Nat} (h : tables_1_3[i]? = some w) : w ∈ lw_tbl := tl_of (List.mem_append_right _ (List.mem_append_right _ (List.mem_append_left _ (List.mem_of_getElem? h))))
theorem tl_4 {w : Cond} {i : Nat} (h : tables_1_4[i]? = some w) : w ∈ lw_tbl := tl_of (List.mem_append_right _ (List.mem_append_right _ (List.mem_append_right _ (List.mem_append_left _ (List.mem_of_getElem? h)))))
theorem arr_known {args : Array Value} {s : State} {ty : FieldType} (h : (Cond.arrayClass ty).before args s = true) : ∃ cA : ClassId, ArrOfT s cA ty ∧ s.vm.findClass ("[" ++ ty.toString) = some cA := by
  obtain ⟨cA, kA, comp, h1, h2, h3⟩ := Cond.arrayClass_spec (args := args) (first := s) (o := none) (idx := []) h
  exact ⟨cA, fun n z => ⟨fun k h => (by cases h), kA, h2, comp, h3⟩, h1⟩
theorem sr_any {A : Array Value} {s : State} {cls t : String} {i : Nat} (h : (Cond.stringRef cls i t).before A s = true) : (Cond.stringRef cls i t).before #[] s = true := h
theorem xk_of {A : Array Value} {s : State} (hts : ∀ w ∈ lw_tbl, w.before A s = true) : XK s := by
  refine ⟨?_, ?_, ?_⟩
  · unfold xkC
    simp only [List.forall_mem_cons, List.not_mem_nil, false_implies, implies_true, and_true]
    exact ⟨va_Nw.of rfl (hts _ (tl_3 (i := 128) rfl)), va_Nw.of rfl (hts _ (tl_3 (i := 196) rfl)), va_Nw.of rfl (hts _ (tl_4 (i := 27) rfl))⟩
  · unfold xkD
    simp only [List.forall_mem_cons, List.not_mem_nil, false_implies, implies_true, and_true]
    exact ⟨va_Nw.of rfl (hts _ (tl_3 (i := 129) rfl)), va_Nw.of rfl (hts _ (tl_3 (i := 130) rfl)), va_Nw.of rfl (hts _ (tl_3 (i := 131) rfl)), va_Nw.of rfl (hts _ (tl_3 (i := 132) rfl)), va_Nw.of rfl (hts _ (tl_3 (i := 133) rfl)), va_Nw.of rfl (hts _ (tl_3 (i := 134) rfl))⟩
  · unfold xkS
    simp only [List.forall_mem_cons, List.not_mem_nil, false_implies, implies_true, and_true]
    exact ⟨sr_any (hts _ (tl_3 (i := 167) rfl)), sr_any (hts _ (tl_3 (i := 203) rfl)), sr_any (hts _ (tl_3 (i := 234) rfl)), sr_any (hts _ (tl_3 (i := 235) rfl)), sr_any (hts _ (tl_4 (i := 12) rfl)), sr_any (hts _ (tl_4 (i := 34) rfl)), sr_any (hts _ (tl_4 (i := 48) rfl)), sr_any (hts _ (tl_4 (i := 61) rfl)), sr_any (hts _ (tl_4 (i := 77) rfl)), sr_any (hts _ (tl_4 (i := 107) rfl)), sr_any (hts _ (tl_4 (i := 116) rfl)), sr_any (hts _ (tl_4 (i := 136) rfl)), sr_any (hts _ (tl_4 (i := 148) rfl)), sr_any (hts _ (tl_4 (i := 164) rfl)), sr_any (hts _ (tl_4 (i := 172) rfl))⟩
theorem kn_of {A : Array Value} {s : State} (hts : ∀ w ∈ lw_tbl, w.before A s = true) : KN s := ⟨va_Nw.of rfl (hts _ (tl_4 (i := 0) rfl)), va_Nw.of rfl (hts _ (tl_4 (i := 147) rfl))⟩
theorem kc_of {A : Array Value} {s : State} (hts : ∀ w ∈ lw_tbl, w.before A s = true) : KC s := ⟨va_Nw.of rfl (hts _ (tl_1 (i := 31) rfl)), va_Nw.of rfl (hts _ (tl_1 (i := 37) rfl)), va_Nw.of rfl (hts _ (tl_1 (i := 56) rfl)), va_Nw.of rfl (hts _ (tl_1 (i := 149) rfl))⟩
set_option maxRecDepth 100000 in
theorem nc_of {A : Array Value} {s : State} (h : (Jvm.Cond.and given_1 narrow_1).before A s = true) : NC s :=
  have hs := flat_of_before _ h
  ⟨va_Nc.of (hs _ (by decide +kernel)), va_Nc.of (hs _ (by decide +kernel)), va_Nc.of (hs _ (by decide +kernel))⟩
set_option maxRecDepth 100000 in
theorem xz_of {A : Array Value} {s : State} (hts : ∀ w ∈ lw_tbl, w.before A s = true) (h : (Jvm.Cond.and given_1 narrow_1).before A s = true) : XZ (fun q => s.heap.size ≤ q) s :=
  have hs := flat_of_before _ h
  ⟨xs_of (hts _ (tl_3 (i := 153) rfl)) (hs _ (by decide +kernel)) (fun _ h => Nat.not_le.mpr h), xs_of (hts _ (tl_3 (i := 155) rfl)) (hs _ (by decide +kernel)) (fun _ h => Nat.not_le.mpr h)⟩
theorem k_of {A : Array Value} {s : State} (hts : ∀ w ∈ lw_tbl, w.before A s = true) : ∃ K : Kst, RK K s := by
  have hg : ∀ w ∈ Tg, w.before A s = true := fun w h => hts w (List.mem_filter.mp h).1
  obtain ⟨c0, i0, h0⟩ := u_known hg in_LS (hg _ wd_22)
  obtain ⟨c1, i1, h1⟩ := u_known hg in_Reading (hg _ wd_30)
  obtain ⟨c2, i2, h2⟩ := u_known hg in_Text (hg _ wd_36)
  obtain ⟨c3, i3, h3⟩ := u_known hg in_Tokens (hg _ wd_55)
  obtain ⟨c4, i4, h4⟩ := u_known hg in_Outline (hg _ wd_91)
  obtain ⟨c5, i5, h5⟩ := u_known hg in_Complaints (hg _ wd_148)
  obtain ⟨c6, i6, h6⟩ := u_known hg in_Parser (hg _ wd_161)
  obtain ⟨c7, i7, h7⟩ := u_known hg in_Declarer (hg _ wd_192)
  obtain ⟨c8, i8, h8⟩ := u_known hg in_Judge (hg _ wd_217)
  obtain ⟨c9, i9, h9⟩ := u_known hg in_Mo (hg _ wd_894)
  obtain ⟨ci, a1, a2⟩ := arr_known (hg _ wd_53)
  obtain ⟨cl, b1, b2⟩ := arr_known (hg _ wd_89)
  obtain ⟨cz, z1, z2⟩ := arr_known (hg _ wd_268)
  refine ⟨((fun k => match k with | 0 => c0 | 1 => c1 | 2 => c2 | 3 => c3 | 4 => c4 | 5 => c5 | 6 => c6 | 7 => c7 | 8 => c8 | _ => c9, fun k => match k with | 0 => i0 | 1 => i1 | 2 => i2 | 3 => i3 | 4 => i4 | 5 => i5 | 6 => i6 | 7 => i7 | 8 => i8 | _ => i9), ci, cl, cz), ⟨?_, ?_⟩, kn_of hts⟩
  · intro k q hq
    match k, hq with
    | 0, hq => cases hq; exact h0
    | 1, hq => cases hq; exact h1
    | 2, hq => cases hq; exact h2
    | 3, hq => cases hq; exact h3
    | 4, hq => cases hq; exact h4
    | 5, hq => cases hq; exact h5
    | 6, hq => cases hq; exact h6
    | 7, hq => cases hq; exact h7
    | 8, hq => cases hq; exact h8
    | 9, hq => cases hq; exact h9
    | k + 10, hq => simp [vwCl] at hq
  · intro k q hq
    match k, hq with
    | 0, hq => cases hq; exact ⟨a1, a2⟩
    | 1, hq => cases hq; exact ⟨b1, b2⟩
    | 2, hq => cases hq; exact ⟨z1, z2⟩
    | k + 3, hq => simp at hq
