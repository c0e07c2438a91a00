/-! meanings mean themselves -/
/-- a declaration that is the first of its like -/
def Dcl (K : Nat → Int32) (N : Nat) (W : Nat → Int64) (m : Nat) : Prop := m < N ∧ (an0 K N W m).1 = nI m ∧ (ro K m = 1 ∨ ro K m = 2 ∨ ro K m = 3 ∨ ro K m = 4 ∨ ro K m = 5)
def MV (K : Nat → Int32) (N : Nat) (W : Nat → Int64) (u : Nat) (v : Int32) : Prop := v = -1 ∨ ∃ m, v = nI m ∧ Dcl K N W m ∧ W m = W u
theorem dcl_1 {K : Nat → Int32} {N : Nat} {W : Nat → Int64} {w : Int64} {c : Nat} (h : clw K N W w = some c) : Dcl K N W (ctA K c N) := by
  obtain ⟨_, q2, q3, q4⟩ := fi1_some h
  have hc : c < cC (tr K N) := by omega
  obtain ⟨a, b, d⟩ := ct_ok (K := K) N c hc
  have r1 : ro K (ctA K c N) = 1 := (ro_i K _).1.mpr b
  have ew : W (ctA K c N) = w := of_decide_eq_true q3
  refine ⟨a, ?_, Or.inl r1⟩
  unfold an0
  rw [if_pos r1, if_pos (by rw [ew, d]; exact h)]
theorem dcl_m {K : Nat → Int32} {N : Nat} {W : Nat → Int64} {w : Int64} {s m : Nat} (h : mem K N W w s = some m) : Dcl K N W m := by
  obtain ⟨_, q2, q3, q4⟩ := fi1_some h
  obtain ⟨r, e1, e2⟩ := of_decide_eq_true q3
  have d0 : dup K W m = none := by
    refine fi1_no (fun v _ v2 => decide_eq_false (fun z => ?_))
    have := q4 v (Nat.zero_le _) (by omega)
    exact of_decide_eq_false this ⟨z.1, z.2.1.trans e1, z.2.2.trans e2⟩
  refine ⟨by omega, ?_, by rcases r with z | z; exact Or.inr (Or.inl z); exact Or.inr (Or.inr (Or.inl z))⟩
  unfold an0
  rw [if_neg (by rcases r with z | z <;> rw [z] <;> decide), if_neg (by rcases r with z | z <;> rw [z] <;> decide), if_neg (by rcases r with z | z <;> rw [z] <;> decide), if_pos r, if_pos d0]
theorem dcl_l {K : Nat → Int32} {N : Nat} {W : Nat → Int64} {t b m : Nat} (hb : b ≤ N) (h : loc K W t b = some m) : Dcl K N W m := by
  obtain ⟨_, q2, q3, q4⟩ := fi1_some h
  obtain ⟨r, e1, e2, e3⟩ := of_decide_eq_true q3
  have d0 : loc K W m m = none := by
    refine fi1_no (fun v _ v2 => decide_eq_false (fun z => ?_))
    have := q4 v (Nat.zero_le _) (by omega)
    exact of_decide_eq_false this ⟨z.1, z.2.1.trans e1, z.2.2.1.trans e2, z.2.2.2.trans e3⟩
  refine ⟨by omega, ?_, by rcases r with z | z; exact Or.inr (Or.inr (Or.inr (Or.inl z))); exact Or.inr (Or.inr (Or.inr (Or.inr z)))⟩
  unfold an0
  rw [if_neg (by rcases r with z | z <;> rw [z] <;> decide), if_neg (by rcases r with z | z <;> rw [z] <;> decide), if_neg (by rcases r with z | z <;> rw [z] <;> decide), if_neg (by rcases r with z | z <;> rw [z] <;> decide), if_pos r, if_pos d0]
theorem mng_mv {K : Nat → Int32} {N : Nat} {W : Nat → Int64} {t st : Nat} {bef : Int32} (hst : st ≤ N) : MV K N W t (oI (mng K N W t st bef)) := by
  have hw : ∀ w, MV K N W t (oI (want0 K N W t bef w)) := by
    intro w
    unfold want0
    cases q : fnd0 K N W t bef with
    | none => exact Or.inl rfl
    | some u =>
      obtain ⟨s, hs⟩ := fm_mem q
      show MV K N W t (oI (if ro K u = w then some u else none))
      by_cases e : ro K u = w
      · rw [if_pos e]; exact Or.inr ⟨u, rfl, dcl_m hs, (of_decide_eq_true (fi1_some hs).2.2.1).2.2⟩
      · rw [if_neg e]; exact Or.inl rfl
  unfold mng
  by_cases e : bef = -2
  · rw [if_pos e]; exact Or.inl rfl
  · rw [if_neg e]
    by_cases e9 : ro K t = 9
    · rw [if_pos e9]
      cases q : loc K W t st with
      | none => exact hw _
      | some m => exact Or.inr ⟨m, rfl, dcl_l hst q, (of_decide_eq_true (fi1_some q).2.2.1).2.2.2⟩
    · rw [if_neg e9]; exact hw _
theorem an0_mv {K : Nat → Int32} {N : Nat} {W : Nat → Int64} {u : Nat} (hu : u < N) : MV K N W u (an0 K N W u).1 := by
  by_cases self : (an0 K N W u).1 = nI u ∧ (ro K u = 1 ∨ ro K u = 2 ∨ ro K u = 3 ∨ ro K u = 4 ∨ ro K u = 5)
  · exact Or.inr ⟨u, self.1, ⟨hu, self.1, self.2⟩, rfl⟩
  have key : (an0 K N W u).1 = -1 ∨ (an0 K N W u).1 = nI u ∧ (ro K u = 1 ∨ ro K u = 2 ∨ ro K u = 3 ∨ ro K u = 4 ∨ ro K u = 5) ∨ ∃ c, clw K N W (W u) = some c ∧ (an0 K N W u).1 = nI (ctA K c N) := by
    unfold an0
    by_cases c1 : ro K u = 1
    · rw [if_pos c1]
      by_cases q : clw K N W (W u) = some (cC (tr K u))
      · rw [if_pos q]; exact Or.inr (Or.inl ⟨rfl, Or.inl c1⟩)
      · rw [if_neg q]; exact Or.inl rfl
    rw [if_neg c1]
    by_cases c2 : ro K u = 7 ∨ ro K u = 8
    · rw [if_pos c2]
      cases q : clw K N W (W u) with
      | none => exact Or.inl rfl
      | some c => exact Or.inr (Or.inr ⟨c, rfl, rfl⟩)
    rw [if_neg c2]
    by_cases c3 : ro K u = 6
    · rw [if_pos c3]
      cases q : clw K N W (W u) with
      | none => exact Or.inl rfl
      | some c =>
        show (if cirB K N W (cls K u) = true then ((-1, 8) : Int32 × Int32) else (nI (ctA K c N), 0)).1 = -1 ∨ _ ∨ ∃ d, some c = some d ∧ (if cirB K N W (cls K u) = true then ((-1, 8) : Int32 × Int32) else (nI (ctA K c N), 0)).1 = nI (ctA K d N)
        by_cases z : cirB K N W (cls K u) = true
        · rw [if_pos z]; exact Or.inl rfl
        · rw [if_neg z]; exact Or.inr (Or.inr ⟨c, rfl, rfl⟩)
    rw [if_neg c3]
    by_cases c4 : ro K u = 2 ∨ ro K u = 3
    · rw [if_pos c4]
      by_cases q : dup K W u = none
      · rw [if_pos q]; exact Or.inr (Or.inl ⟨rfl, by rcases c4 with z | z; exact Or.inr (Or.inl z); exact Or.inr (Or.inr (Or.inl z))⟩)
      · rw [if_neg q]; exact Or.inl rfl
    rw [if_neg c4]
    by_cases c5 : ro K u = 4 ∨ ro K u = 5
    · rw [if_pos c5]
      by_cases q : loc K W u u = none
      · rw [if_pos q]; exact Or.inr (Or.inl ⟨rfl, by rcases c5 with z | z; exact Or.inr (Or.inr (Or.inr (Or.inl z))); exact Or.inr (Or.inr (Or.inr (Or.inr z)))⟩)
      · rw [if_neg q]; exact Or.inl rfl
    rw [if_neg c5]
    exact Or.inl rfl
  rcases key with z | z | ⟨c, z1, z2⟩
  · exact Or.inl z
  · exact absurd z self
  · exact Or.inr ⟨_, z2, dcl_1 z1, of_decide_eq_true (fi1_some z1).2.2.1⟩
/-- a token without a role of a name means nothing -/
theorem an0_0 {K : Nat → Int32} {N : Nat} {W : Nat → Int64} {u : Nat} (h : rr (ro K u) = 0) : (an0 K N W u).1 = -1 := by
  have f : ∀ v : Int32, rr v ≠ 0 → ¬ ro K u = v := fun v hv z => hv (by rw [← z]; exact h)
  unfold an0
  rw [if_neg (f 1 (by decide)), if_neg (fun z => z.elim (f 7 (by decide)) (f 8 (by decide))), if_neg (f 6 (by decide)), if_neg (fun z => z.elim (f 2 (by decide)) (f 3 (by decide))), if_neg (fun z => z.elim (f 4 (by decide)) (f 5 (by decide)))]
/-- all meanings, as they are told -/
def MN (K : Nat → Int32) (N : Nat) (W : Nat → Int64) (σ : Sto) : Prop := ∀ u, u < N → (¬ (ro K u = 9 ∨ ro K u = 10 ∨ ro K u = 11 ∨ ro K u = 12) → σ.2.1 11 u = (an0 K N W u).1) ∧ MV K N W u (σ.2.1 11 u)
