/-! the class's parser follows the machine -/
theorem trS (K : Nat → Int32) (t : Nat) : cS (tr K (t + 1)) = nxt (cS (tr K t)) (K t) (K (t + 1)) (cD (tr K t)) (callB (tr K t)) (cE (tr K t)) := rfl
theorem trD (K : Nat → Int32) (t : Nat) : cD (tr K (t + 1)) = dpt (cS (tr K t)) (K t) (cD (tr K t)) := rfl
theorem trO (K : Nat → Int32) (t : Nat) : cO (tr K (t + 1)) = opn (cS (tr K t)) (K t) (cD (tr K t)) t (cO (tr K t)) := rfl
theorem trE (K : Nat → Int32) (t : Nat) : cE (tr K (t + 1)) = eqm (cS (tr K t)) (K t) (K (t + 1)) (cE (tr K t)) := rfl
theorem trC (K : Nat → Int32) (t : Nat) : cC (tr K (t + 1)) = if cS (tr K t) = 2 then cC (tr K t) + 1 else cC (tr K t) := rfl
theorem trM (K : Nat → Int32) (t : Nat) : cM (tr K (t + 1)) = if cS (tr K t) = 7 then t else cM (tr K t) := rfl
theorem trB (K : Nat → Int32) (t : Nat) : cB (tr K (t + 1)) = if cS (tr K t) = 13 ∨ (K t = 59 ∧ (cS (tr K t) = 20 ∨ cS (tr K t) = 22)) then t + 1 else cB (tr K t) := rfl
/-- the class's sorts and the machine's kinds -/
def SK (x k : Int32) : Prop := (x = 1 ↔ k = 1) ∧ (x = 2 ↔ k = 2) ∧ (x = 3 ↔ k = 4) ∧ (x = 4 ↔ k = 5) ∧ (x = 5 ↔ k = 3) ∧ (x = 6 ↔ k = 6) ∧ (x = 7 ↔ k = 7) ∧ (x = 8 ↔ k = 8) ∧ (x = 40 ↔ k = 40) ∧ (x = 41 ↔ k = 41) ∧ (x = 43 ↔ k = 43) ∧ (x = 44 ↔ k = 44) ∧ (x = 46 ↔ k = 46) ∧ (x = 59 ↔ k = 59) ∧ (x = 61 ↔ k = 61) ∧ (x = 123 ↔ k = 123) ∧ (x = 125 ↔ k = 125)
theorem SK_l : ∀ k, k < 126 → 1 ≤ k → ∀ q ∈ ([(1, 1), (2, 2), (3, 4), (4, 5), (5, 3), (6, 6), (7, 7), (8, 8), (40, 40), (41, 41), (43, 43), (44, 44), (46, 46), (59, 59), (61, 61), (123, 123), (125, 125)] : List (Int32 × Int32)), (nI (ksN k) = q.1 ↔ nI k = q.2) := by decide +kernel
theorem SK_of (k : Nat) (h1 : k < 126) (h2 : 1 ≤ k) : SK (nI (ksN k)) (nI k) := ⟨SK_l k h1 h2 (1, 1) (by simp), SK_l k h1 h2 (2, 2) (by simp), SK_l k h1 h2 (3, 4) (by simp), SK_l k h1 h2 (4, 5) (by simp), SK_l k h1 h2 (5, 3) (by simp), SK_l k h1 h2 (6, 6) (by simp), SK_l k h1 h2 (7, 7) (by simp), SK_l k h1 h2 (8, 8) (by simp), SK_l k h1 h2 (40, 40) (by simp), SK_l k h1 h2 (41, 41) (by simp), SK_l k h1 h2 (43, 43) (by simp), SK_l k h1 h2 (44, 44) (by simp), SK_l k h1 h2 (46, 46) (by simp), SK_l k h1 h2 (59, 59) (by simp), SK_l k h1 h2 (61, 61) (by simp), SK_l k h1 h2 (123, 123) (by simp), SK_l k h1 h2 (125, 125) (by simp)⟩
/-- the tokens as the parser finds them -/
def TKC (K : Nat → Int32) (N : Nat) (σ : Sto) : Prop := N ≤ 121 ∧ σ.1 2 = nI N ∧ (∀ u, u < N → SK (σ.2.1 6 u) (K u)) ∧ (∀ u, N ≤ u → K u = 0)
/-- what the parser leaves alone, or has cleared -/
def JF (σ0 σ : Sto) : Prop := (∀ k, k ≠ 3 → k ≠ 4 → k ≠ 5 → k ≠ 6 → k ≠ 7 → k ≠ 8 → k ≠ 9 → σ.1 k = σ0.1 k) ∧ (∀ a, a ≠ 9 → a ≠ 10 → a ≠ 11 → a ≠ 12 → a ≠ 13 → a ≠ 14 → a ≠ 17 → a ≠ 19 → σ.2.1 a = σ0.2.1 a) ∧ σ.2.2 = σ0.2.2 ∧ (∀ u, σ.2.1 11 u = -1) ∧ (∀ u, σ.2.1 14 u = -1) ∧ (∀ u, σ.2.1 17 u = 0) ∧ σ.1 5 = -1
theorem JF.S {σ0 σ : Sto} {k : Nat} {v : Int32} (h : JF σ0 σ) (hk : k = 3 ∨ k = 4 ∨ k = 6 ∨ k = 7 ∨ k = 8 ∨ k = 9) : JF σ0 (sS σ k v) := by
  refine ⟨fun j a b c d e f g => ?_, h.2.1, h.2.2.1, h.2.2.2.1, h.2.2.2.2.1, h.2.2.2.2.2.1, ?_⟩
  · rw [q_S1, if_neg (by omega)]; exact h.1 j a b c d e f g
  · rw [q_S1, if_neg (by omega)]; exact h.2.2.2.2.2.2
theorem JF.A {σ0 σ : Sto} {a i : Nat} {v : Int32} (h : JF σ0 σ) (ha : a = 9 ∨ a = 10 ∨ a = 12 ∨ a = 13 ∨ a = 19) : JF σ0 (sA σ a i v) := by
  refine ⟨h.1, fun b x1 x2 x3 x4 x5 x6 x7 x8 => ?_, h.2.2.1, fun u => ?_, fun u => ?_, fun u => ?_, h.2.2.2.2.2.2⟩
  · funext u; rw [q_A2, if_neg (by omega), h.2.1 b x1 x2 x3 x4 x5 x6 x7 x8]
  · rw [q_A2, if_neg (by omega)]; exact h.2.2.2.1 u
  · rw [q_A2, if_neg (by omega)]; exact h.2.2.2.2.1 u
  · rw [q_A2, if_neg (by omega)]; exact h.2.2.2.2.2.1 u
/-- what the parser knows before a token, but for its state -/
def JS (K : Nat → Int32) (σ : Sto) (t : Nat) : Prop := σ.1 6 = nI (cD (tr K t)) ∧ (∀ j, j < cD (tr K t) → σ.2.1 19 j = cO (tr K t) j) ∧ (14 < cS (tr K t) → σ.1 9 = b01 (cE (tr K t))) ∧ σ.1 4 = nI (cC (tr K t)) ∧ (7 < cS (tr K t) → σ.1 8 = nI (cM (tr K t))) ∧ (∀ u, σ.2.1 9 u = if u + 1 < t then ro K u else if u + 1 = t then rbT K u else 0) ∧ (∀ u, σ.2.1 10 u = nI (ac K t u)) ∧ (∀ u, σ.2.1 12 u = if u < t ∧ cS (tr K u) = 2 then nI (cC (tr K u)) else -2) ∧ (∀ u, u < t → cS (tr K u) = 2 → σ.2.1 13 (cC (tr K u)) = nI u)
/-- no bracket behind a name: its role is the one that it had -/
theorem ro_eq {K : Nat → Int32} {u : Nat} (h : cS (tr K (u + 1)) ≠ 0) (h2 : ¬ (K (u + 1) = 40 ∧ (cS (tr K (u + 1)) = 20 ∨ cS (tr K (u + 1)) = 8))) : ro K u = rbT K u := by
  unfold ro
  split
  · next h40 =>
    have hm := (tr_mem K u).resolve_left (tr_alive h)
    obtain ⟨a, b⟩ := rb_20 (k := K u) (k2 := K (u + 1)) hm h
    unfold upR
    have c1 : ¬ rbT K u = 9 := fun z => h2 ⟨h40, Or.inl (a.mp (Or.inl z))⟩
    have c2 : ¬ rbT K u = 11 := fun z => h2 ⟨h40, Or.inl (a.mp (Or.inr z))⟩
    have c3 : ¬ rbT K u = 2 := fun z => h2 ⟨h40, Or.inr (b.mp z)⟩
    rw [if_neg c1, if_neg c2, if_neg c3]
  · rfl
section JSTEP
variable {K : Nat → Int32} {σ σ' : Sto} {t : Nat}
/-- the roles behind a step that writes its own token's alone -/
theorem jr_1 (hj : ∀ u, σ.2.1 9 u = if u + 1 < t then ro K u else if u + 1 = t then rbT K u else 0) (ha : cS (tr K t) ≠ 0) (h2 : ¬ (K t = 40 ∧ (cS (tr K t) = 20 ∨ cS (tr K t) = 8))) (hr : ∀ u, σ'.2.1 9 u = if u = t then rbT K t else σ.2.1 9 u) : ∀ u, σ'.2.1 9 u = if u + 1 < t + 1 then ro K u else if u + 1 = t + 1 then rbT K u else 0 := by
  intro u
  rw [hr, hj]
  by_cases e1 : u = t
  · rw [if_pos e1, if_neg (by omega), if_pos (by omega), e1]
  · rw [if_neg e1]
    by_cases e2 : u + 1 < t
    · rw [if_pos e2, if_pos (by omega)]
    · rw [if_neg e2]
      by_cases e3 : u + 1 = t
      · rw [if_pos e3, if_pos (by omega)]
        subst e3
        exact (ro_eq ha h2).symm
      · rw [if_neg e3, if_neg (by omega), if_neg (by omega)]
/-- .. and behind one that writes none -/
theorem jr_0 (hj : ∀ u, σ.2.1 9 u = if u + 1 < t then ro K u else if u + 1 = t then rbT K u else 0) (ha : cS (tr K t) ≠ 0) (h2 : ¬ (K t = 40 ∧ (cS (tr K t) = 20 ∨ cS (tr K t) = 8))) (hz : rbT K t = 0) (hr : ∀ u, σ'.2.1 9 u = σ.2.1 9 u) : ∀ u, σ'.2.1 9 u = if u + 1 < t + 1 then ro K u else if u + 1 = t + 1 then rbT K u else 0 := by
  refine jr_1 hj ha h2 (fun u => ?_)
  by_cases e : u = t
  · rw [if_pos e, hr, hj, e, if_neg (by omega), if_neg (by omega), hz]
  · rw [if_neg e, hr]
/-- the roles behind a bracket that makes a call or a method -/
theorem jr_2 (hj : ∀ u, σ.2.1 9 u = if u + 1 < t then ro K u else if u + 1 = t then rbT K u else 0) (ht : 1 ≤ t) (hr : ∀ u, σ'.2.1 9 u = if u = t then rbT K t else if u = t - 1 then ro K u else σ.2.1 9 u) : ∀ u, σ'.2.1 9 u = if u + 1 < t + 1 then ro K u else if u + 1 = t + 1 then rbT K u else 0 := by
  intro u
  rw [hr, hj]
  by_cases e1 : u = t
  · rw [if_pos e1, if_neg (by omega), if_pos (by omega), e1]
  · rw [if_neg e1]
    by_cases e3 : u = t - 1
    · rw [if_pos e3, if_pos (by omega)]
    · rw [if_neg e3]
      by_cases e2 : u + 1 < t
      · rw [if_pos e2, if_pos (by omega)]
      · rw [if_neg e2, if_neg (by omega), if_neg (by omega), if_neg (by omega)]
theorem ja_1 (hj : ∀ u, σ.2.1 10 u = nI (ac K t u)) (hr : ∀ u, σ'.2.1 10 u = σ.2.1 10 u) (hc : ∀ x, ¬ cnt K t x) : ∀ u, σ'.2.1 10 u = nI (ac K (t + 1) u) := fun u => by rw [hr, hj, ac_n (hc u)]
theorem ja_2 {x : Nat} (hj : ∀ u, σ.2.1 10 u = nI (ac K t u)) (hr : ∀ u, σ'.2.1 10 u = if u = x then σ.2.1 10 u + 1 else σ.2.1 10 u) (hc : ∀ y, y < 121 → (cnt K t y ↔ y = x)) (hx : x < 121) : ∀ u, σ'.2.1 10 u = nI (ac K (t + 1) u) := fun u => by
  rw [hr, hj]
  by_cases h : u < 121
  · by_cases e : u = x
    · rw [if_pos e, ac_y ((hc u h).mpr e), nI_1]
    · rw [if_neg e, ac_n (fun z => e ((hc u h).mp z))]
  · rw [if_neg (by omega), ac_n (fun z => h z.1)]
theorem jt_1 (hj : ∀ u, σ.2.1 12 u = if u < t ∧ cS (tr K u) = 2 then nI (cC (tr K u)) else -2) (hr : ∀ u, σ'.2.1 12 u = σ.2.1 12 u) (hs : ¬ cS (tr K t) = 2) : ∀ u, σ'.2.1 12 u = if u < t + 1 ∧ cS (tr K u) = 2 then nI (cC (tr K u)) else -2 := fun u => by
  rw [hr, hj]
  by_cases e : u = t
  · subst e
    rw [if_neg (fun z => hs z.2), if_neg (fun z => hs z.2)]
  · by_cases e2 : u < t ∧ cS (tr K u) = 2
    · rw [if_pos e2, if_pos ⟨by omega, e2.2⟩]
    · rw [if_neg e2, if_neg (fun z => e2 ⟨by omega, z.2⟩)]
theorem jc_1 (hj : ∀ u, u < t → cS (tr K u) = 2 → σ.2.1 13 (cC (tr K u)) = nI u) (hr : ∀ u, σ'.2.1 13 u = σ.2.1 13 u) (hs : ¬ cS (tr K t) = 2) : ∀ u, u < t + 1 → cS (tr K u) = 2 → σ'.2.1 13 (cC (tr K u)) = nI u := fun u hu h2 => by
  rw [hr]
  by_cases e : u = t
  · subst e; exact absurd h2 hs
  · exact hj u (by omega) h2
end JSTEP
/-- the parser's one step -/
def cdisp (σ : Sto) (x1 x2 : Int32) : Option (Int32 × Sto) := if (8 : Int32) < (σ.1 7) then (if (13 : Int32) < (σ.1 7) then (if (16 : Int32) < (σ.1 7) then p_Parser_nextInExpression σ x1 x2 else p_Parser_nextInBody σ x1 x2) else p_Parser_nextInHead σ x1 x2) else p_Parser_nextInClass σ x1 x2
/-- what the parser's one step gives -/
def PaR (K : Nat → Int32) (σ0 : Sto) (t : Nat) (r : Option (Int32 × Sto)) : Prop := ∃ σ', r = some (cS (tr K (t + 1)), σ') ∧ JF σ0 σ' ∧ (cS (tr K (t + 1)) ≠ 0 → JS K σ' (t + 1))
theorem cC_mono (K : Nat → Int32) (u : Nat) : ∀ t, u ≤ t → cC (tr K u) ≤ cC (tr K t)
  | 0, h => by rw [show u = 0 by omega]; exact Nat.le_refl _
  | t + 1, h => by
    by_cases e : u = t + 1
    · rw [e]; exact Nat.le_refl _
    · have := cC_mono K u t (by omega)
      rw [trC]
      split <;> omega
