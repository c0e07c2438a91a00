/-! what holds of the machine before every token -/
def WFc (c : Cfg) (t : Nat) : Prop :=
  cD c ≤ 8 ∧ (cS c < 17 → cD c = 0) ∧ (cS c = 21 → 1 ≤ cD c ∧ 2 ≤ t ∧ cO c (cD c - 1) = nI (t - 2)) ∧ (∀ j, j < cD c → cO c j = -1 ∨ ∃ x, x + 1 < t ∧ cO c j = nI x) ∧ (7 < cS c → cM c < t) ∧ (cS c = 8 → cM c + 1 = t) ∧ (cS c ≠ 1 → 1 ≤ t) ∧ (13 < cS c → cB c ≤ t) ∧ (cS c = 14 → cB c = t)
theorem op_neg {d t : Nat} {o : Nat → Int32} (h : ∀ j, j < d → o j = -1 ∨ ∃ x, x < t ∧ o j = nI x) : ∀ j, j < d + 1 → (¬ j = d → o j = -1) ∨ ∃ x, x < t ∧ (if j = d then -1 else o j) = nI x := by
  intro j hj
  by_cases e : j = d
  · exact Or.inl (fun z => absurd e z)
  · rw [if_neg e]
    exact (h j (by omega)).imp (fun a _ => a) id
theorem op_nm {d t : Nat} {o : Nat → Int32} (ht : 1 ≤ t) (h : ∀ j, j < d → o j = -1 ∨ ∃ x, x < t ∧ o j = nI x) : ∀ j, j < d + 1 → (if j = d then nI (t - 1) else o j) = -1 ∨ ∃ x, x < t ∧ (if j = d then nI (t - 1) else o j) = nI x := by
  intro j hj
  by_cases e : j = d
  · exact Or.inr ⟨t - 1, by omega, by rw [if_pos e]⟩
  · rw [if_neg e]
    exact h j (by omega)
theorem WF_step {K : Nat → Int32} {t d cl me ss : Nat} {s : Int32} {o : Nat → Int32} {e : Bool} (h : WFc (s, d, o, e, cl, me, ss) t) (hs : S22 s) (hn : cS (stp K t (s, d, o, e, cl, me, ss)) ≠ 0) : WFc (stp K t (s, d, o, e, cl, me, ss)) (t + 1) := by
  have w := ways hs hn
  have hn' : cS (stp K t (s, d, o, e, cl, me, ss)) = nxt s (K t) (K (t + 1)) d (callB (s, d, o, e, cl, me, ss)) e := rfl
  obtain ⟨w1, w2, w3, w4, w5, w6, w7, w8, w9⟩ := h
  simp only [cS, cD, cO, cM, cB] at w1 w2 w3 w4 w5 w6 w7 w8 w9
  have w4' : ∀ j, j < d → o j = -1 ∨ ∃ x, x < t ∧ o j = nI x := fun j hj => (w4 j hj).imp id (fun ⟨x, a, b⟩ => ⟨x, by omega, b⟩)
  unfold WFc
  rw [hn']
  simp only [stp, cS, cD, cO, cE, cC, cM, cB] at hn w ⊢
  generalize nxt s (K t) (K (t + 1)) d (callB (s, d, o, e, cl, me, ss)) e = s' at *
  generalize K t = k at *
  generalize K (t + 1) = k2 at *
  generalize callB (s, d, o, e, cl, me, ss) = call at *
  unfold Way at w
  rcases w with ⟨rfl, rfl, rfl, hsd⟩ | ⟨rfl, rfl, rfl, hsd⟩ | ⟨rfl, rfl, rfl, hsd⟩ | ⟨rfl, rfl, rfl, hsd⟩ | ⟨rfl, rfl, rfl, hsd⟩ | ⟨rfl, rfl, rfl, hsd⟩ | ⟨rfl, rfl, rfl, hsd⟩ | ⟨rfl, rfl, rfl, hsd⟩ | ⟨rfl, rfl, rfl, hsd⟩ | ⟨rfl, rfl, rfl, hsd⟩ | ⟨rfl, rfl, rfl, hsd⟩ | ⟨rfl, rfl, rfl, hsd⟩ | ⟨rfl, rfl, rfl, hsd⟩ | ⟨rfl, rfl, rfl, hsd⟩ | ⟨rfl, rfl, rfl, hsd⟩ | ⟨rfl, rfl, rfl, hsd⟩ | ⟨rfl, rfl, rfl, hsd⟩ | ⟨rfl, rfl, rfl, hsd⟩ | ⟨rfl, rfl, rfl, hsd⟩ | ⟨rfl, rfl, rfl, hsd⟩ | ⟨rfl, rfl, rfl, hsd⟩ | ⟨rfl, rfl, rfl, hsd⟩ | ⟨rfl, rfl, rfl, hsd⟩ | ⟨rfl, rfl, rfl, hsd⟩ | ⟨rfl, rfl, rfl, hsd⟩ | ⟨rfl, rfl, rfl, hsd⟩ | ⟨rfl, rfl, rfl, hsd⟩ | ⟨rfl, rfl, rfl, hsd⟩ | ⟨rfl, rfl, rfl, hsd⟩ | ⟨rfl, rfl, rfl, hsd⟩ | ⟨rfl, rfl, rfl, hsd⟩ | ⟨rfl, rfl, rfl, hsd⟩ | ⟨rfl, rfl, rfl, hsd⟩ | ⟨rfl, rfl, rfl, hsd⟩ | ⟨rfl, rfl, rfl, hsd⟩ | ⟨rfl, rfl, rfl, hsd⟩ | ⟨rfl, rfl, rfl, hsd⟩ | ⟨rfl, rfl, rfl, hsd⟩ | ⟨rfl, rfl, rfl, hsd⟩ | ⟨rfl, rfl, rfl, hsd⟩ | ⟨rfl, rfl, rfl, hsd⟩ | ⟨rfl, rfl, rfl, hsd⟩ | ⟨rfl, rfl, rfl, hsd⟩ | ⟨rfl, rfl, rfl, hsd⟩ | ⟨rfl, rfl, rfl, hsd⟩ | ⟨rfl, rfl, rfl, hsd⟩ | ⟨rfl, rfl, rfl, hsd⟩ | ⟨rfl, rfl, rfl, hsd⟩ | ⟨rfl, rfl, rfl, hsd⟩ | ⟨rfl, rfl, rfl, hsd⟩ | ⟨rfl, rfl, rfl, hsd⟩ | ⟨rfl, rfl, rfl, hsd⟩ | ⟨rfl, rfl, rfl, hsd⟩ | ⟨rfl, rfl, rfl, hsd⟩ | ⟨rfl, rfl, rfl, hsd⟩ | ⟨rfl, rfl, rfl, hsd⟩ | ⟨rfl, rfl, rfl, hsd⟩ | ⟨rfl, rfl, rfl, hsd⟩ <;> simp [dpt, opn] at w2 w3 w5 w6 w7 w8 w9 ⊢ <;> (repeat' apply And.intro) <;> first | omega | exact w4' | (intro j hj; exact w4' j (by omega)) | exact op_neg w4' | exact op_nm w7 w4'

theorem WF_all {K : Nat → Int32} : ∀ t, cS (tr K t) ≠ 0 → WFc (tr K t) t
  | 0, _ => by
    unfold WFc tr
    simp [cS, cD, cO, cM, cB]
  | t + 1, h => WF_step (WF_all t (tr_alive h)) ((tr_mem K t).resolve_left (tr_alive h)) h
def WGc (c : Cfg) (t : Nat) : Prop := (cS c = 1 → 4 * cC c ≤ t) ∧ (cS c = 2 → 4 * cC c + 1 ≤ t) ∧ (cS c = 3 → 4 * cC c ≤ t + 2) ∧ (3 < cS c → 4 * cC c ≤ t + 1) ∧ (2 < cS c → 1 ≤ cC c)
theorem WG_step {K : Nat → Int32} {t d cl me ss : Nat} {s : Int32} {o : Nat → Int32} {e : Bool} (h : WGc (s, d, o, e, cl, me, ss) t) (hs : S22 s) (hn : cS (stp K t (s, d, o, e, cl, me, ss)) ≠ 0) : WGc (stp K t (s, d, o, e, cl, me, ss)) (t + 1) := by
  have w := ways hs hn
  have hn' : cS (stp K t (s, d, o, e, cl, me, ss)) = nxt s (K t) (K (t + 1)) d (callB (s, d, o, e, cl, me, ss)) e := rfl
  obtain ⟨w1, w2, w3, w4, w5⟩ := h
  simp only [cS, cC] at w1 w2 w3 w4 w5
  unfold WGc
  rw [hn']
  simp only [stp, cS, cD, cO, cE, cC, cM, cB] at hn w ⊢
  generalize nxt s (K t) (K (t + 1)) d (callB (s, d, o, e, cl, me, ss)) e = s' at *
  generalize K t = k at *
  generalize K (t + 1) = k2 at *
  generalize callB (s, d, o, e, cl, me, ss) = call at *
  unfold Way at w
  rcases w with ⟨rfl, rfl, rfl, hsd⟩ | ⟨rfl, rfl, rfl, hsd⟩ | ⟨rfl, rfl, rfl, hsd⟩ | ⟨rfl, rfl, rfl, hsd⟩ | ⟨rfl, rfl, rfl, hsd⟩ | ⟨rfl, rfl, rfl, hsd⟩ | ⟨rfl, rfl, rfl, hsd⟩ | ⟨rfl, rfl, rfl, hsd⟩ | ⟨rfl, rfl, rfl, hsd⟩ | ⟨rfl, rfl, rfl, hsd⟩ | ⟨rfl, rfl, rfl, hsd⟩ | ⟨rfl, rfl, rfl, hsd⟩ | ⟨rfl, rfl, rfl, hsd⟩ | ⟨rfl, rfl, rfl, hsd⟩ | ⟨rfl, rfl, rfl, hsd⟩ | ⟨rfl, rfl, rfl, hsd⟩ | ⟨rfl, rfl, rfl, hsd⟩ | ⟨rfl, rfl, rfl, hsd⟩ | ⟨rfl, rfl, rfl, hsd⟩ | ⟨rfl, rfl, rfl, hsd⟩ | ⟨rfl, rfl, rfl, hsd⟩ | ⟨rfl, rfl, rfl, hsd⟩ | ⟨rfl, rfl, rfl, hsd⟩ | ⟨rfl, rfl, rfl, hsd⟩ | ⟨rfl, rfl, rfl, hsd⟩ | ⟨rfl, rfl, rfl, hsd⟩ | ⟨rfl, rfl, rfl, hsd⟩ | ⟨rfl, rfl, rfl, hsd⟩ | ⟨rfl, rfl, rfl, hsd⟩ | ⟨rfl, rfl, rfl, hsd⟩ | ⟨rfl, rfl, rfl, hsd⟩ | ⟨rfl, rfl, rfl, hsd⟩ | ⟨rfl, rfl, rfl, hsd⟩ | ⟨rfl, rfl, rfl, hsd⟩ | ⟨rfl, rfl, rfl, hsd⟩ | ⟨rfl, rfl, rfl, hsd⟩ | ⟨rfl, rfl, rfl, hsd⟩ | ⟨rfl, rfl, rfl, hsd⟩ | ⟨rfl, rfl, rfl, hsd⟩ | ⟨rfl, rfl, rfl, hsd⟩ | ⟨rfl, rfl, rfl, hsd⟩ | ⟨rfl, rfl, rfl, hsd⟩ | ⟨rfl, rfl, rfl, hsd⟩ | ⟨rfl, rfl, rfl, hsd⟩ | ⟨rfl, rfl, rfl, hsd⟩ | ⟨rfl, rfl, rfl, hsd⟩ | ⟨rfl, rfl, rfl, hsd⟩ | ⟨rfl, rfl, rfl, hsd⟩ | ⟨rfl, rfl, rfl, hsd⟩ | ⟨rfl, rfl, rfl, hsd⟩ | ⟨rfl, rfl, rfl, hsd⟩ | ⟨rfl, rfl, rfl, hsd⟩ | ⟨rfl, rfl, rfl, hsd⟩ | ⟨rfl, rfl, rfl, hsd⟩ | ⟨rfl, rfl, rfl, hsd⟩ | ⟨rfl, rfl, rfl, hsd⟩ | ⟨rfl, rfl, rfl, hsd⟩ | ⟨rfl, rfl, rfl, hsd⟩ <;> simp at w1 w2 w3 w4 w5 ⊢ <;> omega
theorem WG_all {K : Nat → Int32} : ∀ t, cS (tr K t) ≠ 0 → WGc (tr K t) t
  | 0, _ => by
    unfold WGc tr
    simp [cS, cC]
  | t + 1, h => WG_step (WG_all t (tr_alive h)) ((tr_mem K t).resolve_left (tr_alive h)) h
