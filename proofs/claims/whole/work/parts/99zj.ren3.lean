/-! the new text, as the class writes it -/
def PC (C : Nat → Nat) (n : Nat) (U : Nat → Bool) (l : Nat) (B : Nat → Nat) (A : Nat → Int32) (o t : Nat) : Prop := (∀ i, i < tS C n t - oE C n t → A (o + i) = nI (C (oE C n t + i))) ∧ (U t = false → ∀ i, i < en C n (tS C n t) - tS C n t → A (o + (tS C n t - oE C n t) + i) = nI (C (tS C n t + i))) ∧ (U t = true → ∀ i, i < l → A (o + (tS C n t - oE C n t) + i) = nI (B i))
theorem tx_part (ρ : Sto) (x2 : Int32) {q : Nat} (hq : q ≤ 240) : ∀ (j p fuel : Nat) (σ : Sto) (a : Nat), j + p = q → j < fuel → σ.1 1 = nI a → a + j ≤ 240 → ∃ σ', p_Text_addPart_L3 ρ x2 (nI q) fuel σ (nI p) = some σ' ∧ σ'.1 1 = nI (a + j) ∧ ∀ i, σ'.2.1 2 i = if a ≤ i ∧ i < a + j then ρ.2.1 2 (p + (i - a)) else σ.2.1 2 i := by
  intro j
  induction j with
  | zero =>
    intro p fuel σ a hj hf ha h240
    obtain ⟨m, rfl⟩ : ∃ m, fuel = m + 1 := ⟨fuel - 1, by omega⟩
    refine ⟨σ, ?_, ha, fun i => ?_⟩
    · unfold p_Text_addPart_L3
      rw [if_pos ((q_le (by omega) (by omega)).mpr (by omega))]
    · rw [if_neg (by omega)]
  | succ j ih =>
    intro p fuel σ a hj hf ha h240
    obtain ⟨m, rfl⟩ : ∃ m, fuel = m + 1 := ⟨fuel - 1, by omega⟩
    obtain ⟨σ', e1, e2, e3⟩ := ih (p + 1) m (sS (sA σ 2 a (ρ.2.1 2 p)) 1 (nI a + 1)) (a + 1) (by omega) (by omega) (by show nI a + 1 = _; exact nI_1 a) (by omega)
    refine ⟨σ', ?_, by rw [e2, show a + 1 + j = a + (j + 1) by omega], fun i => ?_⟩
    · unfold p_Text_addPart_L3 p_Text_add
      rw [if_neg (fun z => by have := (q_le (by omega) (by omega)).mp z; omega), if_pos (q_inR (by omega) (by decide)), q_tn (by omega), ha, if_neg (fun z => by have : 240 ≤ a := (q_Lle (by decide) (by omega)).mp z; omega), if_pos (q_inR (by omega) (by decide)), q_tn (by omega), q_bd1, q_A1, ha, nI_1 p]
      exact e1
    · rw [e3 i, q_S2, q_A2, if_pos rfl]
      by_cases c : a = i
      · subst c
        rw [if_neg (by omega), if_pos rfl, if_pos (by omega), Nat.sub_self, Nat.add_zero]
      · by_cases c2 : a ≤ i ∧ i < a + (j + 1)
        · rw [if_pos (by omega), if_pos c2, show p + 1 + (i - (a + 1)) = p + (i - a) by omega]
        · rw [if_neg (by omega), if_neg (fun z => c z.symm), if_neg c2]
section TKR
variable {C : Nat → Nat} {n N : Nat} {U : Nat → Bool} {l : Nat} {x : Int64} {ρ : Sto}
theorem flat {y : Nat} : ∀ {t : Nat}, y ≤ t → (∀ u, y ≤ u → u < t → U u = false) → nE C n U l t + oE C n y = oE C n t + nE C n U l y ∧ oE C n y ≤ oE C n t ∧ nE C n U l y ≤ nE C n U l t
  | 0, h, _ => by rw [show y = 0 by omega]; exact ⟨by omega, Nat.le_refl _, Nat.le_refl _⟩
  | t + 1, h, hu => by
    by_cases e : y = t + 1
    · rw [e]; exact ⟨by omega, Nat.le_refl _, Nat.le_refl _⟩
    · obtain ⟨a, b, c⟩ := flat (y := y) (t := t) (by omega) (fun u u1 u2 => hu u u1 (by omega))
      have os := oE_s (C := C) (n := n) (t := t)
      have eg := en_gt (C := C) (n := n) (p := tS C n t)
      rw [nE_1, hu t (by omega) (by omega), if_neg (by decide), oE_1]
      exact ⟨by omega, by omega, by omega⟩
theorem PC.same {A A' : Nat → Int32} {B : Nat → Nat} {o t : Nat} (h : PC C n U l B A o t) (e : ∀ i, i < tS C n t - oE C n t + (if U t = true then l else en C n (tS C n t) - tS C n t) → A' (o + i) = A (o + i)) : PC C n U l B A' o t := by
  obtain ⟨a, b, c⟩ := h
  refine ⟨fun i hi => by rw [e i (by omega)]; exact a i hi, fun u i hi => ?_, fun u i hi => ?_⟩
  · rw [Nat.add_assoc, e _ (by rw [u, if_neg (by decide)]; omega), ← Nat.add_assoc]; exact b u i hi
  · rw [Nat.add_assoc, e _ (by rw [u, if_pos rfl]; omega), ← Nat.add_assoc]; exact c u i hi
theorem tkrL (hn : n ≤ 240) (hN : N ≤ 121) (l8 : l ≤ 8) (l1 : 1 ≤ l) {m : Nat} (r3 : ρ.1 3 = nI N) (r1 : ρ.1 1 = nI n) (rt : ∀ t, t < N → ρ.2.1 4 t = nI (tS C n t) ∧ ρ.2.1 5 t = nI (en C n (tS C n t))) (rc : ∀ i, i < n → ρ.2.1 2 i = nI (C i)) (hs : ∀ t, t < N → tS C n t < n) (rU : ∀ t, t < N → (U t = true ↔ ρ.2.1 11 t = nI m)) (h240 : nE C n U l N + (n - oE C n N) ≤ 240) : ∀ (j w fuel : Nat) (σ : Sto) (y : Nat), j + w = N → j < fuel → y ≤ w → (∀ t, y ≤ t → t < w → U t = false) → σ.1 1 = nI (nE C n U l y) → (∀ t, t < y → PC C n U l (Bf x l) (σ.2.1 2) (nE C n U l t) t) → ∃ σ', p_Reading_takeRenamed_L14 ρ (nI m) x (nI l) fuel σ (nI (oE C n y)) (nI w) = some σ' ∧ σ'.1 0 = 1 ∧ σ'.1 1 = nI (nE C n U l N + (n - oE C n N)) ∧ RT C n N U l (Bf x l) (σ'.2.1 2) (nE C n U l N + (n - oE C n N)) := by
  -- what is copied
  have copy : ∀ {σ σ1 : Sto} {y w k : Nat}, y ≤ w → w ≤ N → (∀ t, y ≤ t → t < w → U t = false) → oE C n w ≤ k → k ≤ n → (∀ i, σ1.2.1 2 i = if nE C n U l y ≤ i ∧ i < nE C n U l y + (k - oE C n y) then ρ.2.1 2 (oE C n y + (i - nE C n U l y)) else σ.2.1 2 i) → (∀ t, t < y → PC C n U l (Bf x l) (σ.2.1 2) (nE C n U l t) t) → (∀ t, t < w → PC C n U l (Bf x l) (σ1.2.1 2) (nE C n U l t) t) ∧ (∀ i, i < k - oE C n w → σ1.2.1 2 (nE C n U l w + i) = nI (C (oE C n w + i))) := by
    intro σ σ1 y w k yw wN nu kw kn h1 hP
    have cp : ∀ t, y ≤ t → t ≤ w → ∀ i, oE C n t + i < k → σ1.2.1 2 (nE C n U l t + i) = nI (C (oE C n t + i)) := fun t t1 t2 i hi => by
      obtain ⟨f1, f2, f3⟩ := flat (C := C) (n := n) (U := U) (l := l) t1 (fun u u1 u2 => nu u u1 (by omega))
      rw [h1, if_pos ⟨by omega, by omega⟩, show oE C n y + (nE C n U l t + i - nE C n U l y) = oE C n t + i by omega]
      exact rc _ (by omega)
    have mo : ∀ {a b : Nat}, a ≤ b → oE C n a ≤ oE C n b := fun {a b} hab => by
      induction b with
      | zero => rw [show a = 0 by omega]; exact Nat.le_refl _
      | succ b ih =>
        by_cases e : a = b + 1
        · rw [e]; exact Nat.le_refl _
        · have := ih (by omega)
          have os := oE_s (C := C) (n := n) (t := b)
          have := oE_lt (C := C) (n := n) (t := b)
          omega
    refine ⟨fun t ht => ?_, fun i hi => cp w yw (Nat.le_refl _) i (by omega)⟩
    by_cases c : t < y
    · refine (hP t c).same (fun i hi => ?_)
      have a := nE_mono (C := C) (n := n) (U := U) (l := l) (show t + 1 ≤ y by omega)
      rw [nE_1] at a
      rw [h1, if_neg (by omega)]
    · have os := oE_s (C := C) (n := n) (t := t)
      have o1 := oE_1 (C := C) (n := n) (t := t)
      have eg := en_gt (C := C) (n := n) (p := tS C n t)
      have mw := mo (a := t + 1) (b := w) (by omega)
      refine ⟨fun i hi => cp t (by omega) (by omega) i (by omega), fun _ i hi => ?_, fun u => by rw [nu t (by omega) ht] at u; exact absurd u (by decide)⟩
      rw [Nat.add_assoc, cp t (by omega) (by omega) _ (by omega), show oE C n t + (tS C n t - oE C n t + i) = tS C n t + i by omega]
  have oN := fun t ht => oE_le (C := C) (n := n) (N := N) hs t ht
  intro j
  induction j with
  | zero =>
    intro w fuel σ y hj hf yw nu ha hP
    obtain ⟨f, rfl⟩ : ∃ f, fuel = f + 1 := ⟨fuel - 1, by omega⟩
    have ew : w = N := by omega
    subst ew
    obtain ⟨f1, f2, f3⟩ := flat (C := C) (n := n) (U := U) (l := l) yw nu
    have ow := oN w (Nat.le_refl _)
    obtain ⟨σ1, e1, e2, e3⟩ := tx_part ρ (nI (oE C n y)) (q := n) hn (n - oE C n y) (oE C n y) FU σ _ (by omega) (by unfold FU; omega) ha (by omega)
    obtain ⟨c1, c2⟩ := copy yw (Nat.le_refl _) nu ow (Nat.le_refl n) e3 hP
    have e1' : p_Text_addPart σ ρ (nI (oE C n y)) (nI n) = some σ1 := e1
    refine ⟨sS σ1 0 1, ?_, rfl, ?_, ?_⟩
    · unfold p_Reading_takeRenamed_L14 p_Reading_touch
      rw [r3, if_pos ((q_le (by omega) (by omega)).mpr (Nat.le_refl _)), r1, e1', q_bd1, q_bd1]
    · show σ1.1 1 = _
      rw [e2]
      congr 1
      omega
    · exact ⟨rfl, c1, c2⟩
  | succ j ih =>
    intro w fuel σ y hj hf yw nu ha hP
    obtain ⟨f, rfl⟩ : ∃ f, fuel = f + 1 := ⟨fuel - 1, by omega⟩
    have wN : w < N := by omega
    obtain ⟨t4, t5⟩ := rt w wN
    unfold p_Reading_takeRenamed_L14
    rw [r3, if_neg (fun z => by have := (q_le (by omega) (by omega)).mp z; omega), if_pos (q_inR (by omega) (by decide))]
    simp only [q_tn (show w < 2147483648 by omega)]
    cases u : U w
    · rw [if_neg (fun z => by rw [(rU w wN).mpr z] at u; exact absurd u (by decide)), nI_1]
      refine ih (w + 1) f σ y (by omega) (by omega) (by omega) (fun t t1 t2 => ?_) ha hP
      by_cases e : t = w
      · rw [e]; exact u
      · exact nu t t1 (by omega)
    · rw [if_pos ((rU w wN).mp u), if_pos (q_inR (show w < 121 by omega) (by decide)), t4, t5]
      obtain ⟨f1, f2, f3⟩ := flat (C := C) (n := n) (U := U) (l := l) yw nu
      have sw := hs w wN
      have os := oE_s (C := C) (n := n) (t := w)
      have n1 := nE_mono (C := C) (n := n) (U := U) (l := l) (show w + 1 ≤ N by omega)
      have e0 := nE_1 (C := C) (n := n) (U := U) (l := l) (t := w)
      rw [u, if_pos rfl] at e0
      obtain ⟨σ1, e1, e2, e3⟩ := tx_part ρ (nI (oE C n y)) (q := tS C n w) (by omega) (tS C n w - oE C n y) (oE C n y) FU σ _ (by omega) (by unfold FU; omega) ha (by omega)
      obtain ⟨c1, c2⟩ := copy yw (by omega) nu os (by omega) e3 hP
      have e1' : p_Text_addPart σ ρ (nI (oE C n y)) (nI (tS C n w)) = some σ1 := e1
      obtain ⟨σ2, d1, d2, d3, d4⟩ := tx_add x (nI l) l FU σ1 _ (by unfold FU; omega) l8 e2 (by omega)
      have d1' : p_Text_addBytes σ1 x (nI l) = some σ2 := by
        unfold p_Text_addBytes
        rw [show nI l - 1 = nI (l - 1) from q_subL l1, ← q_dec l1]
        exact d1
      rw [e1', q_bd1, d1', q_bd1, if_pos (q_inR (show w < 121 by omega) (by decide)), nI_1, ← oE_1]
      have a2 : nE C n U l y + (tS C n w - oE C n y) = nE C n U l w + (tS C n w - oE C n w) := by omega
      have lo : ∀ i, i < nE C n U l w + (tS C n w - oE C n w) → σ2.2.1 2 i = σ1.2.1 2 i := fun i hi => by rw [d3, if_neg (by omega)]
      have hi' : ∀ i, i < l → σ2.2.1 2 (nE C n U l w + (tS C n w - oE C n w) + i) = nI (Bf x l i) := fun i hi => by
        rw [d3, if_pos ⟨rfl, by omega, by omega⟩]
        unfold Bf
        rw [show nE C n U l y + (tS C n w - oE C n y) + l - 1 - (nE C n U l w + (tS C n w - oE C n w) + i) = l - 1 - i by omega]
      refine ih (w + 1) f σ2 (w + 1) (by omega) (by omega) (Nat.le_refl _) (fun t t1 t2 => by omega) ?_ (fun t ht => ?_)
      · rw [d2, if_pos rfl, show nE C n U l y + (tS C n w - oE C n y) + l = nE C n U l (w + 1) by omega]
      · by_cases c : t < w
        · refine (c1 t c).same (fun i hi => lo _ ?_)
          have a := nE_mono (C := C) (n := n) (U := U) (l := l) (show t + 1 ≤ w by omega)
          rw [nE_1] at a
          omega
        · have et : t = w := by omega
          subst et
          exact ⟨fun i hi => by rw [lo _ (by omega)]; exact c2 i hi, fun z => by rw [u] at z; exact absurd z (by decide), fun _ i hi => hi' i hi⟩
end TKR
