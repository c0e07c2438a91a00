/-! all tokens, by the class -/
def TkC (C : Nat → Nat) (n : Nat) (σ : Sto) (N : Nat) : Prop := ∀ u, u < N → σ.2.1 4 u = nI (tS C n u) ∧ σ.2.1 5 u = nI (en C n (tS C n u)) ∧ σ.2.1 6 u = nI (ksN (kdN C n u (tS C n u))) ∧ σ.2.2 u = lN (spN C (tS C n u) (en C n (tS C n u)) 8)
def FrC (σ σ' : Sto) : Prop := (∀ k, k ≠ 2 → σ'.1 k = σ.1 k) ∧ ∀ a, a ≠ 4 → a ≠ 5 → a ≠ 6 → σ'.2.1 a = σ.2.1 a
theorem ksN_0 {k : Nat} (h : 1 ≤ k) : ksN k = 0 ↔ k = 9 := by
  unfold ksN
  (repeat' split) <;> omega
theorem wkN_ge (w : Nat) : 1 ≤ wkN w ∧ wkN w ≤ 8 := by
  unfold wkN
  (repeat' split) <;> omega
theorem isSN_lt {c : Nat} (h : isSN c = true) : 40 ≤ c ∧ c ≤ 125 := by
  unfold isSN at h
  simp only [Bool.or_eq_true, beq_iff_eq] at h
  omega
theorem kdN_ge (C : Nat → Nat) (n t p : Nat) : 1 ≤ kdN C n t p ∧ kdN C n t p ≤ 125 := by
  unfold kdN
  have := wkN_ge (wN C p (en C n p - p))
  (repeat' split) <;> first | omega | (have := isSN_lt (c := C p) (by assumption); omega)
theorem ksN_sg {c : Nat} (h : isSN c = true) : ksN c = c := by
  have := isSN_lt h
  unfold ksN
  (repeat' split) <;> omega
section CUTD
variable {n : Nat} {C : Nat → Nat}
theorem TC.keep {σ σ' : Sto} (h : TC σ n C) (h1 : σ'.1 1 = σ.1 1) (h2 : σ'.2.1 2 = σ.2.1 2) : TC σ' n C := ⟨h.1, by rw [h1]; exact h.2.1, by rw [h2]; exact h.2.2⟩
theorem en_wd {σ : Sto} (h : TC σ n C) {p : Nat} (hp : p < n) (hL : isLN (C p) = true) (h8 : en C n p - p ≤ 8) : wdO (wN C p (en C n p - p)) (en C n p - p) := by
  have h1 := en_gt (C := C) (n := n) (p := p)
  have h2 := en_le (C := C) hp
  refine wN_ok C p _ (by omega) h8 (fun i hi => ?_)
  have := h.2.2 (p + i) (by omega)
  omega
theorem sortO {σ : Sto} (h : TC σ n C) {p t : Nat} (hp : p < n) (ht : t < 120) (h4 : σ.2.1 4 t = nI p) (h5 : σ.2.1 5 t = nI (en C n p)) (hs : σ.2.2 t = lN (spN C p (en C n p) 8)) : p_Tokens_sortOf σ (nI (C p)) (nI t) = some (nI (ksN (kdN C n t p))) := by
  have hn := h.1
  have hc := h.lt hp
  have h1 := en_gt (C := C) (n := n) (p := p)
  have h2 := en_le (C := C) hp
  have hr : inR (nI t) 121 := q_inR (by omega) (by omega)
  have htn : (nI t).toNatClampNeg = t := q_tn (by omega)
  unfold p_Tokens_sortOf kdN
  simp only [if_pos hr, htn, h4, h5, hs, letC _ hc, digC _ hc, sgnC _ hc, q_bd1, q_sub (show p ≤ en C n p by omega), if_neg (show ¬ t = 120 by omega)]
  cases hL : isLN (C p)
  · cases hD : isDN (C p)
    · cases hS : isSN (C p)
      · simp [b01]; rfl
      · simp [b01, ksN_sg hS]
    · simp only [b01, if_true, z10, if_false, z00, if_neg (show ¬ (false = true) by decide)]
      by_cases h6 : en C n p - p ≤ 6
      · rw [if_pos ((q_leL (by omega) (by decide)).mpr h6), if_neg (by omega)]; rfl
      · rw [if_neg (fun q => h6 ((q_leL (by omega) (by decide)).mp q)), if_pos (by omega)]; rfl
  · simp only [b01, if_true, z10, if_false]
    by_cases h8 : en C n p - p ≤ 8
    · rw [if_pos ((q_leL (by omega) (by decide)).mpr h8), if_neg (by omega), spN_8 C h8, (wordK (en_wd h hp hL h8)).1]; rfl
    · rw [if_neg (fun q => h8 ((q_leL (by omega) (by decide)).mp q)), if_pos (by omega)]; rfl
theorem cutL : ∀ (j t fuel : Nat) (σ : Sto) (p : Nat), j + t = 121 → j < fuel → TC σ n C → tS C n t = nb C n p → p ≤ n → σ.1 2 = nI t → TkC C n σ t → (∀ u, u < t → tS C n u < n) → (∀ u, u < t → kdN C n u (tS C n u) ≠ 9) → ∃ N σ', p_Tokens_cut_L9 fuel σ (nI p) (nI t) = some σ' ∧ isNt C n N ∧ σ'.1 2 = nI N ∧ TkC C n σ' N ∧ FrC σ σ' := by
  intro j
  induction j with
  | zero =>
    intro t fuel σ p hj hf h hS hp h2 hk ha hb
    obtain ⟨m, rfl⟩ : ∃ m, fuel = m + 1 := ⟨fuel - 1, by omega⟩
    refine ⟨t, σ, ?_, ⟨by omega, ha, fun u hu => hb u (by omega), Or.inl (by omega)⟩, h2, hk, fun k _ => rfl, fun a _ _ _ => rfl⟩
    unfold p_Tokens_cut_L9
    rw [if_pos ((q_Lle (by decide) (by omega)).mpr (show 121 ≤ t by omega))]
  | succ j ih =>
    intro t fuel σ p hj hf h hS hp h2 hk ha hb
    obtain ⟨m, rfl⟩ : ∃ m, fuel = m + 1 := ⟨fuel - 1, by omega⟩
    have hn := h.1
    have hsk : p_Tokens_skipBlanks σ (nI p) = some (nI (nb C n p)) := skipB h (nI p) (n - p) p FU rfl hp (by unfold FU; omega)
    have hq1 := nb_ge (C := C) (n := n) (p := p)
    have hq2 := nb_le (C := C) hp
    generalize hq : nb C n p = q at hS hsk hq1 hq2
    have hc1 : ¬ ((121 : Int32) ≤ nI t) := fun z => by have : 121 ≤ t := (q_Lle (by decide) (by omega)).mp z; omega
    unfold p_Tokens_cut_L9
    rw [if_neg hc1, hsk, q_bd1, h.2.1]
    by_cases hqn : q < n
    · rw [if_pos ((q_lt (by omega) (by omega)).mpr hqn)]
      have e1 := en_gt (C := C) (n := n) (p := q)
      have e2 := en_le (C := C) hqn
      have hr : inR (nI t) 121 := q_inR (by omega) (by omega)
      have htn : (nI t).toNatClampNeg = t := q_tn (by omega)
      have hA : TC (sA σ 4 t (nI q)) n C := h.keep rfl rfl
      have hB : TC (sA (sA σ 4 t (nI q)) 5 t (nI (en C n q))) n C := h.keep rfl rfl
      have hD : TC (sL (sA (sA σ 4 t (nI q)) 5 t (nI (en C n q))) t (lN (spN C q (en C n q) 8))) n C := h.keep rfl rfl
      have r5 : (sA (sA σ 4 t (nI q)) 5 t (nI (en C n q))).2.1 5 t = nI (en C n q) := by simp [q_A2]
      have rq : inR (nI q) 240 := q_inR (by omega) (by omega)
      have rqn : (nI q).toNatClampNeg = q := q_tn (by omega)
      have r2 : (sL (sA (sA σ 4 t (nI q)) 5 t (nI (en C n q))) t (lN (spN C q (en C n q) 8))).2.1 2 q = nI (C q) := hD.at hqn
      simp only [if_pos hr, htn, endO hA hqn, q_bd1, r5, spellO hB hqn e2]
      have key : ∀ (s : Nat), s = ksN (kdN C n t q) → ∃ N σ', p_Tokens_cut_b91 (p_Tokens_cut_L9 m) (sL (sA (sA σ 4 t (nI q)) 5 t (nI (en C n q))) t (lN (spN C q (en C n q) 8))) (nI t) (nI t) (nI s) = some σ' ∧ isNt C n N ∧ σ'.1 2 = nI N ∧ TkC C n σ' N ∧ FrC σ σ' := by
        intro s hs
        have ks : s < 126 := by
          have := kdN_ge C n t q
          rw [hs]
          unfold ksN
          (repeat' split) <;> omega
        unfold p_Tokens_cut_b91
        simp only [if_pos hr, htn, nI_1]
        generalize hσ1 : sS (sA (sL (sA (sA σ 4 t (nI q)) 5 t (nI (en C n q))) t (lN (spN C q (en C n q) 8))) 6 t (nI s)) 2 (nI (t + 1)) = σ1
        have g6 : σ1.2.1 6 t = nI s := by rw [← hσ1]; simp [q_S2, q_A2]
        have g5 : σ1.2.1 5 t = nI (en C n q) := by rw [← hσ1]; simp [q_S2, q_A2, q_L2]
        have gk : TkC C n σ1 (t + 1) := by
          intro u hu
          by_cases e : u = t
          · subst e
            rw [← hσ1, hS]
            simp [q_S2, q_A2, q_A3, q_L2, q_L3, hs]
          · rw [← hσ1]
            simp only [q_S2, q_A2, q_A3, q_L2, q_L3, if_neg e]
            simpa using hk u (by omega)
        have gf : FrC σ σ1 := by
          rw [← hσ1]
          refine ⟨fun k hk => ?_, fun a h4 h5 h6 => ?_⟩
          · rw [q_S1, if_neg hk]; rfl
          · funext i
            simp only [q_S2, q_A2, q_L2, if_neg h4, if_neg h5, if_neg h6]
        have gT : TC σ1 n C := h.keep (gf.1 1 (by decide)) (gf.2 2 (by decide) (by decide) (by decide))
        have g2 : σ1.1 2 = nI (t + 1) := by rw [← hσ1]; rfl
        have ga : ∀ u, u < t + 1 → tS C n u < n := fun u hu => by
          by_cases e : u = t
          · rw [e, hS]; exact hqn
          · exact ha u (by omega)
        rw [g6, g5]
        by_cases h9 : kdN C n t q = 9
        · have hs0 : s = 0 := by rw [hs, h9]; rfl
          rw [if_pos (by rw [hs0]; rfl)]
          exact ⟨t + 1, σ1, rfl, ⟨by omega, ga, fun u hu => hb u (by omega), Or.inr (Or.inr ⟨t, rfl, by rw [hS]; exact h9⟩)⟩, g2, gk, gf⟩
        · have hs0 : ¬ s = 0 := fun z => h9 ((ksN_0 (kdN_ge C n t q).1).mp (by rw [← hs]; exact z))
          rw [if_neg (fun z => hs0 ((q_eqL (by omega) (by decide)).mp z))]
          obtain ⟨N, σ', i1, i2, i3, i4, i5⟩ := ih (t + 1) m σ1 (en C n q) (by omega) (by omega) gT (by show nb C n (en C n (tS C n t)) = _; rw [hS]) e2 g2 gk ga (fun u hu => by
            by_cases e : u = t
            · rw [e, hS]; exact h9
            · exact hb u (by omega))
          exact ⟨N, σ', i1, i2, i3, i4, fun k hk => (i5.1 k hk).trans (gf.1 k hk), fun a x y z => (i5.2 a x y z).trans (gf.2 a x y z)⟩
      by_cases h120 : t = 120
      · rw [if_pos ((q_Lle (by decide) (by omega)).mpr (show 120 ≤ t by omega))]
        exact key 0 (by unfold kdN; rw [if_pos h120]; rfl)
      · rw [if_neg (fun z => by have : 120 ≤ t := (q_Lle (by decide) (by omega)).mp z; omega), if_pos rq, rqn, r2, sortO hD hqn (by omega) (by simp [q_L2, q_A2]) (by simp [q_L2, q_A2]) (by simp [q_L3]), q_bd1]
        exact key _ rfl
    · rw [if_neg (fun z => hqn ((q_lt (by omega) (by omega)).mp z))]
      exact ⟨t, σ, rfl, ⟨by omega, ha, fun u hu => hb u (by omega), Or.inr (Or.inl (by rw [hS]; omega))⟩, h2, hk, fun k _ => rfl, fun a _ _ _ => rfl⟩
theorem cutC {σ : Sto} (h : TC σ n C) : ∃ N σ', p_Tokens_cut σ = some σ' ∧ isNt C n N ∧ σ'.1 2 = nI N ∧ TkC C n σ' N ∧ FrC σ σ' := by
  obtain ⟨N, σ', h1, h2, h3, h4, h5⟩ := cutL (n := n) (C := C) 121 0 FU (sS σ 2 0) 0 rfl (by unfold FU; omega) (h.keep rfl rfl) rfl (Nat.zero_le _) rfl (fun u hu => absurd hu (by omega)) (fun u hu => absurd hu (by omega)) (fun u hu => absurd hu (by omega))
  exact ⟨N, σ', h1, h2, h3, h4, fun k hk => (h5.1 k hk).trans (by rw [q_S1, if_neg hk]), h5.2⟩
end CUTD
