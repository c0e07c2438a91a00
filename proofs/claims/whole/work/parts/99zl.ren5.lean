/-! a name is changed everywhere -/
theorem q_mul (a b : Nat) : nI a * nI b = nI (a * b) := (Int32.ofNat_mul a b).symm
section SVB
variable {μ : Sto}
theorem sav2 {N : Nat} (hN : N ≤ 121) : ∀ (j i fuel : Nat) (μ : Sto), j + i = 124 → j < fuel → μ.1 3 = nI N → ∃ μ', p_Mo_save_L37 fuel μ (nI i) = some μ' ∧ μ'.1 = μ.1 ∧ (∀ a, a ≠ 15 → μ'.2.1 a = μ.2.1 a) ∧ (∀ k, k < i → μ'.2.1 15 k = μ.2.1 15 k) ∧ ∀ k, i ≤ k → k < 124 → μ'.2.1 15 k = if k < N then μ.2.1 14 k else -1 := by
  intro j
  induction j with
  | zero =>
    intro i fuel μ hj hf h3
    obtain ⟨f, rfl⟩ : ∃ f, fuel = f + 1 := ⟨fuel - 1, by omega⟩
    refine ⟨μ, ?_, rfl, fun _ _ => rfl, fun _ _ => rfl, fun k h1 h2 => by omega⟩
    unfold p_Mo_save_L37
    rw [if_pos ((q_Lle (by decide) (by omega)).mpr (show 124 ≤ i by omega))]
  | succ j ih =>
    intro i fuel μ hj hf h3
    obtain ⟨f, rfl⟩ : ∃ f, fuel = f + 1 := ⟨fuel - 1, by omega⟩
    unfold p_Mo_save_L37
    rw [if_neg (fun z => by have : 124 ≤ i := (q_Lle (by decide) (by omega)).mp z; omega), h3, nI_1]
    have go : ∀ v : Int32, (v = if i < N then μ.2.1 14 i else -1) → ∃ μ', p_Mo_save_L37 f (sA μ 15 i v) (nI (i + 1)) = some μ' ∧ μ'.1 = μ.1 ∧ (∀ a, a ≠ 15 → μ'.2.1 a = μ.2.1 a) ∧ (∀ k, k < i → μ'.2.1 15 k = μ.2.1 15 k) ∧ ∀ k, i ≤ k → k < 124 → μ'.2.1 15 k = if k < N then μ.2.1 14 k else -1 := fun v hv => by
      obtain ⟨μ', e1, e2, e3, e4, e5⟩ := ih (i + 1) f (sA μ 15 i v) (by omega) (by omega) h3
      refine ⟨μ', e1, e2, fun a ha => by rw [e3 a ha, q_An ha], fun k hk => by rw [e4 k (by omega), q_A2, if_pos rfl, if_neg (by omega)], fun k h1 h2 => ?_⟩
      by_cases c : k = i
      · rw [c, e4 i (by omega), q_A2, if_pos rfl, if_pos rfl]; exact hv
      · rw [e5 k (by omega) h2, q_An (by decide)]
    by_cases c : i < N
    · rw [if_neg (fun z => by have := (q_le (by omega) (by omega)).mp z; omega), if_pos (q_inR (by omega) (by decide)), if_pos (q_inR (by omega) (by decide)), q_tn (by omega)]
      exact go _ (by rw [if_pos c])
    · rw [if_pos ((q_le (by omega) (by omega)).mpr (by omega)), if_pos (q_inR (by omega) (by decide)), q_tn (by omega)]
      exact go _ (by rw [if_neg c])
theorem sav1 {N : Nat} (hN : N ≤ 121) : ∀ (j i fuel : Nat) (μ : Sto), j + i = 240 → j < fuel → μ.1 3 = nI N → ∃ μ', p_Mo_save_L10 fuel μ (nI i) = some μ' ∧ μ'.1 = μ.1 ∧ (∀ a, a ≠ 15 → a ≠ 2 → μ'.2.1 a = μ.2.1 a) ∧ (∀ k, k < i → μ'.2.1 2 k = μ.2.1 2 k) ∧ (∀ k, i ≤ k → k < 240 → μ'.2.1 2 k = μ.2.1 1 k) ∧ ∀ k, k < 124 → μ'.2.1 15 k = if k < N then μ.2.1 14 k else -1 := by
  intro j
  induction j with
  | zero =>
    intro i fuel μ hj hf h3
    obtain ⟨f, rfl⟩ : ∃ f, fuel = f + 1 := ⟨fuel - 1, by omega⟩
    obtain ⟨μ', e1, e2, e3, e4, e5⟩ := sav2 hN 124 0 FU μ (by omega) (by unfold FU; omega) h3
    refine ⟨μ', ?_, e2, fun a h1 _ => e3 a h1, fun k _ => by rw [e3 2 (by decide)], fun k h1 h2 => by omega, fun k hk => e5 k (Nat.zero_le _) hk⟩
    unfold p_Mo_save_L10
    rw [if_pos ((q_Lle (by decide) (by omega)).mpr (show 240 ≤ i by omega))]
    exact e1
  | succ j ih =>
    intro i fuel μ hj hf h3
    obtain ⟨f, rfl⟩ : ∃ f, fuel = f + 1 := ⟨fuel - 1, by omega⟩
    obtain ⟨μ', e1, e2, e3, e4, e5, e6⟩ := ih (i + 1) f (sA μ 2 i (μ.2.1 1 i)) (by omega) (by omega) h3
    refine ⟨μ', ?_, e2, fun a h1 h2 => by rw [e3 a h1 h2, q_An h2], fun k hk => by rw [e4 k (by omega), q_A2, if_pos rfl, if_neg (by omega)], fun k h1 h2 => ?_, fun k hk => by rw [e6 k hk, q_An (by decide)]⟩
    · unfold p_Mo_save_L10
      rw [if_neg (fun z => by have : 240 ≤ i := (q_Lle (by decide) (by omega)).mp z; omega), if_pos (q_inR (by omega) (by decide)), if_pos (q_inR (by omega) (by decide)), q_tn (by omega), nI_1]
      exact e1
    · by_cases c : k = i
      · rw [c, e4 i (by omega), q_A2, if_pos rfl, if_pos rfl]
      · rw [e5 k (by omega) h2, q_An (by decide)]
theorem mo_save {N : Nat} (hN : N ≤ 121) (h3 : μ.1 3 = nI N) : ∃ μ', p_Mo_save μ = some μ' ∧ (∀ k, μ'.1 k = if k = 2 then μ.1 1 else μ.1 k) ∧ (∀ a, a ≠ 15 → a ≠ 2 → μ'.2.1 a = μ.2.1 a) ∧ (∀ k, k < 240 → μ'.2.1 2 k = μ.2.1 1 k) ∧ ∀ k, k < 124 → μ'.2.1 15 k = if k < N then μ.2.1 14 k else -1 := by
  obtain ⟨μ', e1, e2, e3, e4, e5, e6⟩ := sav1 hN 240 0 FU (sS μ 2 (μ.1 1)) (by omega) (by unfold FU; omega) h3
  exact ⟨μ', e1, fun k => by rw [e2, q_S1], e3, fun k hk => e5 k (Nat.zero_le _) hk, e6⟩
theorem bakL : ∀ (j i fuel : Nat) (μ : Sto), j + i = 240 → j < fuel → ∃ μ', p_Mo_back_L10 fuel μ (nI i) = some (0, sS μ' 0 3) ∧ μ'.1 = μ.1 ∧ (∀ k, k < i → μ'.2.1 1 k = μ.2.1 1 k) ∧ ∀ k, i ≤ k → k < 240 → μ'.2.1 1 k = μ.2.1 2 k := by
  intro j
  induction j with
  | zero =>
    intro i fuel μ hj hf
    obtain ⟨f, rfl⟩ : ∃ f, fuel = f + 1 := ⟨fuel - 1, by omega⟩
    refine ⟨μ, ?_, rfl, fun _ _ => rfl, fun k h1 h2 => by omega⟩
    unfold p_Mo_back_L10
    rw [if_pos ((q_Lle (by decide) (by omega)).mpr (show 240 ≤ i by omega))]
    rfl
  | succ j ih =>
    intro i fuel μ hj hf
    obtain ⟨f, rfl⟩ : ∃ f, fuel = f + 1 := ⟨fuel - 1, by omega⟩
    obtain ⟨μ', e1, e2, e4, e5⟩ := ih (i + 1) f (sA μ 1 i (μ.2.1 2 i)) (by omega) (by omega)
    refine ⟨μ', ?_, e2, fun k hk => by rw [e4 k (by omega), q_A2, if_pos rfl, if_neg (by omega)], fun k h1 h2 => ?_⟩
    · unfold p_Mo_back_L10
      rw [if_neg (fun z => by have : 240 ≤ i := (q_Lle (by decide) (by omega)).mp z; omega), if_pos (q_inR (by omega) (by decide)), if_pos (q_inR (by omega) (by decide)), q_tn (by omega), nI_1]
      exact e1
    · by_cases c : k = i
      · rw [c, e4 i (by omega), q_A2, if_pos rfl, if_pos rfl]
      · rw [e5 k (by omega) h2, q_An (by decide)]
theorem mo_back : ∃ μ', p_Mo_back μ = some (0, sS μ' 0 3) ∧ μ'.1 1 = μ.1 2 ∧ ∀ k, k < 240 → μ'.2.1 1 k = μ.2.1 2 k := by
  obtain ⟨μ', e1, e2, _, e5⟩ := bakL 240 0 FU (sS μ 1 (μ.1 2)) (by omega) (by unfold FU; omega)
  exact ⟨μ', e1, by rw [e2]; rfl, fun k hk => e5 k (Nat.zero_le _) hk⟩
/-- the reference's comparison -/
def sG (μ : Sto) (N u t : Nat) : Prop := (μ.2.1 15 t = μ.2.1 15 u) ↔ (t < N ∧ μ.2.1 14 t = μ.2.1 14 u ∧ ¬ μ.2.1 14 t < 0)
theorem samL {N u : Nat} (hN : N ≤ 121) (h3 : μ.1 3 = nI N) (hu : u < N) : ∀ (j t fuel : Nat), j + t = 124 → j < fuel → ((∀ k, t ≤ k → k < 124 → sG μ N u k) → p_Mo_same_L2 μ (nI u) fuel (nI t) = some 1) ∧ ((∃ k, t ≤ k ∧ k < 124 ∧ ¬ sG μ N u k) → p_Mo_same_L2 μ (nI u) fuel (nI t) = some 0) := by
  intro j
  induction j with
  | zero =>
    intro t fuel hj hf
    obtain ⟨f, rfl⟩ : ∃ f, fuel = f + 1 := ⟨fuel - 1, by omega⟩
    refine ⟨fun _ => ?_, fun ⟨k, h1, h2, _⟩ => by omega⟩
    unfold p_Mo_same_L2
    rw [if_pos ((q_Lle (by decide) (by omega)).mpr (show 124 ≤ t by omega))]
  | succ j ih =>
    intro t fuel hj hf
    obtain ⟨f, rfl⟩ : ∃ f, fuel = f + 1 := ⟨fuel - 1, by omega⟩
    obtain ⟨i1, i2⟩ := ih (t + 1) f (by omega) (by omega)
    have e : (sG μ N u t → p_Mo_same_L2 μ (nI u) (f + 1) (nI t) = p_Mo_same_L2 μ (nI u) f (nI (t + 1))) ∧ (¬ sG μ N u t → p_Mo_same_L2 μ (nI u) (f + 1) (nI t) = some 0) := by
      have rt : inR (nI t) 124 := q_inR (by omega) (by decide)
      have ru : inR (nI u) 124 := q_inR (by omega) (by decide)
      conv => lhs; rhs; lhs; unfold p_Mo_same_L2
      conv => rhs; rhs; lhs; unfold p_Mo_same_L2
      have n124 : ¬ (124 : Int32) ≤ nI t := fun z => by have : 124 ≤ t := (q_Lle (by decide) (by omega)).mp z; omega
      have nle : (nI N ≤ nI t) = ¬ t < N := propext ((q_le (by omega) (by omega)).trans (by omega))
      unfold p_Mo_same_b28 p_Mo_same_b65 p_Mo_same_b66 sG
      simp only [if_neg n124, if_pos rt, if_pos ru, q_tn (show t < 2147483648 by omega), q_tn (show u < 2147483648 by omega), h3, nle, nI_1]
      by_cases c1 : μ.2.1 15 t = μ.2.1 15 u <;> by_cases c2 : t < N <;> by_cases c3 : μ.2.1 14 t = μ.2.1 14 u <;> by_cases c4 : μ.2.1 14 t < 0 <;> by_cases c5 : μ.2.1 14 u < 0 <;> first | (exfalso; rw [c3] at c4; exact c4 c5) | (exfalso; rw [c3] at c4; exact c5 c4) | simp +decide [c1, c2, c3, c4, c5]
    refine ⟨fun h => ?_, fun ⟨k, h1, h2, h3⟩ => ?_⟩
    · rw [e.1 (h t (Nat.le_refl _) (by omega))]
      exact i1 (fun k h1 h2 => h k (by omega) h2)
    · by_cases c : sG μ N u t
      · rw [e.1 c]
        refine i2 ⟨k, ?_, h2, h3⟩
        by_cases ek : k = t
        · rw [ek] at h3; exact absurd c h3
        · omega
      · exact e.2 c
end SVB
/-- the class's comparison -/
theorem agrL {σ ρ : Sto} {N m : Nat} (hN : N ≤ 121) (h3 : σ.1 3 = nI N) (v : Int32) : ∀ (j t fuel : Nat), j + t = N → j < fuel → ((∀ k, t ≤ k → k < N → (σ.2.1 11 k = v ↔ ρ.2.1 11 k = nI m)) → p_Reading_agreesWith_L37 σ ρ (nI m) fuel v (nI t) = some 1) ∧ ((∃ k, t ≤ k ∧ k < N ∧ ¬ (σ.2.1 11 k = v ↔ ρ.2.1 11 k = nI m)) → p_Reading_agreesWith_L37 σ ρ (nI m) fuel v (nI t) = some 0) := by
  intro j
  induction j with
  | zero =>
    intro t fuel hj hf
    obtain ⟨f, rfl⟩ : ∃ f, fuel = f + 1 := ⟨fuel - 1, by omega⟩
    refine ⟨fun _ => ?_, fun ⟨k, h1, h2, _⟩ => by omega⟩
    unfold p_Reading_agreesWith_L37
    rw [h3, if_pos ((q_le (by omega) (by omega)).mpr (by omega))]
  | succ j ih =>
    intro t fuel hj hf
    obtain ⟨f, rfl⟩ : ∃ f, fuel = f + 1 := ⟨fuel - 1, by omega⟩
    obtain ⟨i1, i2⟩ := ih (t + 1) f (by omega) (by omega)
    have e : p_Reading_agreesWith_L37 σ ρ (nI m) (f + 1) v (nI t) = if (σ.2.1 11 t = v ↔ ρ.2.1 11 t = nI m) then p_Reading_agreesWith_L37 σ ρ (nI m) f v (nI (t + 1)) else some 0 := by
      have rt : inR (nI t) 121 := q_inR (by omega) (by decide)
      conv => lhs; unfold p_Reading_agreesWith_L37
      rw [h3, if_neg (fun z => by have := (q_le (by omega) (by omega)).mp z; omega)]
      unfold p_Reading_agreesWith_b68 p_Reading_agreesWith_b87
      simp only [if_pos rt, q_tn (show t < 2147483648 by omega), nI_1]
      by_cases c1 : σ.2.1 11 t = v <;> by_cases c2 : ρ.2.1 11 t = nI m <;> simp +decide [c1, c2]
    rw [e]
    refine ⟨fun h => ?_, fun ⟨k, h1, h2, h3⟩ => ?_⟩
    · rw [if_pos (h t (Nat.le_refl _) (by omega))]
      exact i1 (fun k h1 h2 => h k (by omega) h2)
    · by_cases c : (σ.2.1 11 t = v ↔ ρ.2.1 11 t = nI m)
      · rw [if_pos c]
        refine i2 ⟨k, ?_, h2, h3⟩
        by_cases ek : k = t
        · rw [ek] at h3; exact absurd c h3
        · omega
      · rw [if_neg c]
