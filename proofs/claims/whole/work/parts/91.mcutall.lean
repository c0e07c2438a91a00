/-! all tokens, by the reference -/
def TkM (C : Nat → Nat) (n : Nat) (μ : Sto) (N : Nat) : Prop := ∀ u, u < N → μ.2.1 5 u = nI (tS C n u) ∧ μ.2.1 6 u = nI (en C n (tS C n u)) ∧ μ.2.1 3 u = nI (kdN C n u (tS C n u)) ∧ (isLN (C (tS C n u)) = true → en C n (tS C n u) - tS C n u ≤ 8 → μ.2.2 u = lN (wN C (tS C n u) (en C n (tS C n u) - tS C n u)))
def FrM (μ μ' : Sto) : Prop := (∀ k, k ≠ 3 → μ'.1 k = μ.1 k) ∧ ∀ a, a ≠ 3 → a ≠ 5 → a ≠ 6 → μ'.2.1 a = μ.2.1 a
section MCA
variable {n : Nat} {C : Nat → Nat}
theorem mclr : ∀ (j t fuel : Nat) (μ : Sto), j + t = 124 → j < fuel → ∃ μ', p_Mo_cutAll_L76 fuel μ (nI t) = some μ' ∧ (∀ a u, μ'.2.1 a u = if a = 3 ∧ t ≤ u ∧ u < 124 then 0 else μ.2.1 a u) ∧ μ'.1 = μ.1 ∧ μ'.2.2 = μ.2.2 := by
  intro j
  induction j with
  | zero =>
    intro t fuel μ hj hf
    obtain ⟨m, rfl⟩ : ∃ m, fuel = m + 1 := ⟨fuel - 1, by omega⟩
    refine ⟨μ, ?_, fun a u => ?_, rfl, rfl⟩
    · unfold p_Mo_cutAll_L76
      rw [if_pos ((q_Lle (by decide) (by omega)).mpr (show 124 ≤ t by omega))]
    · rw [if_neg (by omega)]
  | succ j ih =>
    intro t fuel μ hj hf
    obtain ⟨m, rfl⟩ : ∃ m, fuel = m + 1 := ⟨fuel - 1, by omega⟩
    obtain ⟨μ', h1, h2, h3, h4⟩ := ih (t + 1) m (sA μ 3 t 0) (by omega) (by omega)
    refine ⟨μ', ?_, fun a u => ?_, h3, h4⟩
    · unfold p_Mo_cutAll_L76
      rw [if_neg (fun z => by have : 124 ≤ t := (q_Lle (by decide) (by omega)).mp z; omega), if_pos (q_inR (by omega) (by omega)), q_tn (by omega), nI_1]
      exact h1
    · rw [h2, q_A2]
      (repeat' split) <;> first | rfl | omega
/-- the end of the cutting -/
def MEnd (C : Nat → Nat) (n : Nat) (μ : Sto) (r : Option Sto) : Prop := ∃ N μ', r = some μ' ∧ isNt C n N ∧ μ'.1 3 = nI N ∧ TkM C n μ' N ∧ (∀ u, N ≤ u → u < 124 → μ'.2.1 3 u = 0) ∧ FrM μ μ'
theorem mend {μ : Sto} {t : Nat} (ht : t ≤ 121) (h3 : μ.1 3 = nI t) (hk : TkM C n μ t) (hN : isNt C n t) : MEnd C n μ (p_Mo_cutAll_L76 FU μ (nI t)) := by
  obtain ⟨μ', h1, h2, h4, h5⟩ := mclr (124 - t) t FU μ (by omega) (by unfold FU; omega)
  refine ⟨t, μ', h1, hN, by rw [h4]; exact h3, fun u hu => ?_, fun u hu hu2 => ?_, fun k _ => by rw [h4], fun a h3 _ _ => ?_⟩
  · rw [h2, h2, h2, h5, if_neg (by omega), if_neg (by omega), if_neg (by omega)]
    exact hk u hu
  · rw [h2, if_pos ⟨rfl, hu, hu2⟩]
  · funext u
    rw [h2, if_neg (fun z => h3 z.1)]
theorem nb_step {p : Nat} (hp : p < n) (h : C p = 32) : nb C n p = nb C n (p + 1) := by
  unfold nb
  rw [show n - p = (n - (p + 1)) + 1 by omega, scn_s, if_pos (by simpa using h)]
theorem nb_stop {p : Nat} (hp : p < n) (h : C p ≠ 32) : nb C n p = p := by
  unfold nb
  rw [show n - p = (n - (p + 1)) + 1 by omega, scn_s, if_neg (by simpa using h)]
theorem nb_end {p : Nat} (hp : n ≤ p) : nb C n p = p := by
  unfold nb
  rw [show n - p = 0 by omega]
  rfl
theorem mcutAll : ∀ (j t fuel : Nat) (μ : Sto) (p : Nat), j = (n - p) + 122 - t → t ≤ 121 → j < fuel → TM μ n C → tS C n t = nb C n p → p ≤ n → μ.1 3 = nI t → TkM C n μ t → (∀ u, u < t → tS C n u < n) → (∀ u, u < t → kdN C n u (tS C n u) ≠ 9) → MEnd C n μ (p_Mo_cutAll_L7 fuel μ (nI p)) := by
  intro j
  induction j using Nat.strongRecOn with
  | ind j ih =>
    intro t fuel μ p hj ht hf h hS hp h3 hk ha hb
    obtain ⟨m, rfl⟩ : ∃ m, fuel = m + 1 := ⟨fuel - 1, by omega⟩
    have hn := h.1
    unfold p_Mo_cutAll_L7
    rw [h.2.1, h3]
    by_cases hpn : n ≤ p
    · rw [if_pos ((q_le (by omega) (by omega)).mpr hpn)]
      exact mend ht h3 hk ⟨ht, ha, fun u hu => hb u (by omega), Or.inr (Or.inl (by rw [hS, nb_end hpn]; exact hpn))⟩
    · rw [if_neg (fun z => hpn ((q_le (by omega) (by omega)).mp z))]
      by_cases h121 : 121 ≤ t
      · rw [if_pos ((q_Lle (by decide) (by omega)).mpr h121)]
        exact mend ht h3 hk ⟨ht, ha, fun u hu => hb u (by omega), Or.inl (by omega)⟩
      · rw [if_neg (fun z => h121 ((q_Lle (by decide) (by omega)).mp z)), if_pos (q_inR (by omega) (by omega)), q_tn (by omega), h.at (by omega)]
        by_cases h32 : C p = 32
        · rw [if_pos (by rw [h32]; rfl), nI_1]
          exact ih (j - 1) (by omega) t m μ (p + 1) (by omega) ht (by omega) h (by rw [hS]; exact nb_step (by omega) h32) (by omega) h3 hk ha hb
        · have hc := h.lt (i := p) (by omega)
          rw [if_neg (fun z => h32 ((q_eqL (by omega) (by decide)).mp z))]
          have hSp : tS C n t = p := by rw [hS]; exact nb_stop (by omega) h32
          obtain ⟨μ1, c1, c2, c3, c4, c5⟩ := mcut h (p := p) (t := t) (by omega) h3 (by omega)
          have e1 := en_gt (C := C) (n := n) (p := p)
          have e2 := en_le (C := C) (n := n) (p := p) (by omega)
          rw [c1, q_bd2]
          have g3 : μ1.1 3 = nI (t + 1) := by rw [c2]; rfl
          have gl : μ1.1 1 = nI n := by rw [c2, if_neg (by decide)]; exact h.2.1
          have gk : μ1.2.1 3 t = nI (kdN C n t p) := by rw [c3, if_neg (by omega), if_neg (by omega), if_pos ⟨rfl, rfl⟩]
          have gT : TkM C n μ1 (t + 1) := by
            intro u hu
            by_cases e : u = t
            · subst e
              rw [hSp, c3, c3, c3]
              refine ⟨if_pos ⟨rfl, rfl⟩, ?_, ?_, c5⟩
              · rw [if_neg (by omega), if_pos ⟨rfl, rfl⟩]
              · rw [if_neg (by omega), if_neg (by omega), if_pos ⟨rfl, rfl⟩]
            · have := hk u (by omega)
              rw [c3, c3, c3, c4 u e]
              simp only [e, and_false, if_false]
              exact this
          have gf : FrM μ μ1 := ⟨fun k hk => by rw [c2, if_neg hk], fun a x y z => by funext u; rw [c3]; simp [x, y, z]⟩
          have gM : TM μ1 n C := h.keep (gf.1 1 (by decide)) (gf.2 1 (by decide) (by decide) (by decide))
          have ga : ∀ u, u < t + 1 → tS C n u < n := fun u hu => by
            by_cases e : u = t
            · rw [e, hSp]; omega
            · exact ha u (by omega)
          have back : ∀ r, MEnd C n μ1 r → MEnd C n μ r := by
            rintro r ⟨N, μ', a1, a2, a3, a4, a5, a6⟩
            exact ⟨N, μ', a1, a2, a3, a4, a5, fun k hk => (a6.1 k hk).trans (gf.1 k hk), fun a x y z => (a6.2 a x y z).trans (gf.2 a x y z)⟩
          have hkb := kdN_ge C n t p
          rw [g3, q_subL (by show 1 ≤ t + 1; omega), if_pos (q_inR (show t + 1 - 1 < 124 by omega) (by omega)), q_tn (show t + 1 - 1 < 2147483648 by omega), show t + 1 - 1 = t from rfl, gk, gl]
          apply back
          by_cases h9 : kdN C n t p = 9
          · rw [if_pos (by rw [h9]; rfl)]
            -- a bad token ends the cutting
            obtain ⟨m2, rfl⟩ : ∃ m2, m = m2 + 1 := ⟨m - 1, by omega⟩
            unfold p_Mo_cutAll_L7
            rw [gl, g3, if_pos ((q_le (by omega) (by omega)).mpr (Nat.le_refl n))]
            exact mend (by omega) g3 gT ⟨by omega, ga, fun u hu => hb u (by omega), Or.inr (Or.inr ⟨t, rfl, by rw [hSp]; exact h9⟩)⟩
          · rw [if_neg (fun z => h9 ((q_eqL (by omega) (by decide)).mp z))]
            exact ih ((n - en C n p) + 122 - (t + 1)) (by omega) (t + 1) m μ1 (en C n p) rfl (by omega) (by omega) gM (by show nb C n (en C n (tS C n t)) = _; rw [hSp]) e2 g3 gT ga (fun u hu => by
              by_cases e : u = t
              · rw [e, hSp]; exact h9
              · exact hb u (by omega))
theorem cutM {μ : Sto} (h : TM μ n C) : MEnd C n μ (p_Mo_cutAll μ) := by
  have hn := h.1
  obtain ⟨N, μ', a1, a2, a3, a4, a5, a6⟩ := mcutAll (n := n) (C := C) (n + 122) 0 FU (sS μ 3 0) 0 (by omega) (by omega) (by unfold FU; omega) (h.keep rfl rfl) rfl (Nat.zero_le _) rfl (fun u hu => absurd hu (by omega)) (fun u hu => absurd hu (by omega)) (fun u hu => absurd hu (by omega))
  exact ⟨N, μ', a1, a2, a3, a4, a5, fun k hk => (a6.1 k hk).trans (by rw [q_S1, if_neg hk]), a6.2⟩
end MCA
