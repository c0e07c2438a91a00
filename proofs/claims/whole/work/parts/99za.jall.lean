/-! judging: all tokens -/
section JALL
variable {z0 : Sto × Sto} {K : Nat → Int32} {N : Nat} {W : Nat → Int64} {t : Nat} {σ μ : Sto}
/-- outside of statements comes what is outside, or a statement -/
theorem lo_n (h : Lo K t) (ha : cS (tr K (t + 1)) ≠ 0) : Lo K (t + 1) ∨ (cS (tr K (t + 1)) = 14 ∧ ¬ K (t + 1) = 125) := by
  have w := ways (k := K t) (k2 := K (t + 1)) (d := cD (tr K t)) (call := callB (tr K t)) (e := cE (tr K t)) ((tr_mem K t).resolve_left (tr_alive ha)) ha
  have key : ∀ v : Int32, cS (tr K (t + 1)) = v → (v = 1 ∨ v = 2 ∨ v = 3 ∨ v = 4 ∨ v = 5 ∨ v = 6 ∨ v = 7 ∨ v = 8 ∨ v = 9 ∨ v = 10 ∨ v = 11 ∨ v = 12 ∨ v = 13) → Lo K (t + 1) ∨ (cS (tr K (t + 1)) = 14 ∧ ¬ K (t + 1) = 125) := by
    intro v e hv
    left
    unfold Lo
    rw [e]
    rcases hv with z | z | z | z | z | z | z | z | z | z | z | z | z <;> simp [z]
  have k14 : cS (tr K (t + 1)) = 14 → Lo K (t + 1) ∨ (cS (tr K (t + 1)) = 14 ∧ ¬ K (t + 1) = 125) := by
    intro e
    by_cases k : K (t + 1) = 125
    · left
      unfold Lo
      simp [e, k]
    · exact Or.inr ⟨e, k⟩
  have lo : ¬ (14 : Int32) < cS (tr K t) ∧ (cS (tr K t) = 14 → K t = 125) := by
    rcases h with s | s | s | s | s | s | s | s | s | s | s | s | s | ⟨s, k⟩
    all_goals first
      | exact ⟨by rw [s]; decide, fun z => by rw [s] at z; exact absurd z (by decide)⟩
      | exact ⟨by rw [s]; decide, fun _ => k⟩
  unfold Way at w
  rw [← trS] at w
  rcases w with ⟨hs, hk, hs2, hsd⟩ | ⟨hs, hk, hs2, hsd⟩ | ⟨hs, hk, hs2, hsd⟩ | ⟨hs, hk, hs2, hsd⟩ | ⟨hs, hk, hs2, hsd⟩ | ⟨hs, hk, hs2, hsd⟩ | ⟨hs, hk, hs2, hsd⟩ | ⟨hs, hk, hs2, hsd⟩ | ⟨hs, hk, hs2, hsd⟩ | ⟨hs, hk, hs2, hsd⟩ | ⟨hs, hk, hs2, hsd⟩ | ⟨hs, hk, hs2, hsd⟩ | ⟨hs, hk, hs2, hsd⟩ | ⟨hs, hk, hs2, hsd⟩ | ⟨hs, hk, hs2, hsd⟩ | ⟨hs, hk, hs2, hsd⟩ | ⟨hs, hk, hs2, hsd⟩ | ⟨hs, hk, hs2, hsd⟩ | ⟨hs, hk, hs2, hsd⟩ | ⟨hs, hk, hs2, hsd⟩ | ⟨hs, hk, hs2, hsd⟩ | ⟨hs, hk, hs2, hsd⟩ | ⟨hs, hk, hs2, hsd⟩ | ⟨hs, hk, hs2, hsd⟩ | ⟨hs, hk, hs2, hsd⟩ | ⟨hs, hk, hs2, hsd⟩ | ⟨hs, hk, hs2, hsd⟩ | ⟨hs, hk, hs2, hsd⟩ | ⟨hs, hk, hs2, hsd⟩ | ⟨hs, hk, hs2, hsd⟩ | ⟨hs, hk, hs2, hsd⟩ | ⟨hs, hk, hs2, hsd⟩ | ⟨hs, hk, hs2, hsd⟩ | ⟨hs, hk, hs2, hsd⟩ | ⟨hs, hk, hs2, hsd⟩ | ⟨hs, hk, hs2, hsd⟩ | ⟨hs, hk, hs2, hsd⟩ | ⟨hs, hk, hs2, hsd⟩ | ⟨hs, hk, hs2, hsd⟩ | ⟨hs, hk, hs2, hsd⟩ | ⟨hs, hk, hs2, hsd⟩ | ⟨hs, hk, hs2, hsd⟩ | ⟨hs, hk, hs2, hsd⟩ | ⟨hs, hk, hs2, hsd⟩ | ⟨hs, hk, hs2, hsd⟩ | ⟨hs, hk, hs2, hsd⟩ | ⟨hs, hk, hs2, hsd⟩ | ⟨hs, hk, hs2, hsd⟩ | ⟨hs, hk, hs2, hsd⟩ | ⟨hs, hk, hs2, hsd⟩ | ⟨hs, hk, hs2, hsd⟩ | ⟨hs, hk, hs2, hsd⟩ | ⟨hs, hk, hs2, hsd⟩ | ⟨hs, hk, hs2, hsd⟩ | ⟨hs, hk, hs2, hsd⟩ | ⟨hs, hk, hs2, hsd⟩ | ⟨hs, hk, hs2, hsd⟩ | ⟨hs, hk, hs2, hsd⟩ <;> first | exact key _ hs2 (by decide) | exact k14 hs2 | (exfalso; exact lo.1 (by rw [hs]; decide)) | (exfalso; have := lo.2 hs; rw [hk] at this; exact absurd this (by decide))
/-- the reference passes over what begins no statement -/
theorem skipM (sm : SM K N μ) : ∀ (j u fuel : Nat), u + j ≤ N → j < fuel → (∀ v, u ≤ v → v < u + j → ¬ (cS (tr K v) = 14 ∧ ¬ K v = 125)) → p_Mo_analyse_L205 fuel μ (nI u) = p_Mo_analyse_L205 (fuel - j) μ (nI (u + j)) := by
  have hN := sm.1
  intro j
  induction j with
  | zero => intro u fuel _ _ _; rfl
  | succ j ih =>
    intro u fuel hu hf h
    obtain ⟨n, rfl⟩ : ∃ n, fuel = n + 1 := ⟨fuel - 1, by omega⟩
    have b0 : μ.2.1 10 u = 0 := by
      rw [sm.bgn (by omega), if_neg (fun z => h u (Nat.le_refl _) (by omega) z.2)]
    have st : p_Mo_analyse_L205 (n + 1) μ (nI u) = p_Mo_analyse_L205 n μ (nI (u + 1)) := by
      conv => lhs; unfold p_Mo_analyse_L205
      rw [sm.2.2.1, if_neg (fun z => by have := (q_le (by omega) (by omega)).mp z; omega), if_pos (q_inR (by omega) (by decide))]
      simp only [q_tn (show u < 2147483648 by omega), b0, nI_1]
      rw [if_pos (by decide)]
    rw [st, ih (u + 1) n (by omega) (by omega) (fun v h1 h2 => h v (by omega) (by omega)), show n + 1 - (j + 1) = n - j by omega, show u + 1 + j = u + (j + 1) by omega]
theorem jall : ∀ (j t : Nat) (σ μ : Sto), j = N - t → t ≤ N → SJ z0 K N W t σ μ → (Lo K t ∨ (cS (tr K t) = 14 ∧ ¬ K t = 125)) → ∃ σ' μ', (∀ fuel, N - t < fuel → p_Judge_judge_L17 fuel σ (nI t) = some σ') ∧ (∀ fuel, N - t < fuel → p_Mo_analyse_L205 fuel μ (nI t) = some μ') ∧ SJ z0 K N W N σ' μ' := by
  intro j
  induction j using Nat.strongRecOn with
  | _ j ih =>
  intro t σ μ hj tN h tp
  have sc := h.1.1
  have sm := h.1.2.2.2.2.1
  have hN := sc.1
  by_cases e : t = N
  · subst e
    refine ⟨σ, μ, fun fuel hf => ?_, fun fuel hf => ?_, h⟩
    · obtain ⟨n, rfl⟩ : ∃ n, fuel = n + 1 := ⟨fuel - 1, by omega⟩
      unfold p_Judge_judge_L17
      rw [sc.2.2.2.1, if_pos ((q_le (by omega) (by omega)).mpr (Nat.le_refl _))]
    · obtain ⟨n, rfl⟩ : ∃ n, fuel = n + 1 := ⟨fuel - 1, by omega⟩
      unfold p_Mo_analyse_L205
      rw [sm.2.2.1, if_pos ((q_le (by omega) (by omega)).mpr (Nat.le_refl _))]
  have tN' : t < N := by omega
  rcases tp with lo | ⟨s14, k125⟩
  · obtain ⟨σ1, c1, S1⟩ := sj_step h tN' lo
    obtain ⟨σ2, μ2, a, b, d⟩ := ih (N - (t + 1)) (by omega) (t + 1) σ1 μ rfl (by omega) S1 (lo_n lo (sc.al (by omega)))
    refine ⟨σ2, μ2, fun fuel hf => ?_, fun fuel hf => ?_, d⟩
    · rw [jdgL hN 1 fuel t σ σ1 (crn_1 c1) (by omega) (by omega) (fun i τ hi hτ => by
        have : i = 0 := by omega
        subst this
        rw [← Option.some.inj hτ]; exact sc.2.2.2.1)]
      exact a (fuel - 1) (by omega)
    · rw [skipM sm 1 t fuel (by omega) (by omega) (fun v h1 h2 => by
        have : v = t := by omega
        subst this
        rcases lo with s | s | s | s | s | s | s | s | s | s | s | s | s | ⟨s, k⟩
        all_goals first
          | (intro z; rw [s] at z; exact absurd z.1 (by decide))
          | exact fun z => z.2 k)]
      exact b (fuel - 1) (by omega)
  · have sr : SR z0 K N W t σ μ := by
      by_cases k3 : K t = 3
      · exact sr_1 h tN' s14 (Or.inl k3)
      · by_cases k11 : K t = 1 ∧ K (t + 1) = 1
        · exact sr_1 h tN' s14 (Or.inr k11)
        · by_cases k6 : K t = 6
          · exact sr_2 h tN' s14 k6
          · exact sr_3 h tN' s14 k125 k3 k11 k6
    obtain ⟨t', σ1, μ1, l1, l2, r1, i1, e1, S1, U, s14'⟩ := sr
    have tp' : Lo K t' ∨ (cS (tr K t') = 14 ∧ ¬ K t' = 125) := by
      by_cases k : K t' = 125
      · left
        unfold Lo
        simp [s14', k]
      · exact Or.inr ⟨s14', k⟩
    obtain ⟨σ2, μ2, a, b, d⟩ := ih (N - t') (by omega) t' σ1 μ1 rfl l2 S1 tp'
    have sm1 := S1.1.2.2.2.2.1
    refine ⟨σ2, μ2, fun fuel hf => ?_, fun fuel hf => ?_, d⟩
    · rw [jdgL hN (t' - t) fuel t σ σ1 r1 (by omega) (by omega) i1, show t + (t' - t) = t' by omega]
      exact a (fuel - (t' - t)) (by omega)
    · obtain ⟨n, rfl⟩ : ∃ n, fuel = n + 1 := ⟨fuel - 1, by omega⟩
      have bp : ¬ μ.2.1 10 t ≤ 0 := by
        rw [sm.bgn (by omega), if_pos ⟨tN', s14, k125⟩]
        unfold bg
        (repeat' split) <;> decide
      have st : p_Mo_analyse_L205 (n + 1) μ (nI t) = p_Mo_analyse_L205 n μ1 (nI (t + 1)) := by
        conv => lhs; unfold p_Mo_analyse_L205
        rw [sm.2.2.1, if_neg (fun z => by have := (q_le (by omega) (by omega)).mp z; omega), if_pos (q_inR (by omega) (by decide))]
        simp only [q_tn (show t < 2147483648 by omega), nI_1]
        rw [if_neg bp, e1, q_bd1]
      rw [st, skipM sm1 (t' - (t + 1)) (t + 1) n (by omega) (by omega) (fun v h1 h2 z => U v (by omega) (by omega) z.1), show t + 1 + (t' - (t + 1)) = t' by omega]
      exact b (n - (t' - (t + 1))) (by omega)
end JALL
