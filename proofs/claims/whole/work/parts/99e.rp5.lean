/-! the reference's parser: the file -/
def FF (μ0 μ : Sto) : Prop := (∀ k, k ≠ 4 → k ≠ 5 → k ≠ 6 → k ≠ 7 → μ.1 k = μ0.1 k) ∧ (∀ a, a ≠ 7 → a ≠ 8 → a ≠ 9 → a ≠ 10 → a ≠ 11 → a ≠ 12 → a ≠ 16 → μ.2.1 a = μ0.2.1 a) ∧ μ.2.2 = μ0.2.2
theorem FM.ff {μ0 μ : Sto} (h : FM μ0 μ) : FF μ0 μ := ⟨fun k a b _ d => h.1 k a b d, fun a x1 x2 x3 x4 _ _ x7 => h.2.1 a x1 x2 x3 x4 x7, h.2.2⟩
theorem FF.trans {μ0 μ μ' : Sto} (h : FF μ0 μ) (g : FF μ μ') : FF μ0 μ' := ⟨fun k a b c d => (g.1 k a b c d).trans (h.1 k a b c d), fun a x1 x2 x3 x4 x5 x6 x7 => (g.2.1 a x1 x2 x3 x4 x5 x6 x7).trans (h.2.1 a x1 x2 x3 x4 x5 x6 x7), g.2.2.trans h.2.2⟩
theorem FF.S {μ0 μ : Sto} {k : Nat} {v : Int32} (h : FF μ0 μ) (hk : k = 4 ∨ k = 5 ∨ k = 6 ∨ k = 7) : FF μ0 (sS μ k v) := by
  refine ⟨fun j a b c d => ?_, h.2.1, h.2.2⟩
  rw [q_S1, if_neg (by omega)]
  exact h.1 j a b c d
theorem FF.A {μ0 μ : Sto} {a i : Nat} {v : Int32} (h : FF μ0 μ) (ha : a = 11 ∨ a = 12) : FF μ0 (sA μ a i v) := by
  refine ⟨h.1, fun b x1 x2 x3 x4 x5 x6 x7 => ?_, h.2.2⟩
  rw [q_An (by omega)]
  exact h.2.1 b x1 x2 x3 x4 x5 x6 x7
theorem TKM.ff {K : Nat → Int32} {N : Nat} {μ0 μ : Sto} (hT : TKM K N μ0) (h : FF μ0 μ) : TKM K N μ := ⟨hT.1, fun u hu => by rw [h.2.1 3 (by decide) (by decide) (by decide) (by decide) (by decide) (by decide) (by decide)]; exact hT.2.1 u hu, hT.2.2⟩
theorem GD.re {K : Nat → Int32} {N b t : Nat} {μ0 μ μ' : Sto} (h : GD K N μ0 b t μ) (e5 : μ'.1 5 = μ.1 5) (e4 : μ'.1 4 = μ.1 4) (e7 : μ'.2.1 7 = μ.2.1 7) (e8 : μ'.2.1 8 = μ.2.1 8) (e9 : μ'.2.1 9 = μ.2.1 9) (e10 : μ'.2.1 10 = μ.2.1 10) : GD K N μ' b t μ' := ⟨FM.refl _, e5.trans h.2.1, e4.trans h.2.2.1, h.2.2.2.1, h.2.2.2.2.1, h.2.2.2.2.2.same e7 e8 e9 e10⟩
theorem BB.re {K : Nat → Int32} {N : Nat} {μ0 μ μ' : Sto} (h : BB K N μ0 μ) (e5 : μ'.1 5 = μ.1 5) (e4 : μ'.1 4 = μ.1 4) : BB K N μ' μ' := by
  obtain ⟨_, h5, T, a, b⟩ := h
  exact ⟨FM.refl _, e5.trans h5, T, e4.trans a, b⟩
/-- the classes' rows -/
def JC (K : Nat → Int32) (μ : Sto) (t : Nat) : Prop := ∀ u, u + 1 < t → cS (tr K u) = 2 → μ.2.1 11 (cC (tr K u)) = nI u ∧ μ.2.1 12 (cC (tr K u)) = (if K (u + 1) = 5 then nI (u + 2) else -1)
def FI (K : Nat → Int32) (N : Nat) (μ0 : Sto) (t : Nat) (μ : Sto) : Prop := FF μ0 μ ∧ GD K N μ 1000 t μ ∧ cS (tr K t) = 1 ∧ JC K μ t ∧ μ.1 6 = nI (cC (tr K t))
def BF (K : Nat → Int32) (N : Nat) (μ0 μ : Sto) : Prop := FF μ0 μ ∧ BB K N μ μ
def RFl (K : Nat → Int32) (N : Nat) (μ0 : Sto) (r : Option Sto) : Prop := (∃ μ', r = some μ' ∧ BF K N μ0 μ') ∨ (∃ μ', r = some μ' ∧ FI K N μ0 N μ')
section RP6
variable {K : Nat → Int32} {N : Nat} {μ0 μ : Sto} {t : Nat}
theorem jc_new {σh : Sto} (hJ : JC K μ t) (s1 : cS (tr K t) = 1) (s2 : cS (tr K (t + 1)) = 2) (e11 : ∀ u, σh.2.1 11 u = if u = cC (tr K t) then nI (t + 1) else μ.2.1 11 u) (e12 : ∀ u, σh.2.1 12 u = if u = cC (tr K t) then (if K (t + 1 + 1) = 5 then nI (t + 1 + 2) else -1) else μ.2.1 12 u) {t' : Nat} (ht : t + 2 ≤ t') (hc : cC (tr K t') = cC (tr K t) + 1) : JC K σh t' := by
  intro u hu h2
  have c1 : cC (tr K (t + 1)) = cC (tr K t) := cC_k (by rw [s1]; decide)
  by_cases lt : u + 1 < t
  · have h3 := cC_mono K (u + 1) t (by omega)
    rw [trC, if_pos h2] at h3
    rw [e11, e12, if_neg (by omega), if_neg (by omega)]
    exact hJ u lt h2
  by_cases e : u = t + 1
  · subst e
    rw [e11, e12, c1, if_pos rfl, if_pos rfl]
    exact ⟨rfl, rfl⟩
  by_cases e2 : u = t
  · subst e2
    rw [s1] at h2
    exact absurd h2 (by decide)
  by_cases e3 : u + 1 = t
  · subst e3
    rw [trS, h2] at s1
    by_cases k : K u = 1
    · rw [k] at s1; simp +decide only [nxt, if_true, if_false] at s1
    · simp +decide only [nxt, k, if_true, if_false] at s1
  exfalso
  have h3 := cC_mono K (u + 1) t' (by omega)
  have h4 := cC_mono K (t + 1 + 1) u (by omega)
  rw [trC, if_pos h2] at h3
  rw [trC, if_pos s2] at h4
  omega
theorem fileL (hT0 : TKM K N μ0) : ∀ (j t fuel : Nat) (μ : Sto), j = N + 1 - t → j < fuel → FI K N μ0 t μ → RFl K N μ0 (p_Mo_file_L5 fuel μ) := by
  intro j
  induction j using Nat.strongRecOn with
  | _ j ih =>
  intro t fuel μ hj hf h
  obtain ⟨hF, g, s1, hJ, h6⟩ := h
  have hT := hT0.ff hF
  have hN := hT.1
  have tN := g.2.2.2.2.1
  have w4 : 4 * cC (tr K t) ≤ t := (WG_all t g.2.2.2.1).1 s1
  obtain ⟨n, rfl⟩ : ∃ n, fuel = n + 1 := ⟨fuel - 1, by omega⟩
  obtain ⟨n', hn'⟩ : ∃ n', n = n' + 1 := ⟨n - 1, by omega⟩
  have r40 : inR (nI (cC (tr K t))) 40 := q_inR (by omega) (by decide)
  have rcn : (nI (cC (tr K t))).toNatClampNeg = cC (tr K t) := q_tn (by omega)
  have kbad : ∀ β, BF K N μ0 β → RFl K N μ0 (p_Mo_file_L5 n β) := by
    intro β B
    rw [hn']
    unfold p_Mo_file_L5
    rw [if_neg B.2.n5]
    exact Or.inl ⟨β, rfl, B⟩
  have t99 : ∀ β, BF K N μ0 β → β.1 6 = nI (cC (tr K t)) → RFl K N μ0 (bd1 (p_Mo_need β 123) fun σ_96 => p_Mo_file_L99 (p_Mo_file_L5 n) FU σ_96) := by
    intro β B b6
    rw [B.2.need, q_bd1, FU_s, bb_99 _ _ B.2.s5 b6]
    exact kbad _ ⟨((B.1.S (by decide)).S (by decide)).S (by decide), B.2.s5.s5.re rfl rfl⟩
  have fin : ∀ (σh : Sto) (t1 : Nat) (μ1 : Sto), GD K N σh 1000 t1 μ1 → FF μ0 σh → ((cS (tr K t1) = 3 ∧ ¬ K t1 = 5) ∨ cS (tr K t1) = 5) → t < t1 → cC (tr K t1) = cC (tr K t) + 1 → σh.1 6 = nI (cC (tr K t)) → (∀ t', t1 < t' → cC (tr K t') = cC (tr K t) + 1 → JC K σh t') → RFl K N μ0 (bd1 (p_Mo_need μ1 123) fun σ_96 => p_Mo_file_L99 (p_Mo_file_L5 n) FU σ_96) := by
    intro σh t1 μ1 G hFh hs lt1 hc1 hh6 hJh
    have hTh := hT0.ff hFh
    have n2 : ¬ cS (tr K t1) = 2 := by rcases hs with ⟨z, _⟩ | z <;> rw [z] <;> decide
    have n1 : ¬ cS (tr K t1) = 1 := by rcases hs with ⟨z, _⟩ | z <;> rw [z] <;> decide
    have n14' : ¬ cS (tr K t1) = 14 := by rcases hs with ⟨z, _⟩ | z <;> rw [z] <;> decide
    rw [G.need hTh]
    by_cases k : K t1 = 123
    · have s6 : cS (tr K (t1 + 1)) = 6 := by
        rw [trS, k]
        rcases hs with ⟨z, _⟩ | z <;> rw [z] <;> simp +decide only [nxt, if_true, if_false]
      have r0 : rr (rbT K t1) = 0 := by
        unfold rbT
        rcases hs with ⟨z, _⟩ | z <;> rw [z] <;> simp +decide only [rb, rr, if_true, if_false]
      have G6 := gd_0 hTh G (by rw [s6]; decide) (fun z => absurd z n14') (rr_ro0 r0)
      rw [if_pos k, q_bd1]
      rcases l99 hTh (p_Mo_file_L5 n) hh6 (N + 1 - (t1 + 1)) (t1 + 1) FU _ rfl (by unfold FU; omega) G6 s6 ((cC_k n2).trans hc1) with ⟨μ', r, B⟩ | ⟨μ', t', r, lt, G', s', c'⟩
      · rw [r]
        exact kbad _ ⟨(hFh.trans B.1.ff).S (by decide), B.re rfl rfl⟩
      · rw [r]
        have l' := G'.2.2.2.2.1
        refine ih (N + 1 - t') (by omega) t' n _ rfl (by omega) ⟨(hFh.trans G'.1.ff).S (by decide), G'.re rfl rfl rfl rfl rfl rfl, s', ?_, by rw [c']; rfl⟩
        have hj' := hJh t' (by omega) c'
        unfold JC at hj' ⊢
        rw [q_S2, G'.1.2.1 11 (by decide) (by decide) (by decide) (by decide) (by decide), G'.1.2.1 12 (by decide) (by decide) (by decide) (by decide) (by decide)]
        exact hj'
    · have z0 : cS (tr K (t1 + 1)) = 0 := by
        rw [trS]
        rcases hs with ⟨z, z5⟩ | z
        · rw [z]; simp +decide only [nxt, k, z5, if_true, if_false]
        · rw [z]; simp +decide only [nxt, k, if_true, if_false]
      have B := gd_bad G z0 (fun z => absurd z n1)
      rw [if_neg k, q_bd1, FU_s, bb_99 _ _ B hh6]
      exact kbad _ ⟨(((hFh.trans G.1.ff).S (by decide)).S (by decide)).S (by decide), B.s5.re rfl rfl⟩
  unfold p_Mo_file_L5
  rw [if_pos g.2.1, g.2.2.1, if_pos (q_inR (by omega) (by decide)), q_tn (by omega), g.kd hT (by omega)]
  by_cases k0 : K t = 0
  · rw [if_pos k0]
    have e : t = N := Decidable.byContradiction (fun z => hT.2.2.2 t (by omega) k0)
    subst e
    exact Or.inr ⟨μ, rfl, hF, g, s1, hJ, h6⟩
  rw [if_neg k0, g.need hT]
  by_cases k4 : K t = 4
  · have s2 : cS (tr K (t + 1)) = 2 := by rw [trS, s1, k4]; simp +decide only [nxt, if_true, if_false]
    have c1 : cC (tr K (t + 1)) = cC (tr K t) := cC_k (by rw [s1]; decide)
    have G1 := gd_0 hT g (by rw [s2]; decide) (n14 s1 (by decide)) (rr_ro0 (by unfold rbT; rw [s1]; simp +decide only [rb, rr, if_true, if_false]))
    have l1 := G1.2.2.2.2.1
    rw [if_pos k4, q_bd1]
    have h6a : (sS μ 4 (nI (t + 1))).1 6 = nI (cC (tr K t)) := h6
    have h4a : (sS μ 4 (nI (t + 1))).1 4 = nI (t + 1) := rfl
    have h6b : (sA (sS μ 4 (nI (t + 1))) 11 (cC (tr K t)) (nI (t + 1))).1 6 = nI (cC (tr K t)) := h6
    rw [h6a, if_pos r40, rcn, h4a, h6b]
    have hF1 : FF μ0 (sA (sS μ 4 (nI (t + 1))) 11 (cC (tr K t)) (nI (t + 1))) := (hF.S (by decide)).A (by decide)
    have hT1 := hT0.ff hF1
    have G1' : GD K N (sA (sS μ 4 (nI (t + 1))) 11 (cC (tr K t)) (nI (t + 1))) 1000 (t + 1) (sA (sS μ 4 (nI (t + 1))) 11 (cC (tr K t)) (nI (t + 1))) := G1.re rfl rfl (q_An (by decide)) (q_An (by decide)) (q_An (by decide)) (q_An (by decide))
    rw [G1'.name hT1]
    by_cases k1 : K (t + 1) = 1
    · have s3 : cS (tr K (t + 1 + 1)) = 3 := by rw [trS, s2, k1]; simp +decide only [nxt, if_true, if_false]
      have r1 : rbT K (t + 1) = 1 := by unfold rbT; rw [s2]; simp +decide only [rb, if_true, if_false]
      have c2 : cC (tr K (t + 1 + 1)) = cC (tr K t) + 1 := by rw [trC, if_pos s2, c1]
      have G2 := gd_n (x1 := 1) (x2 := nI (cC (tr K t))) (x3 := -1) hT1 G1' (by rw [s3]; decide) (n14 s2 (by decide)) (by rw [ro_s r1 (by decide) (by decide) (by decide)]; decide) (by unfold cls; rw [if_pos s2, c1]) (by unfold mth; rw [if_neg (by rw [s2]; decide)])
      have l2 := G2.2.2.2.2.1
      rw [if_pos k1, q_bd1]
      generalize hν : nm (sA (sS μ 4 (nI (t + 1))) 11 (cC (tr K t)) (nI (t + 1))) (t + 1) 1 (nI (cC (tr K t))) (-1) = ν at G2 ⊢
      have hFν : FF μ0 ν := hF1.trans G2.1.ff
      have h6c : ν.1 6 = nI (cC (tr K t)) := (G2.1.1 6 (by decide) (by decide) (by decide)).trans h6
      have ν11 : ∀ u, ν.2.1 11 u = if u = cC (tr K t) then nI (t + 1) else μ.2.1 11 u := by
        intro u
        rw [G2.1.2.1 11 (by decide) (by decide) (by decide) (by decide) (by decide), q_A2, if_pos rfl]
        rfl
      have ν12 : ∀ u, ν.2.1 12 u = μ.2.1 12 u := by
        intro u
        rw [G2.1.2.1 12 (by decide) (by decide) (by decide) (by decide) (by decide), q_An (by decide)]
        rfl
      rw [h6c, if_pos r40, rcn]
      have hF2 : FF μ0 (sA ν 12 (cC (tr K t)) (-1)) := hFν.A (by decide)
      have hT2 := hT0.ff hF2
      have G2' : GD K N (sA ν 12 (cC (tr K t)) (-1)) 1000 (t + 1 + 1) (sA ν 12 (cC (tr K t)) (-1)) := G2.re rfl rfl (q_An (by decide)) (q_An (by decide)) (q_An (by decide)) (q_An (by decide))
      rw [G2'.take hT2]
      by_cases k5 : K (t + 1 + 1) = 5
      · have s4 : cS (tr K (t + 1 + 1 + 1)) = 4 := by rw [trS, s3, k5]; simp +decide only [nxt, if_true, if_false]
        have G3 := gd_0 hT2 G2' (by rw [s4]; decide) (n14 s3 (by decide)) (rr_ro0 (by unfold rbT; rw [s3]; simp +decide only [rb, rr, if_true, if_false]))
        have l3 := G3.2.2.2.2.1
        rw [if_pos k5, q_bd2, if_neg (by decide)]
        have h6d : (sS (sA ν 12 (cC (tr K t)) (-1)) 4 (nI (t + 1 + 1 + 1))).1 6 = nI (cC (tr K t)) := h6c
        have h4d : (sS (sA ν 12 (cC (tr K t)) (-1)) 4 (nI (t + 1 + 1 + 1))).1 4 = nI (t + 1 + 1 + 1) := rfl
        have h6e : (sA (sS (sA ν 12 (cC (tr K t)) (-1)) 4 (nI (t + 1 + 1 + 1))) 12 (cC (tr K t)) (nI (t + 1 + 1 + 1))).1 6 = nI (cC (tr K t)) := h6c
        rw [h6d, if_pos r40, rcn, h4d, h6e]
        have hF3 : FF μ0 (sA (sS (sA ν 12 (cC (tr K t)) (-1)) 4 (nI (t + 1 + 1 + 1))) 12 (cC (tr K t)) (nI (t + 1 + 1 + 1))) := (hF2.S (by decide)).A (by decide)
        have hT3 := hT0.ff hF3
        have G3' : GD K N (sA (sS (sA ν 12 (cC (tr K t)) (-1)) 4 (nI (t + 1 + 1 + 1))) 12 (cC (tr K t)) (nI (t + 1 + 1 + 1))) 1000 (t + 1 + 1 + 1) (sA (sS (sA ν 12 (cC (tr K t)) (-1)) 4 (nI (t + 1 + 1 + 1))) 12 (cC (tr K t)) (nI (t + 1 + 1 + 1))) := G3.re rfl rfl (q_An (by decide)) (q_An (by decide)) (q_An (by decide)) (q_An (by decide))
        have c3 : cC (tr K (t + 1 + 1 + 1)) = cC (tr K t) + 1 := (cC_k (by rw [s3]; decide)).trans c2
        rw [G3'.name hT3]
        by_cases k1' : K (t + 1 + 1 + 1) = 1
        · have s5 : cS (tr K (t + 1 + 1 + 1 + 1)) = 5 := by rw [trS, s4, k1']; simp +decide only [nxt, if_true, if_false]
          have r6 : rbT K (t + 1 + 1 + 1) = 6 := by unfold rbT; rw [s4]; simp +decide only [rb, if_true, if_false]
          have G4 := gd_n (x1 := 3) (x2 := nI (cC (tr K t))) (x3 := -1) hT3 G3' (by rw [s5]; decide) (n14 s4 (by decide)) (by rw [ro_s r6 (by decide) (by decide) (by decide)]; decide) (by unfold cls; rw [if_neg (by rw [s4]; decide), c3]; rfl) (by unfold mth; rw [if_neg (by rw [s4]; decide)])
          rw [if_pos k1', q_bd1]
          refine fin _ _ _ G4 hF3 (Or.inr s5) (by omega) ((cC_k (by rw [s4]; decide)).trans c3) h6c (fun t' lt' hc' => jc_new hJ s1 s2 (fun u => ?_) (fun u => ?_) (by omega) hc')
          · rw [q_An (by decide), q_S2, q_An (by decide)]; exact ν11 u
          · rw [q_A2, if_pos rfl, q_S2, q_A2, if_pos rfl, if_pos k5, ν12]
            by_cases e1 : u = cC (tr K t)
            · rw [if_pos e1, if_pos e1]
            · rw [if_neg e1, if_neg e1, if_neg e1]
        · have z0 : cS (tr K (t + 1 + 1 + 1 + 1)) = 0 := by rw [trS, s4]; simp +decide only [nxt, k1', if_true, if_false]
          have B := gd_bad G3' z0 (fun z => by rw [s4] at z; exact absurd z (by decide))
          rw [if_neg k1', q_bd1]
          exact t99 _ ⟨hF3.S (by decide), B.re rfl rfl⟩ h6c
      · rw [if_neg k5, q_bd2, if_pos rfl]
        refine fin _ _ _ G2' hF2 (Or.inl ⟨s3, k5⟩) (by omega) c2 h6c (fun t' lt' hc' => jc_new hJ s1 s2 (fun u => ?_) (fun u => ?_) (by omega) hc')
        · rw [q_An (by decide)]; exact ν11 u
        · rw [q_A2, if_pos rfl, if_neg k5, ν12]
    · have z0 : cS (tr K (t + 1 + 1)) = 0 := by rw [trS, s2]; simp +decide only [nxt, k1, if_true, if_false]
      have B := gd_bad G1' z0 (fun z => by rw [s2] at z; exact absurd z (by decide))
      rw [if_neg k1, q_bd1]
      have h6c : (sS (sA (sS μ 4 (nI (t + 1))) 11 (cC (tr K t)) (nI (t + 1))) 5 1).1 6 = nI (cC (tr K t)) := h6
      have B2 : BB K N (sA (sS (sA (sS μ 4 (nI (t + 1))) 11 (cC (tr K t)) (nI (t + 1))) 5 1) 12 (cC (tr K t)) (-1)) (sA (sS (sA (sS μ 4 (nI (t + 1))) 11 (cC (tr K t)) (nI (t + 1))) 5 1) 12 (cC (tr K t)) (-1)) := B.re rfl rfl
      rw [h6c, if_pos r40, rcn, B2.take, q_bd2, if_pos rfl]
      exact t99 _ ⟨(hF1.S (by decide)).A (by decide), B2⟩ h6
  · have z0 : cS (tr K (t + 1)) = 0 := by rw [trS, s1]; simp +decide only [nxt, k4, if_true, if_false]
    have B := gd_bad g z0 (fun _ => k0)
    rw [if_neg k4, q_bd1]
    have h6a : (sS μ 5 1).1 6 = nI (cC (tr K t)) := h6
    have h6b : ∀ v, (sA (sS μ 5 1) 11 (cC (tr K t)) v).1 6 = nI (cC (tr K t)) := fun _ => h6
    have B1 : ∀ v, BB K N (sA (sS μ 5 1) 11 (cC (tr K t)) v) (sA (sS μ 5 1) 11 (cC (tr K t)) v) := fun v => B.re rfl rfl
    rw [h6a, if_pos r40, rcn, h6b, (B1 _).name, q_bd1]
    have h6c : ∀ v, (sS (sA (sS μ 5 1) 11 (cC (tr K t)) v) 5 1).1 6 = nI (cC (tr K t)) := fun _ => h6
    have B2 : ∀ v, BB K N (sA (sS (sA (sS μ 5 1) 11 (cC (tr K t)) v) 5 1) 12 (cC (tr K t)) (-1)) (sA (sS (sA (sS μ 5 1) 11 (cC (tr K t)) v) 5 1) 12 (cC (tr K t)) (-1)) := fun v => (B1 v).s5.re rfl rfl
    rw [h6c, if_pos r40, rcn, (B2 _).take, q_bd2, if_pos rfl]
    exact t99 _ ⟨(((hF.S (by decide)).A (by decide)).S (by decide)).A (by decide), B2 _⟩ h6
theorem fileM (hT : TKM K N μ) (h5 : μ.1 5 = 0) (h4 : μ.1 4 = 0) (h7 : ∀ u, u < 124 → μ.2.1 7 u = 0) (h10 : ∀ u, u < 124 → μ.2.1 10 u = 0) : RFl K N μ (p_Mo_file μ) := by
  unfold p_Mo_file
  have hN := hT.1
  have hF : FF μ (sS μ 6 0) := (FM.refl μ).ff.S (by decide)
  refine fileL hT (N + 1) 0 FU _ rfl (by unfold FU; omega) ⟨hF, ⟨FM.refl _, h5, h4, (show (1 : Int32) ≠ 0 by decide), Nat.zero_le _, fun u hu4 => ?_, fun u hu => absurd hu (by omega), fun u hu4 => ?_, fun u hu => absurd hu (by omega)⟩, rfl, fun u hu => absurd hu (by omega), rfl⟩
  · rw [if_neg (by omega)]; exact h7 u hu4
  · rw [if_neg (fun z => ?_)]
    · exact h10 u hu4
    · rcases z.1 with y | y
      · omega
      · rw [y] at z; exact not1000 hT z.2.1
end RP6
