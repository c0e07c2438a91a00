/-! the reference's parser: members and classes -/
def RPm (K : Nat → Int32) (N : Nat) (μ0 : Sto) (c m t : Nat) (r : Option Sto) : Prop := (∃ μ', r = some μ' ∧ BB K N μ0 μ') ∨ (∃ μ' t', r = some μ' ∧ t < t' ∧ GD K N μ0 1000 t' μ' ∧ cS (tr K t') = 13 ∧ cC (tr K t') = c + 1 ∧ cM (tr K t') = m)
def RMm (K : Nat → Int32) (N : Nat) (μ0 : Sto) (c t : Nat) (r : Option Sto) : Prop := (∃ μ', r = some μ' ∧ BB K N μ0 μ') ∨ (∃ μ' t', r = some μ' ∧ t < t' ∧ GD K N μ0 1000 t' μ' ∧ cS (tr K t') = 6 ∧ cC (tr K t') = c + 1)
section RP5
variable {K : Nat → Int32} {N : Nat} {μ0 μ : Sto} {t b c m : Nat}
theorem RPm.mono {t' : Nat} {r : Option Sto} (h : RPm K N μ0 c m t' r) (ht : t ≤ t') : RPm K N μ0 c m t r := h.imp id (fun ⟨a, u, x1, x2, x3⟩ => ⟨a, u, x1, by omega, x3⟩)
theorem RMm.mono {t' : Nat} {r : Option Sto} (h : RMm K N μ0 c t' r) (ht : t ≤ t') : RMm K N μ0 c t r := h.imp id (fun ⟨a, u, x1, x2, x3⟩ => ⟨a, u, x1, by omega, x3⟩)
theorem n14 {v : Int32} (s : cS (tr K t) = v) (hv : ¬ v = 14) : cS (tr K t) = 14 → ¬ K t = 125 → t = b := fun z => absurd (s.symm.trans z) hv
theorem pname (hT : TKM K N μ0) (h : GD K N μ0 1000 t μ) (s : cS (tr K t) = 11) (hc : cC (tr K t) = c + 1) (hm : cM (tr K t) = m) : ∃ μ', p_Mo_name μ 7 (nI c) (nI m) = some μ' ∧ (BB K N μ0 μ' ∨ (GD K N μ0 1000 (t + 1) μ' ∧ cS (tr K (t + 1)) = 12 ∧ cC (tr K (t + 1)) = c + 1 ∧ cM (tr K (t + 1)) = m)) := by
  have l8 : 8 < cS (tr K t) := by rw [s]; decide
  rw [h.name hT]
  by_cases k1 : K t = 1
  · have s12 : cS (tr K (t + 1)) = 12 := by rw [trS, s, k1]; simp +decide only [nxt, if_true, if_false]
    have r4 : rbT K t = 4 := by unfold rbT; rw [s]; simp +decide only [rb, if_true, if_false]
    rw [if_pos k1]
    exact ⟨_, rfl, Or.inr ⟨gd_n hT h (by rw [s12]; decide) (n14 s (by decide)) (by rw [ro_s r4 (by decide) (by decide) (by decide)]; decide) (cls_k hc l8) (mth_k hm l8), s12, (cC_k (n_8 l8 (by decide))).trans hc, (cM_k (n_8 l8 (by decide))).trans hm⟩⟩
  · rw [if_neg k1]
    have z0 : cS (tr K (t + 1)) = 0 := by rw [trS, s]; simp +decide only [nxt, k1, if_true, if_false]
    exact ⟨_, rfl, Or.inl (gd_bad h z0 (fun z => absurd z (n_8 l8 (by decide))))⟩
theorem ptype (hT : TKM K N μ0) (h : GD K N μ0 1000 t μ) (s : (cS (tr K t) = 9 ∧ ¬ K t = 41) ∨ cS (tr K t) = 10) (hc : cC (tr K t) = c + 1) (hm : cM (tr K t) = m) : ∃ μ', p_Mo_typeWord μ (nI c) (nI m) = some μ' ∧ (BB K N μ0 μ' ∨ (GD K N μ0 1000 (t + 1) μ' ∧ cS (tr K (t + 1)) = 11 ∧ cC (tr K (t + 1)) = c + 1 ∧ cM (tr K (t + 1)) = m)) := by
  have l8 : 8 < cS (tr K t) := by rcases s with ⟨z, _⟩ | z <;> rw [z] <;> decide
  have x14 : ¬ cS (tr K t) = 14 := by rcases s with ⟨z, _⟩ | z <;> rw [z] <;> decide
  have a3 : K t = 3 → cS (tr K (t + 1)) = 11 ∧ rr (ro K t) = 0 := fun k3 => by
    refine ⟨?_, rr_ro0 ?_⟩
    · rw [trS, k3]
      rcases s with ⟨z, _⟩ | z <;> rw [z] <;> simp +decide only [nxt, if_true, if_false]
    · unfold rbT
      rw [k3]
      rcases s with ⟨z, _⟩ | z <;> rw [z] <;> simp +decide only [rb, rr, if_true, if_false]
  have a1 : K t = 1 → cS (tr K (t + 1)) = 11 ∧ rr (ro K t) = 2 := fun k1 => by
    have r7 : rbT K t = 7 := by
      unfold rbT
      rw [k1]
      rcases s with ⟨z, _⟩ | z <;> rw [z] <;> simp +decide only [rb, if_true, if_false]
    refine ⟨?_, by rw [ro_s r7 (by decide) (by decide) (by decide)]; decide⟩
    rw [trS, k1]
    rcases s with ⟨z, _⟩ | z <;> rw [z] <;> simp +decide only [nxt, if_true, if_false]
  have a0 : ¬ K t = 3 → ¬ K t = 1 → cS (tr K (t + 1)) = 0 := fun z3 z1 => by
    rw [trS]
    rcases s with ⟨z, z41⟩ | z
    · rw [z]; simp +decide only [nxt, z3, z1, z41, if_true, if_false]
    · rw [z]; simp +decide only [nxt, z3, z1, if_true, if_false]
  obtain ⟨μ', r, q⟩ := tword (v := 11) hT h (by decide) (n_8 l8 (by decide)) (fun z => absurd z x14) a3 a1 a0 (cls_k hc l8) (mth_k hm l8)
  exact ⟨μ', r, q.imp id (fun ⟨a, b⟩ => ⟨a, b, (cC_k (n_8 l8 (by decide))).trans hc, (cM_k (n_8 l8 (by decide))).trans hm⟩)⟩
theorem bb_24 (n : Nat) (x1 x2 : Int32) (B : BB K N μ0 μ) : RPm K N μ0 c m t (p_Mo_parameters_L24 x1 x2 (n + 1) μ) := by
  unfold p_Mo_parameters_L24
  rw [B.take, q_bd2, if_pos rfl, B.need, q_bd1]
  exact Or.inl ⟨_, rfl, B.s5⟩
theorem parL (hT : TKM K N μ0) : ∀ (j t fuel : Nat) (μ : Sto), j = N + 1 - t → j < fuel → GD K N μ0 1000 t μ → cS (tr K t) = 12 → cC (tr K t) = c + 1 → cM (tr K t) = m → RPm K N μ0 c m t (p_Mo_parameters_L24 (nI c) (nI m) fuel μ) := by
  intro j
  induction j using Nat.strongRecOn with
  | _ j ih =>
  intro t fuel μ hj hf h s hc hm
  have tN := h.2.2.2.2.1
  have l8 : 8 < cS (tr K t) := by rw [s]; decide
  obtain ⟨n, rfl⟩ : ∃ n, fuel = n + 1 := ⟨fuel - 1, by omega⟩
  obtain ⟨n', hn'⟩ : ∃ n', n = n' + 1 := ⟨n - 1, by omega⟩
  unfold p_Mo_parameters_L24
  rw [h.take hT]
  by_cases k44 : K t = 44
  · have s10 : cS (tr K (t + 1)) = 10 := by rw [trS, s, k44]; simp +decide only [nxt, if_true, if_false]
    have G1 := gd_0 hT h (by rw [s10]; decide) (n14 s (by decide)) (rr_ro0 (by unfold rbT; rw [s]; simp +decide only [rb, rr, if_true, if_false]))
    rw [if_pos k44, q_bd2, if_neg (by decide)]
    obtain ⟨μ1, r1, B | ⟨G2, s11, c2, m2⟩⟩ := ptype hT G1 (Or.inr s10) ((cC_k (n_8 l8 (by decide))).trans hc) ((cM_k (n_8 l8 (by decide))).trans hm)
    · rw [r1, q_bd1, B.name, q_bd1, hn']
      exact bb_24 _ _ _ B.s5
    · rw [r1, q_bd1]
      obtain ⟨μ2, r2, B | ⟨G3, s12, c3, m3⟩⟩ := pname hT G2 s11 c2 m2
      · rw [r2, q_bd1, hn']
        exact bb_24 _ _ _ B
      · rw [r2, q_bd1]
        have l3 := G3.2.2.2.2.1
        exact (ih (N + 1 - (t + 1 + 1 + 1)) (by omega) (t + 1 + 1 + 1) n μ2 rfl (by omega) G3 s12 c3 m3).mono (by omega)
  · rw [if_neg k44, q_bd2, if_pos rfl, h.need hT]
    by_cases k41 : K t = 41
    · have s13 : cS (tr K (t + 1)) = 13 := by rw [trS, s, k41]; simp +decide only [nxt, if_true, if_false]
      rw [if_pos k41, q_bd1]
      exact Or.inr ⟨_, t + 1, rfl, by omega, gd_0 hT h (by rw [s13]; decide) (n14 s (by decide)) (rr_ro0 (by unfold rbT; rw [s]; simp +decide only [rb, rr, if_true, if_false])), s13, (cC_k (n_8 l8 (by decide))).trans hc, (cM_k (n_8 l8 (by decide))).trans hm⟩
    · rw [if_neg k41, q_bd1]
      have z0 : cS (tr K (t + 1)) = 0 := by rw [trS, s]; simp +decide only [nxt, k44, k41, if_true, if_false]
      exact Or.inl ⟨_, rfl, gd_bad h z0 (fun z => absurd z (n_8 l8 (by decide)))⟩
theorem pars (hT : TKM K N μ0) (h : GD K N μ0 1000 t μ) (s : cS (tr K t) = 9) (hc : cC (tr K t) = c + 1) (hm : cM (tr K t) = m) : RPm K N μ0 c m t (p_Mo_parameters μ (nI c) (nI m)) := by
  have l8 : 8 < cS (tr K t) := by rw [s]; decide
  have hN := hT.1
  unfold p_Mo_parameters
  rw [h.take hT]
  by_cases k41 : K t = 41
  · have s13 : cS (tr K (t + 1)) = 13 := by rw [trS, s, k41]; simp +decide only [nxt, if_true, if_false]
    rw [if_pos k41, q_bd2, if_neg (by decide)]
    exact Or.inr ⟨_, t + 1, rfl, by omega, gd_0 hT h (by rw [s13]; decide) (n14 s (by decide)) (rr_ro0 (by unfold rbT; rw [s, k41]; simp +decide only [rb, rr, if_true, if_false])), s13, (cC_k (n_8 l8 (by decide))).trans hc, (cM_k (n_8 l8 (by decide))).trans hm⟩
  · rw [if_neg k41, q_bd2, if_pos rfl]
    obtain ⟨μ1, r1, B | ⟨G2, s11, c2, m2⟩⟩ := ptype hT h (Or.inl ⟨s, k41⟩) hc hm
    · rw [r1, q_bd1, B.name, q_bd1, FU_s]
      exact bb_24 _ _ _ B.s5
    · rw [r1, q_bd1]
      obtain ⟨μ2, r2, B | ⟨G3, s12, c3, m3⟩⟩ := pname hT G2 s11 c2 m2
      · rw [r2, q_bd1, FU_s]
        exact bb_24 _ _ _ B
      · rw [r2, q_bd1]
        exact (parL hT (N + 1 - (t + 1 + 1)) (t + 1 + 1) FU μ2 rfl (by unfold FU; omega) G3 s12 c3 m3).mono (by omega)
theorem bb_80 (n : Nat) (x1 x2 : Int32) (B : BB K N μ0 μ) : RMm K N μ0 c t (p_Mo_readMember_L80 x1 (n + 1) μ x2) := by
  unfold p_Mo_readMember_L80
  rw [if_neg B.n5, B.need, q_bd1]
  exact Or.inl ⟨_, rfl, B.s5⟩
theorem bodyL (hT : TKM K N μ0) : ∀ (j t fuel : Nat) (μ : Sto), j = N + 1 - t → j < fuel → GD K N μ0 1000 t μ → cS (tr K t) = 14 → cC (tr K t) = c + 1 → cM (tr K t) = m → RMm K N μ0 c t (p_Mo_readMember_L80 (nI c) fuel μ (nI m)) := by
  intro j
  induction j using Nat.strongRecOn with
  | _ j ih =>
  intro t fuel μ hj hf h s hc hm
  have tN := h.2.2.2.2.1
  have l8 : 8 < cS (tr K t) := by rw [s]; decide
  obtain ⟨n, rfl⟩ : ∃ n, fuel = n + 1 := ⟨fuel - 1, by omega⟩
  obtain ⟨n', hn'⟩ : ∃ n', n = n' + 1 := ⟨n - 1, by omega⟩
  unfold p_Mo_readMember_L80
  rw [if_pos h.2.1, h.is hT]
  by_cases k : K t = 125
  · have s6 : cS (tr K (t + 1)) = 6 := by rw [trS, s]; simp +decide only [nxt, k, if_true, if_false]
    rw [if_pos k, q_bd1, if_neg (by decide), h.need hT, if_pos k, q_bd1]
    exact Or.inr ⟨_, t + 1, rfl, by omega, gd_0 hT h (by rw [s6]; decide) (fun _ z => absurd k z) (rr_ro0 (by unfold rbT; rw [s]; simp +decide only [rb, rr, k, if_true, if_false])), s6, (cC_k (n_8 l8 (by decide))).trans hc⟩
  · rw [if_neg k, q_bd1, if_pos rfl]
    rcases stmt hT h s k hc hm with ⟨μ', r, B⟩ | ⟨μ', t', r, lt, G, s', c', m'⟩
    · rw [r, q_bd1, hn']
      exact bb_80 _ _ _ B
    · rw [r, q_bd1]
      have l' := G.2.2.2.2.1
      exact (ih (N + 1 - t') (by omega) t' n μ' rfl (by omega) G s' c' m').mono (by omega)
theorem memb (hT : TKM K N μ0) (h : GD K N μ0 1000 t μ) (s : cS (tr K t) = 6) (k125 : ¬ K t = 125) (hc : cC (tr K t) = c + 1) : RMm K N μ0 c t (p_Mo_readMember μ (nI c)) := by
  have hN := hT.1
  have hcl : nI c = nI (cls K t) := by
    unfold cls
    rw [if_neg (by rw [s]; decide), hc]
    rfl
  have hmt : (-1 : Int32) = mth K t := by
    unfold mth
    rw [if_neg (by rw [s]; decide)]
  have a3 : K t = 3 → cS (tr K (t + 1)) = 7 ∧ rr (ro K t) = 0 := fun k3 => ⟨by rw [trS, s, k3]; simp +decide only [nxt, if_true, if_false], rr_ro0 (by unfold rbT; rw [s, k3]; simp +decide only [rb, rr, if_true, if_false])⟩
  have a1 : K t = 1 → cS (tr K (t + 1)) = 7 ∧ rr (ro K t) = 2 := fun k1 => by
    have r7 : rbT K t = 7 := by unfold rbT; rw [s, k1]; simp +decide only [rb, if_true, if_false]
    exact ⟨by rw [trS, s, k1]; simp +decide only [nxt, if_true, if_false], by rw [ro_s r7 (by decide) (by decide) (by decide)]; decide⟩
  have a0 : ¬ K t = 3 → ¬ K t = 1 → cS (tr K (t + 1)) = 0 := fun z3 z1 => by rw [trS, s]; simp +decide only [nxt, z3, z1, k125, if_true, if_false]
  unfold p_Mo_readMember
  obtain ⟨μ1, r1, B | ⟨G1, s7⟩⟩ := tword (v := 7) hT h (by decide) (by rw [s]; decide) (n14 s (by decide)) a3 a1 a0 hcl hmt
  · rw [r1, q_bd1, B.name, q_bd1, if_neg B.s5.n5]
    exact Or.inl ⟨_, rfl, B.s5⟩
  have l1 := G1.lt hT
  have c1 : cC (tr K (t + 1)) = c + 1 := (cC_k (by rw [s]; decide)).trans hc
  have hcl1 : nI c = nI (cls K (t + 1)) := by
    unfold cls
    rw [if_neg (by rw [s7]; decide), c1]
    rfl
  have hmt1 : (-1 : Int32) = mth K (t + 1) := by
    unfold mth
    rw [if_neg (by rw [s7]; decide)]
  rw [r1, q_bd1, G1.name hT]
  by_cases k1 : K (t + 1) = 1
  · have s8 : cS (tr K (t + 1 + 1)) = 8 := by rw [trS, s7, k1]; simp +decide only [nxt, if_true, if_false]
    have a8 : cS (tr K (t + 1 + 1)) ≠ 0 := by rw [s8]; decide
    have r2 : rbT K (t + 1) = 2 := by unfold rbT; rw [s7]; simp +decide only [rb, if_true, if_false]
    have c2 : cC (tr K (t + 1 + 1)) = c + 1 := (cC_k (by rw [s7]; decide)).trans c1
    have m2 : cM (tr K (t + 1 + 1)) = t + 1 := by rw [trM, if_pos s7]
    rw [if_pos k1, q_bd1]
    by_cases k40 : K (t + 1 + 1) = 40
    · -- a method
      have ero : rr (ro K (t + 1)) = 6 := by
        unfold ro
        rw [if_pos k40, r2]
        decide
      have tlt : t + 1 + 1 < N := GD.ltN hT k40 (by decide)
      have G2 : GD K N μ0 1000 (t + 1 + 1) (sA (nm μ1 (t + 1) 5 (nI c) (-1)) 7 (t + 1) 6) := by
        refine gd_step hT G1 a8 (n14 s7 (by decide)) ?_ G1.2.1 rfl (fun u => ?_) (fun u hu => ⟨?_, ?_⟩) (fun _ => ⟨?_, ?_⟩) (fun u => ?_)
        · exact ((((G1.1.A (by decide)).A (by decide)).A (by decide)).S (by decide)).A (by decide)
        · rw [q_A2, if_pos rfl, ero]
          by_cases e1 : u = t + 1
          · rw [if_pos e1, if_pos e1]
          · rw [if_neg e1, if_neg e1]
            unfold nm
            rw [q_S2, q_An (by decide), q_An (by decide), q_A2, if_pos rfl, if_neg e1]
        · unfold nm
          rw [q_An (by decide), q_S2, q_An (by decide), q_A2, if_pos rfl, if_neg hu, q_An (by decide)]
        · unfold nm
          rw [q_An (by decide), q_S2, q_A2, if_pos rfl, if_neg hu, q_An (by decide), q_An (by decide)]
        · unfold nm
          rw [q_An (by decide), q_S2, q_An (by decide), q_A2, if_pos rfl, if_pos rfl]
          exact hcl1
        · unfold nm
          rw [q_An (by decide), q_S2, q_A2, if_pos rfl, if_pos rfl]
          exact hmt1
        · unfold nm
          rw [q_An (by decide), q_S2, q_An (by decide), q_An (by decide), q_An (by decide)]
      have l2 := G2.lt hT
      have i40 : ∀ x, p_Mo_is (nm μ1 (t + 1) 5 (nI c) (-1)) x = if K (t + 1 + 1) = x then some 1 else some 0 := by
        intro x
        have k3 : (nm μ1 (t + 1) 5 (nI c) (-1)).2.1 3 (t + 1 + 1) = K (t + 1 + 1) := by
          unfold nm
          rw [q_S2, q_An (by decide), q_An (by decide), q_An (by decide)]
          exact G1.kd hT (by omega)
        have k4 : (nm μ1 (t + 1) 5 (nI c) (-1)).1 4 = nI (t + 1 + 1) := rfl
        have k5 : (nm μ1 (t + 1) 5 (nI c) (-1)).1 5 = 0 := G1.2.1
        unfold p_Mo_is
        rw [if_pos k5, k4, if_pos (q_inR (by omega) (by decide)), q_tn (by omega), k3]
      have t59 : p_Mo_take (nm μ1 (t + 1) 5 (nI c) (-1)) 59 = some (0, nm μ1 (t + 1) 5 (nI c) (-1)) := by
        unfold p_Mo_take
        rw [i40, if_neg (by rw [k40]; decide), q_bd1, if_pos rfl]
      have k5 : (nm μ1 (t + 1) 5 (nI c) (-1)).1 5 = 0 := G1.2.1
      rw [if_pos k5, t59, q_bd2, if_pos rfl, i40, if_pos k40, q_bd1, if_neg (by decide), G1.2.2.1, if_pos (q_inR (by omega) (by decide)), q_tn (by omega), G2.2.2.1, nI_1]
      have s9 : cS (tr K (t + 1 + 1 + 1)) = 9 := by rw [trS, s8, k40]; simp +decide only [nxt, if_true, if_false]
      have G3 := gd_0 hT G2 (by rw [s9]; decide) (n14 s8 (by decide)) (rr_ro0 (by unfold rbT; rw [s8]; simp +decide only [rb, rr, if_true, if_false]))
      rcases pars hT G3 s9 ((cC_k (by rw [s8]; decide)).trans c2) ((cM_k (by rw [s8]; decide)).trans m2) with ⟨μ', r, B⟩ | ⟨μ', t', r, lt, G4, s13, c4, m4⟩
      · rw [r, q_bd1, B.need, q_bd1, FU_s]
        exact bb_80 _ _ _ B.s5
      · rw [r, q_bd1, G4.need hT]
        have l13 : 8 < cS (tr K t') := by rw [s13]; decide
        by_cases k123 : K t' = 123
        · have s14 : cS (tr K (t' + 1)) = 14 := by rw [trS, s13, k123]; simp +decide only [nxt, if_true, if_false]
          have G5 := gd_0 hT G4 (by rw [s14]; decide) (n14 s13 (by decide)) (rr_ro0 (by unfold rbT; rw [s13]; simp +decide only [rb, rr, if_true, if_false]))
          rw [if_pos k123, q_bd1]
          exact (bodyL hT (N + 1 - (t' + 1)) (t' + 1) FU _ rfl (by unfold FU; omega) G5 s14 ((cC_k (n_8 l13 (by decide))).trans c4) ((cM_k (n_8 l13 (by decide))).trans m4)).mono (by omega)
        · have z0 : cS (tr K (t' + 1)) = 0 := by rw [trS, s13]; simp +decide only [nxt, k123, if_true, if_false]
          rw [if_neg k123, q_bd1, FU_s]
          exact bb_80 _ _ _ (gd_bad G4 z0 (fun z => absurd z (n_8 l13 (by decide))))
    · have G2 := gd_n (x1 := 5) hT G1 a8 (n14 s7 (by decide)) (by unfold ro; rw [if_neg k40, r2]; decide) hcl1 hmt1
      rw [if_pos G2.2.1, G2.take hT]
      by_cases k59 : K (t + 1 + 1) = 59
      · have s6 : cS (tr K (t + 1 + 1 + 1)) = 6 := by rw [trS, s8, k59]; simp +decide only [nxt, if_true, if_false]
        rw [if_pos k59, q_bd2, if_neg (by decide)]
        exact Or.inr ⟨_, t + 1 + 1 + 1, rfl, by omega, gd_0 hT G2 (by rw [s6]; decide) (n14 s8 (by decide)) (rr_ro0 (by unfold rbT; rw [s8]; simp +decide only [rb, rr, if_true, if_false])), s6, (cC_k (by rw [s8]; decide)).trans c2⟩
      · rw [if_neg k59, q_bd2, if_pos rfl, G2.is hT, if_neg k40, q_bd1, if_pos rfl]
        have z0 : cS (tr K (t + 1 + 1 + 1)) = 0 := by rw [trS, s8]; simp +decide only [nxt, k40, k59, if_true, if_false]
        exact Or.inl ⟨_, rfl, gd_bad G2 z0 (fun z => by rw [s8] at z; exact absurd z (by decide))⟩
  · have z0 : cS (tr K (t + 1 + 1)) = 0 := by rw [trS, s7]; simp +decide only [nxt, k1, if_true, if_false]
    have B := gd_bad G1 z0 (fun z => by rw [s7] at z; exact absurd z (by decide))
    rw [if_neg k1, q_bd1, if_neg B.n5]
    exact Or.inl ⟨_, rfl, B⟩
/-- the members of a class -/
theorem bb_99 (n : Nat) (k5 : Sto → Option Sto) (B : BB K N μ0 μ) (h6 : μ0.1 6 = nI c) : p_Mo_file_L99 k5 (n + 1) μ = k5 (sS (sS μ 5 1) 6 (nI (c + 1))) := by
  have e6 : (sS μ 5 1).1 6 + 1 = nI (c + 1) := by
    show μ.1 6 + 1 = _
    rw [B.1.1 6 (by decide) (by decide) (by decide), h6, nI_1]
  unfold p_Mo_file_L99
  rw [if_neg B.n5, B.need, q_bd1, e6]
def R99 (K : Nat → Int32) (N : Nat) (μ0 : Sto) (c t : Nat) (k5 : Sto → Option Sto) (r : Option Sto) : Prop := (∃ μ', r = k5 (sS μ' 6 (nI (c + 1))) ∧ BB K N μ0 μ') ∨ (∃ μ' t', r = k5 (sS μ' 6 (nI (c + 1))) ∧ t < t' ∧ GD K N μ0 1000 t' μ' ∧ cS (tr K t') = 1 ∧ cC (tr K t') = c + 1)
theorem R99.mono {t' : Nat} {k5 : Sto → Option Sto} {r : Option Sto} (h : R99 K N μ0 c t' k5 r) (ht : t ≤ t') : R99 K N μ0 c t k5 r := h.imp id (fun ⟨a, u, x1, x2, x3⟩ => ⟨a, u, x1, by omega, x3⟩)
theorem l99 (hT : TKM K N μ0) (k5 : Sto → Option Sto) (h6 : μ0.1 6 = nI c) : ∀ (j t fuel : Nat) (μ : Sto), j = N + 1 - t → j < fuel → GD K N μ0 1000 t μ → cS (tr K t) = 6 → cC (tr K t) = c + 1 → R99 K N μ0 c t k5 (p_Mo_file_L99 k5 fuel μ) := by
  intro j
  induction j using Nat.strongRecOn with
  | _ j ih =>
  intro t fuel μ hj hf h s hc
  have tN := h.2.2.2.2.1
  have m6 : μ.1 6 = nI c := (h.1.1 6 (by decide) (by decide) (by decide)).trans h6
  obtain ⟨n, rfl⟩ : ∃ n, fuel = n + 1 := ⟨fuel - 1, by omega⟩
  obtain ⟨n', hn'⟩ : ∃ n', n = n' + 1 := ⟨n - 1, by omega⟩
  unfold p_Mo_file_L99
  rw [if_pos h.2.1, h.is hT]
  by_cases k : K t = 125
  · have s1 : cS (tr K (t + 1)) = 1 := by rw [trS, s]; simp +decide only [nxt, k, if_true, if_false]
    have e6 : (sS μ 4 (nI (t + 1))).1 6 + 1 = nI (c + 1) := by
      show μ.1 6 + 1 = _
      rw [m6, nI_1]
    rw [if_pos k, q_bd1, if_neg (by decide), h.need hT, if_pos k, q_bd1, e6]
    exact Or.inr ⟨_, t + 1, rfl, by omega, gd_0 hT h (by rw [s1]; decide) (n14 s (by decide)) (rr_ro0 (by unfold rbT; rw [s]; simp +decide only [rb, rr, k, if_true, if_false])), s1, (cC_k (by rw [s]; decide)).trans hc⟩
  · rw [if_neg k, q_bd1, if_pos rfl, m6]
    rcases memb hT h s k hc with ⟨μ', r, B⟩ | ⟨μ', t', r, lt, G, s', c'⟩
    · rw [r, q_bd1, hn', bb_99 n' k5 B h6]
      exact Or.inl ⟨_, rfl, B.s5⟩
    · rw [r, q_bd1]
      have l' := G.2.2.2.2.1
      exact (ih (N + 1 - t') (by omega) t' n μ' rfl (by omega) G s' c').mono (by omega)
end RP5
