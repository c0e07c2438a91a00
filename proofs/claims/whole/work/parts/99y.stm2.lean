/-! judging: the three statements -/
def SR (z0 : Sto × Sto) (K : Nat → Int32) (N : Nat) (W : Nat → Int64) (t : Nat) (σ μ : Sto) : Prop := ∃ t' σ' μ', t < t' ∧ t' ≤ N ∧ crn (t' - t) σ t = some σ' ∧ (∀ i τ, i < t' - t → crn i σ t = some τ → τ.1 3 = nI N) ∧ p_Mo_judgeStatement μ (nI t) = some μ' ∧ SJ z0 K N W t' σ' μ' ∧ (∀ u, t < u → u < t' → ¬ cS (tr K u) = 14) ∧ cS (tr K t') = 14
section STM2
variable {z0 : Sto × Sto} {K : Nat → Int32} {N : Nat} {W : Nat → Int64} {c st t : Nat} {sh : Int32} {σ μ : Sto}
theorem cEf : ∀ {a b : Nat}, a ≤ b → cE (tr K a) = false → (∀ u, a ≤ u → u < b → ¬ cS (tr K u) = 14) → cE (tr K b) = false
  | a, 0, h, e, _ => by rw [show 0 = a by omega]; exact e
  | a, b + 1, h, e, g => by
    by_cases q : a = b + 1
    · rw [← q]; exact e
    · have ih := cEf (a := a) (b := b) (by omega) e (fun u h1 h2 => g u h1 (by omega))
      rw [trE]
      unfold eqm
      rw [if_neg (g b (by omega) (by omega)), ih]
      split <;> rfl
theorem fit_u {x : Int32} : fitB K N W x (-2) = true := by
  unfold fitB
  rw [decide_eq_true (Or.inr (Or.inl rfl))]
  rfl
/-- from the first token of the last expression to the next statement -/
theorem lastx {p : Nat} {σ0 : Sto} (tp : t ≤ p) (r0 : crn (p - t) σ0 t = some σ) (i0 : ∀ i τ, i < p - t → crn i σ0 t = some τ → τ.1 3 = nI N) (eb : EB z0 K N W p σ μ) (l0 : σ.1 12 = nI 0) (c0 : σ.2.1 23 0 = -1) (ec : EC sh K c t p σ μ) (h25 : σ.2.1 25 0 = nI p) (h26 : σ.2.1 26 0 = nI p) (h28 : σ.2.1 28 0 = 0) (pN : p < N) (s17 : cS (tr K p) = 17) (d0 : cD (tr K p) = 0) (ce : cE (tr K p) = false) (ts : TV K N sh) (np : ∀ u, t < u → u ≤ p → ¬ cS (tr K u) = 14) : ∃ t' σ' μ' v, t < t' ∧ t' ≤ N ∧ crn (t' - t) σ0 t = some σ' ∧ (∀ i τ, i < t' - t → crn i σ0 t = some τ → τ.1 3 = nI N) ∧ p_Mo_evaluate μ (nI p) (nI t) = some (v, μ') ∧ TV K N v ∧ SM K N μ' ∧ μ'.2.2 = W ∧ SJ z0 K N W t' σ' (mw μ' p (fitB K N W v sh)) ∧ (∀ u, t < u → u < t' → ¬ cS (tr K u) = 14) ∧ cS (tr K t') = 14 := by
  obtain ⟨t', σ', μ', v, f, b, l1, l2, r1, i1, e1, x1, x3, tv, hf, E, e8, w, k, cd, Q, U, f25⟩ := evalx eb l0 c0 ec h25 h26 h28 pN (Or.inr (Or.inl s17)) d0 (by rw [s17]; decide) ⟨fun z => by rw [s17] at z; exact absurd z (by decide), fun z => by rw [ce] at z; exact absurd z (by decide)⟩
  have a1 := eb.1.al (t := t' + 1) (by omega)
  have cef : cE (tr K t') = false := cEf l1 ce (fun u h1 h2 => by
    by_cases e : u = p
    · rw [e, s17]; decide
    · exact U u (by omega) (by omega))
  have k59 : K t' = 59 := k.resolve_right (fun q => a1 (by
    rw [(ns_n w).1, q, cd, cef]
    simp +decide only [tal, if_true, if_false]))
  obtain ⟨σ2, c2, S2⟩ := endS E w k59 cd l2 x1 tv ts hf (by omega) f25
  have r2 : crn (t' - t) σ0 t = some σ' := by
    rw [show t' - t = (p - t) + (t' - p) by omega, crn_add r0, show t + (p - t) = p by omega]
    exact r1
  have smf : SM K N (mw μ' f b) := (E.1.up.w (b := b) hf l2).2.2.2.2.1
  have s14' : cS (tr K (t' + 1)) = 14 := by rw [(ns_n w).1, k59, cd]; simp +decide only [tal, if_true, if_false]
  refine ⟨t' + 1, σ2, mw μ' f b, v, by omega, by omega, ?_, fun i τ hi hτ => ?_, e1, tv, smf, (E.1.up.w (b := b) hf l2).2.2.2.2.2.1, S2, fun u h1 h2 => ?_, s14'⟩
  · rw [show t' + 1 - t = (t' - t) + 1 by omega, crn_add r2, show t + (t' - t) = t' by omega]
    exact crn_1 c2
  · by_cases q : i < p - t
    · exact i0 i τ q hτ
    · by_cases q2 : i = t' - t
      · rw [q2, r2] at hτ
        rw [← Option.some.inj hτ]
        exact E.1.1.2.2.2.1
      · rw [show i = (p - t) + (i - (p - t)) by omega, crn_add r0, show t + (p - t) = p by omega] at hτ
        exact i1 (i - (p - t)) τ (by omega) hτ
  · by_cases q : u ≤ p
    · exact np u h1 q
    · exact U u (by omega) (by omega)
/-- what is known at a statement's first token -/
theorem st_pre (h : SJ z0 K N W t σ μ) (tN : t < N) (s14 : cS (tr K t) = 14) (k125 : ¬ K t = 125) : ∃ c, cC (tr K t) = c + 1 ∧ σ.1 13 = nI c ∧ σ.1 14 = nI (cM (tr K t)) ∧ σ.1 16 = nI t ∧ μ.2.1 8 t = nI c ∧ μ.2.1 9 t = nI (cM (tr K t)) ∧ cD (tr K t) = 0 ∧ cM (tr K t) < t ∧ cS (tr K (cM (tr K t))) = 7 := by
  obtain ⟨eb, l0, c0, h13, h14, h8, hs14⟩ := h
  have sc := eb.1
  have al := sc.al (t := t) (by omega)
  have c1 := (WG_all t al).2.2.2.2 (by rw [s14]; decide)
  have sm := eb.2.2.2.2.1
  obtain ⟨m8, m9⟩ := sm.2.2.2.2.2.2.2.2.2.1 t tN s14 k125
  obtain ⟨i1, i2, _⟩ := inM t (by rw [s14]; decide)
  refine ⟨cC (tr K t) - 1, by omega, h13 (by rw [s14]; decide), h14 (by rw [s14]; decide), (hs14 s14).1, ?_, ?_, (WF_all t al).2.1 (by rw [s14]; decide), i1, i2⟩
  · rw [m8]; unfold cls; rw [if_neg (by rw [s14]; decide)]
  · rw [m9]; unfold mth; rw [if_pos (by rw [s14]; decide)]
theorem sr_1 (h : SJ z0 K N W t σ μ) (tN : t < N) (s14 : cS (tr K t) = 14) (hk : K t = 3 ∨ (K t = 1 ∧ K (t + 1) = 1)) : SR z0 K N W t σ μ := by
  have k125 : ¬ K t = 125 := by rcases hk with z | z <;> (try rw [z]) <;> (try rw [z.1]) <;> decide
  obtain ⟨c, cc, e13, e14, e16, m8, m9, d0, mt, m7⟩ := st_pre h tN s14 k125
  obtain ⟨eb, l0, c0, h13, h14, h8, hs14⟩ := h
  have sc := eb.1
  have hN := sc.1
  have sm := eb.2.2.2.2.1
  have s15 : cS (tr K (t + 1)) = 15 := by
    rw [trS, s14]
    rcases hk with z | z
    · rw [z]; simp +decide only [nxt, if_true, if_false]
    · rw [z.1, z.2]; simp +decide only [nxt, and_self, if_true, if_false]
  have t1N : t + 1 < N := Decidable.byContradiction (fun z => by
    have e : t + 1 = N := by omega
    have := s15
    rw [e, sc.2.1] at this
    exact absurd this (by decide))
  have a2 := sc.al (t := t + 2) (by omega)
  have r5 : ro K (t + 1) = 5 := (ro_i K _).2.2.2.1.mpr s15
  have k1 : K (t + 1) = 1 := sc.nm t1N (by rw [r5]; decide)
  have s16 : cS (tr K (t + 2)) = 16 := by
    show cS (tr K (t + 1 + 1)) = 16
    rw [trS, s15, k1]; simp +decide only [nxt, if_true, if_false]
  have t2N : t + 2 < N := Decidable.byContradiction (fun z => by
    have e : t + 2 = N := by omega
    have := s16
    rw [e, sc.2.1] at this
    exact absurd this (by decide))
  have a3 := sc.al (t := t + 3) (by omega)
  have k61 : K (t + 2) = 61 := Decidable.byContradiction (fun z => a3 (by
    show cS (tr K (t + 2 + 1)) = 0
    rw [trS, s16]; simp +decide only [nxt, z, if_true, if_false]))
  have s17 : cS (tr K (t + 3)) = 17 := by
    show cS (tr K (t + 2 + 1)) = 17
    rw [trS, s16, k61]; simp +decide only [nxt, if_true, if_false]
  have t3N : t + 3 < N := Decidable.byContradiction (fun z => by
    have e : t + 3 = N := by omega
    have := s17
    rw [e, sc.2.1] at this
    exact absurd this (by decide))
  have ce1 : cE (tr K (t + 1)) = false := by
    rw [trE, s14]
    rcases hk with z | z
    · rw [z]; simp +decide only [eqm, true_or, or_true, not_true_eq_false, decide_false, if_true]
    · rw [z.1, z.2]; simp +decide only [eqm, true_or, or_true, and_self, not_true_eq_false, decide_false, if_true]
  have ce3 : cE (tr K (t + 3)) = false := cEf (a := t + 1) (by omega) ce1 (fun u h1 h2 => by
    by_cases e : u = t + 1
    · rw [e, s15]; decide
    · rw [show u = t + 2 by omega, s16]; decide)
  have d3 : cD (tr K (t + 3)) = 0 := by
    show cD (tr K (t + 2 + 1)) = 0
    rw [trD, s16, k61]
    simp +decide only [dpt, false_and, if_false]
    exact (WF_all _ (sc.al (by omega))).2.1 (by rw [s16]; decide)
  have cc3 : cC (tr K (t + 3)) = c + 1 := by
    show cC (tr K (t + 2 + 1)) = c + 1
    rw [cC_k (by rw [s16]; decide), show t + 2 = t + 1 + 1 from rfl, cC_k (by rw [s15]; decide), cC_k (by rw [s14]; decide)]
    exact cc
  have cm3 : cM (tr K (t + 3)) = cM (tr K t) := by
    show cM (tr K (t + 2 + 1)) = _
    rw [cM_k (by rw [s16]; decide), show t + 2 = t + 1 + 1 from rfl, cM_k (by rw [s15]; decide), cM_k (by rw [s14]; decide)]
  have c1 : cstp σ t = some σ := by
    have r : ro K t = 0 ∨ ro K t = 7 := by
      rcases hk with z | z
      · left; exact ro_s (by unfold rbT; rw [s14, z]; simp +decide only [rb, if_true, if_false]) (by decide) (by decide) (by decide)
      · right; exact ro_s (by unfold rbT; rw [s14, z.1, z.2]; simp +decide only [rb, and_self, if_true, if_false]) (by decide) (by decide) (by decide)
    unfold cstp p_Judge_enter
    rw [sc.rl tN]
    rcases r with z | z <;> rw [z] <;> simp +decide only [if_true, if_false]
  have c2 : cstp σ (t + 1) = some (sS σ 15 (nI (t + 1))) := by
    unfold cstp p_Judge_enter
    rw [sc.rl t1N, r5]
    simp +decide only [if_true, if_false]
  have r17 : ro K (t + 2) = 17 := ro_s (by unfold rbT; rw [s16]; simp +decide only [rb, if_true, if_false]) (by decide) (by decide) (by decide)
  have ty : tyd K N W N (t + 1) = dcl K N W (t + 1) := tyd_m t1N (Or.inr (Or.inr (Or.inr r5)))
  have e15 : (sS σ 15 (nI (t + 1))).1 15 = nI (t + 1) := rfl
  have c3 : cstp (sS σ 15 (nI (t + 1))) (t + 2) = some (sA (sA (sA (sS (sS σ 15 (nI (t + 1))) 17 (dcl K N W (t + 1))) 25 0 (nI (t + 3))) 26 0 (nI (t + 3))) 28 0 0) := by
    have e9 : (sS σ 15 (nI (t + 1))).2.1 9 (t + 2) = 17 := by rw [q_S2, sc.rl t2N, r17]
    have e12 : (sS σ 15 (nI (t + 1))).2.1 12 (t + 1) = dcl K N W (t + 1) := by rw [q_S2, eb.2.2.2.1 _ t1N, ty]
    unfold cstp p_Judge_takeStatementSign
    rw [e9]
    simp +decide only [if_true, if_false, e15, if_pos (q_inR (show t + 1 < 121 by omega) (by decide : 121 < 2147483648)), q_tn (show t + 1 < 2147483648 by omega), e12, nI_1]
    rw [cbegin (σ := sS (sS σ 15 (nI (t + 1))) 17 (dcl K N W (t + 1))) (D := 0) l0 (by omega), q_bd1]
  have r0 : crn (t + 3 - t) σ t = some (sA (sA (sA (sS (sS σ 15 (nI (t + 1))) 17 (dcl K N W (t + 1))) 25 0 (nI (t + 3))) 26 0 (nI (t + 3))) 28 0 0) := by
    rw [show t + 3 - t = 1 + (1 + 1) by omega, crn_add (crn_1 c1), crn_add (crn_1 c2)]
    exact crn_1 c3
  have i0 : ∀ i τ, i < t + 3 - t → crn i σ t = some τ → τ.1 3 = nI N := by
    intro i τ hi hτ
    by_cases e0 : i = 0
    · subst e0
      rw [← Option.some.inj hτ]; exact sc.2.2.2.1
    · by_cases e1 : i = 1
      · subst e1
        rw [crn_1 c1] at hτ
        rw [← Option.some.inj hτ]; exact sc.2.2.2.1
      · have e2 : i = 1 + 1 := by omega
        subst e2
        rw [crn_add (crn_1 c1), crn_1 c2] at hτ
        rw [← Option.some.inj hτ]
        exact sc.2.2.2.1
  have eb3 : EB z0 K N W (t + 3) (sA (sA (sA (sS (sS σ 15 (nI (t + 1))) 17 (dcl K N W (t + 1))) 25 0 (nI (t + 3))) 26 0 (nI (t + 3))) 28 0 0) μ := (((((eb.up.up.up).S (by decide) (by decide)).S (by decide) (by decide)).L (by decide)).L (by decide)).L (by decide)
  obtain ⟨t', σ', μ', v, y1, y2, y3, y4, y5, y6, y7, y8, y9, y10, y11⟩ := lastx (sh := dcl K N W (t + 1)) (c := c) (p := t + 3) (by omega) r0 i0 eb3 l0 (by rw [q_An (by decide), q_An (by decide), q_An (by decide)]; exact c0) ⟨rfl, e13, cc3, by rw [cm3]; exact e14, e16, m8, by omega⟩ (by rw [q_An (by decide), q_An (by decide), q_A2, if_pos rfl, if_pos rfl]) (by rw [q_An (by decide), q_A2, if_pos rfl, if_pos rfl]) (by rw [q_A2, if_pos rfl, if_pos rfl]) t3N s17 d3 ce3 (dcl_tv _) (fun u h1 h2 => by
    by_cases e1 : u = t + 1
    · rw [e1, s15]; decide
    · by_cases e2 : u = t + 2
      · rw [e2, s16]; decide
      · rw [show u = t + 3 by omega, s17]; decide)
  refine ⟨t', σ', _, y1, y2, y3, y4, ?_, y9, y10, y11⟩
  have bg1 : μ.2.1 10 t = 1 := by
    rw [sm.bgn (by omega), if_pos ⟨tN, s14, k125⟩]
    unfold bg
    rw [if_pos hk]
  unfold p_Mo_judgeStatement
  rw [if_pos (q_inR (by omega) (by decide))]
  simp only [q_tn (show t < 2147483648 by omega), bg1, if_true]
  rw [show nI t + 3 = nI (t + 3) from q_addL t 3, nI_1, y5, q_bd2, mdcl y7 (by omega) (by omega), q_bd1, y8, mshould y7 (by omega) y6 (dcl_tv _), q_bd1, y8]
theorem sr_2 (h : SJ z0 K N W t σ μ) (tN : t < N) (s14 : cS (tr K t) = 14) (k6 : K t = 6) : SR z0 K N W t σ μ := by
  have k125 : ¬ K t = 125 := by rw [k6]; decide
  obtain ⟨c, cc, e13, e14, e16, m8, m9, d0, mt, m7⟩ := st_pre h tN s14 k125
  obtain ⟨eb, l0, c0, h13, h14, h8, hs14⟩ := h
  have sc := eb.1
  have hN := sc.1
  have sm := eb.2.2.2.2.1
  have s17 : cS (tr K (t + 1)) = 17 := by rw [trS, s14]; simp +decide only [nxt, k6, false_and, if_true, if_false]
  have t1N : t + 1 < N := Decidable.byContradiction (fun z => by
    have e : t + 1 = N := by omega
    have := s17
    rw [e, sc.2.1] at this
    exact absurd this (by decide))
  have ce1 : cE (tr K (t + 1)) = false := by rw [trE, s14]; simp +decide only [eqm, k6, true_or, or_true, not_true_eq_false, decide_false, if_true]
  have d1 : cD (tr K (t + 1)) = 0 := by rw [trD, s14]; simp +decide only [dpt, k6, false_and, if_false]; exact d0
  have cc1 : cC (tr K (t + 1)) = c + 1 := (cC_k (by rw [s14]; decide)).trans cc
  have cm1 : cM (tr K (t + 1)) = cM (tr K t) := cM_k (by rw [s14]; decide)
  have r16 : ro K t = 16 := ro_s (by unfold rbT; rw [s14]; simp +decide only [rb, k6, false_and, if_true, if_false]) (by decide) (by decide) (by decide)
  have mr := (ro_i K (cM (tr K t))).2.2.2.2.2.1.mpr m7
  have m1 := (typ7 (sc.al (t := cM (tr K t)) (by omega)) (Or.inl m7)).1
  have ty : tyd K N W N (cM (tr K t)) = dcl K N W (cM (tr K t)) := tyd_m (by omega) (mr.imp id Or.inl)
  have c1 : cstp σ t = some (sA (sA (sA (sS σ 17 (dcl K N W (cM (tr K t)))) 25 0 (nI (t + 1))) 26 0 (nI (t + 1))) 28 0 0) := by
    unfold cstp p_Judge_takeStatementSign
    rw [sc.rl tN, r16]
    simp +decide only [if_true, if_false, e14, if_pos (q_inR (show cM (tr K t) < 121 by omega) (by decide : 121 < 2147483648)), q_tn (show cM (tr K t) < 2147483648 by omega), eb.2.2.2.1 _ (show cM (tr K t) < N by omega), ty, nI_1]
    rw [cbegin (σ := sS σ 17 (dcl K N W (cM (tr K t)))) (D := 0) l0 (by omega), q_bd1]
  have eb1 : EB z0 K N W (t + 1) (sA (sA (sA (sS σ 17 (dcl K N W (cM (tr K t)))) 25 0 (nI (t + 1))) 26 0 (nI (t + 1))) 28 0 0) μ := ((((eb.up).S (by decide) (by decide)).L (by decide)).L (by decide)).L (by decide)
  obtain ⟨t', σ', μ', v, y1, y2, y3, y4, y5, y6, y7, y8, y9, y10, y11⟩ := lastx (sh := dcl K N W (cM (tr K t))) (c := c) (p := t + 1) (by omega) (by rw [show t + 1 - t = 1 by omega]; exact crn_1 c1) (fun i τ hi hτ => by
    have e0 : i = 0 := by omega
    subst e0
    rw [← Option.some.inj hτ]; exact sc.2.2.2.1) eb1 l0 (by rw [q_An (by decide), q_An (by decide), q_An (by decide)]; exact c0) ⟨rfl, e13, cc1, by rw [cm1]; exact e14, e16, m8, by omega⟩ (by rw [q_An (by decide), q_An (by decide), q_A2, if_pos rfl, if_pos rfl]) (by rw [q_An (by decide), q_A2, if_pos rfl, if_pos rfl]) (by rw [q_A2, if_pos rfl, if_pos rfl]) t1N s17 d1 ce1 (dcl_tv _) (fun u h1 h2 => by rw [show u = t + 1 by omega, s17]; decide)
  refine ⟨t', σ', _, y1, y2, y3, y4, ?_, y9, y10, y11⟩
  have bg2 : μ.2.1 10 t = 2 := by
    rw [sm.bgn (by omega), if_pos ⟨tN, s14, k125⟩]
    unfold bg
    rw [if_neg (fun z => by rw [k6] at z; rcases z with y | y; exact absurd y (by decide); exact absurd y.1 (by decide)), if_pos k6]
  have m9' : μ'.2.1 9 t = nI (cM (tr K t)) := by
    rw [(y7.2.2.2.2.2.2.2.2.2.1 t tN s14 k125).2]
    unfold mth
    rw [if_pos (by rw [s14]; decide)]
  unfold p_Mo_judgeStatement
  rw [if_pos (q_inR (by omega) (by decide))]
  simp only [q_tn (show t < 2147483648 by omega), bg2, if_neg (show ¬ (2 : Int32) = 1 by decide), if_pos (q_inR (show t < 124 by omega) (by decide : 124 < 2147483648)), if_true]
  rw [nI_1, y5, q_bd2]
  simp only [m9']
  rw [mdcl y7 m1 (by omega), q_bd1, y8, mshould y7 (by omega) y6 (dcl_tv _), q_bd1, y8]
end STM2
