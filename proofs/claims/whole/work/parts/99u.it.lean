/-! judging: token by token through an expression -/
def PS (K : Nat → Int32) (t : Nat) : Prop := WS K t ∨ cS (tr K t) = 18 ∨ cS (tr K t) = 19 ∨ NS K t
/-- what is known of the target of an assignment -/
def RQ (K : Nat → Int32) (st t : Nat) (σ : Sto) : Prop := (cS (tr K t) = 14 → t = st) ∧ (cE (tr K t) = true → cD (tr K t) = 0 → (cS (tr K t) = 17 → σ.2.1 28 0 = 1) ∧ (1 ≤ t → ro K (t - 1) = 9 → NS K t → t - 1 = st ∨ σ.2.1 28 0 = 1))
def It (z0 : Sto × Sto) (f0 : Nat) (sh : Int32) (K : Nat → Int32) (N : Nat) (W : Nat → Int64) (c st : Nat) (x1 : Int32) (t : Nat) (σ μ : Sto) : Prop := ∃ t' σ' μ', t < t' ∧ t' ≤ N ∧ crn (t' - t) σ t = some σ' ∧ (∀ j τ, j < t' - t → crn j σ t = some τ → τ.1 3 = nI N) ∧ (∀ n, p_Mo_evaluate_L15 x1 (nI st) (n + 1) μ (nI t) 1 = p_Mo_evaluate_L15 x1 (nI st) n μ' (nI t') 1) ∧ EJ z0 f0 sh K N W c st t' σ' μ' ∧ PS K t' ∧ RQ K st t' σ' ∧ (∀ u, t < u → u < t' → ¬ cS (tr K u) = 14)
section IT
variable {z0 : Sto × Sto} {f0 : Nat} {sh : Int32} {K : Nat → Int32} {N : Nat} {W : Nat → Int64} {c st t : Nat} {x1 : Int32} {σ μ : Sto}
theorem ps_8 (h : PS K t) : 8 < cS (tr K t) := by
  rcases h with h | h | h | h
  · exact ws_8 h
  · rw [h]; decide
  · rw [h]; decide
  · exact ns_8 h
theorem ps_n {v : Int32} (h : PS K t) (hv : ¬ v = 14 ∧ ¬ v = 17 ∧ ¬ v = 21 ∧ ¬ v = 18 ∧ ¬ v = 19 ∧ ¬ v = 20 ∧ ¬ v = 22) : ¬ cS (tr K t) = v := by
  intro z
  rcases h with (⟨s, _⟩ | s | ⟨s, _⟩) | s | s | (⟨s, _⟩ | s) <;> rw [s] at z
  · exact hv.1 z.symm
  · exact hv.2.1 z.symm
  · exact hv.2.2.1 z.symm
  · exact hv.2.2.2.1 z.symm
  · exact hv.2.2.2.2.1 z.symm
  · exact hv.2.2.2.2.2.1 z.symm
  · exact hv.2.2.2.2.2.2 z.symm
theorem it_1 {σ' μ' : Sto} (h : EJ z0 f0 sh K N W c st t σ μ) (tN : t + 1 ≤ N) (hc : cstp σ t = some σ') (he : ∀ n, p_Mo_evaluate_L15 x1 (nI st) (n + 1) μ (nI t) 1 = p_Mo_evaluate_L15 x1 (nI st) n μ' (nI (t + 1)) 1) (hE : EJ z0 f0 sh K N W c st (t + 1) σ' μ') (hP : PS K (t + 1)) (hQ : RQ K st (t + 1) σ') : It z0 f0 sh K N W c st x1 t σ μ := by
  refine ⟨t + 1, σ', μ', by omega, tN, ?_, fun j τ hj hτ => ?_, he, hE, hP, hQ, fun u h1 h2 => by omega⟩
  · rw [show t + 1 - t = 1 by omega]; exact crn_1 hc
  · have : j = 0 := by omega
    subst this
    have := Option.some.inj hτ
    subst this
    exact h.1.1.2.2.2.1
theorem rq_o {σ' : Sto} {v : Int32} (s : cS (tr K (t + 1)) = v) (hv : ¬ v = 17 ∧ ¬ v = 14) (n9 : ¬ ro K t = 9) : RQ K st (t + 1) σ' := ⟨fun z => absurd (s.symm.trans z) hv.2, fun _ _ => ⟨fun z => absurd (s.symm.trans z) hv.1, fun _ z => absurd z n9⟩⟩
theorem EJ.D8 (h : EJ z0 f0 sh K N W c st t σ μ) (tN : t ≤ N) : cD (tr K t) ≤ 8 := (WF_all t (h.1.1.al tN)).1
/-- numbers, this, new, and the dot -/
theorem it_num (h : EJ z0 f0 sh K N W c st t σ μ) (tN : t < N) (w : WS K t) (k : K t = 2) : It z0 f0 sh K N W c st x1 t σ μ := by
  obtain ⟨wS, wR, wD, wO, wE⟩ := ws_n w
  have w8 := ws_8 w
  have sc := h.1.1
  have hN := sc.1
  have d8 := h.D8 (by omega)
  rw [k] at wS wR wD wO
  have s22 : cS (tr K (t + 1)) = 22 := by rw [wS]; simp +decide only [opr, if_true, if_false]
  have r : ro K t = 13 := ro_s (by rw [wR]; simp +decide only [oprR, if_true, if_false]) (by decide) (by decide) (by decide)
  refine it_1 (σ' := sA σ 27 (cD (tr K t)) (-1)) (μ' := sA μ 19 (cD (tr K t)) (-1)) h (by omega) ?_ (fun n => ev_2 h.1.2.2.2.2.1 (by omega) n h.2.2.1.2.1 (by omega) k) (h.val rfl (Or.inr (Or.inl rfl)) (by rw [s22]; decide) w8 (ps_n (Or.inl w) (by decide)) (by rw [k]; decide) wD wO) (Or.inr (Or.inr (Or.inr (Or.inr s22)))) (rq_o s22 (by decide) (by rw [r]; decide))
  unfold cstp p_Judge_takeOperand
  rw [sc.rl tN, r]
  simp +decide only [if_true, if_false, h.2.2.1.1, if_pos (q_inR (show cD (tr K t) < 9 by omega) (by decide : 9 < 2147483648)), q_tn (show cD (tr K t) < 2147483648 by omega)]
theorem it_this (h : EJ z0 f0 sh K N W c st t σ μ) (tN : t < N) (w : WS K t) (k : K t = 8) : It z0 f0 sh K N W c st x1 t σ μ := by
  obtain ⟨wS, wR, wD, wO, wE⟩ := ws_n w
  have w8 := ws_8 w
  have sc := h.1.1
  have hN := sc.1
  have m4 := sc.M4
  have d8 := h.D8 (by omega)
  obtain ⟨_, c13, cc, c14, c16, m8, stt⟩ := h.2.1
  have cl := cC_mono K t N (by omega)
  rw [k] at wS wR wD wO
  have s22 : cS (tr K (t + 1)) = 22 := by rw [wS]; simp +decide only [opr, if_true, if_false]
  have r : ro K t = 14 := ro_s (by rw [wR]; simp +decide only [oprR, if_true, if_false]) (by decide) (by decide) (by decide)
  refine it_1 (σ' := sA σ 27 (cD (tr K t)) (nI c)) (μ' := sA μ 19 (cD (tr K t)) (nI c)) h (by omega) ?_ (fun n => by rw [← m8]; exact ev_8 h.1.2.2.2.2.1 (by omega) n (by omega) h.2.2.1.2.1 (by omega) k) (h.val rfl (Or.inr (Or.inr ⟨c, by omega, rfl⟩)) (by rw [s22]; decide) w8 (ps_n (Or.inl w) (by decide)) (by rw [k]; decide) wD wO) (Or.inr (Or.inr (Or.inr (Or.inr s22)))) (rq_o s22 (by decide) (by rw [r]; decide))
  unfold cstp p_Judge_takeOperand
  rw [sc.rl tN, r]
  simp +decide only [if_true, if_false, h.2.2.1.1, if_pos (q_inR (show cD (tr K t) < 9 by omega) (by decide : 9 < 2147483648)), q_tn (show cD (tr K t) < 2147483648 by omega), c13]
theorem it_new (h : EJ z0 f0 sh K N W c st t σ μ) (tN : t < N) (w : WS K t) (k : K t = 7) : It z0 f0 sh K N W c st x1 t σ μ := by
  obtain ⟨wS, wR, wD, wO, wE⟩ := ws_n w
  have w8 := ws_8 w
  have sc := h.1.1
  have hN := sc.1
  rw [k] at wS wR wD wO
  have s18 : cS (tr K (t + 1)) = 18 := by rw [wS]; simp +decide only [opr, if_true, if_false]
  have r : ro K t = 0 := ro_s (by rw [wR]; simp +decide only [oprR, if_true, if_false]) (by decide) (by decide) (by decide)
  refine it_1 (σ' := σ) (μ' := μ) h (by omega) ?_ (fun n => ev_n h.1.2.2.2.2.1 (by omega) n (Or.inl k)) (h.nop (by rw [s18]; decide) w8 (ps_n (Or.inl w) (by decide)) (by rw [k]; decide) wD wO (fun z => by rw [s18] at z; exact absurd z (by decide))) (Or.inr (Or.inl s18)) (rq_o s18 (by decide) (by rw [r]; decide))
  unfold cstp p_Judge_enter
  rw [sc.rl tN, r]
  simp +decide only [if_true, if_false]
theorem it_cls (h : EJ z0 f0 sh K N W c st t σ μ) (tN : t < N) (s : cS (tr K t) = 18) : It z0 f0 sh K N W c st x1 t σ μ := by
  have sc := h.1.1
  have hN := sc.1
  have d8 := h.D8 (by omega)
  have a1 := sc.al (t := t + 1) (by omega)
  have r : ro K t = 8 := (ro_i K t).2.2.2.2.1.mpr s
  have k : K t = 1 := sc.nm tN (by rw [r]; decide)
  have s22 : cS (tr K (t + 1)) = 22 := by rw [trS, s, k]; simp +decide only [nxt, if_true, if_false]
  have eD : cD (tr K (t + 1)) = cD (tr K t) := by rw [trD, s, k]; simp +decide only [dpt, false_and, if_false]
  have eO : cO (tr K (t + 1)) = cO (tr K t) := by rw [trO, s, k]; simp +decide only [opn, false_and, if_false]
  have w8 : 8 < cS (tr K t) := by rw [s]; decide
  have ew := h.1.2.2.2.2.2.1
  have tv : TV K N (tI (clw K N W (W t))) := by
    cases q : clw K N W (W t) with
    | none => exact Or.inl rfl
    | some d => exact Or.inr (Or.inr ⟨d, clw_lt q, rfl⟩)
  refine it_1 (σ' := sA σ 27 (cD (tr K t)) (tI (clw K N W (W t)))) (μ' := sA μ 19 (cD (tr K t)) (tI (clw K N W (W t)))) h (by omega) ?_ (fun n => ?_) (h.val rfl tv (by rw [s22]; decide) w8 (by rw [s]; decide) (by rw [k]; decide) eD eO) (Or.inr (Or.inr (Or.inr (Or.inr s22)))) (rq_o s22 (by decide) (by rw [r]; decide))
  · have e11 : σ.2.1 11 t = oI ((clw K N W (W t)).map (fun c => ctA K c N)) := by
      rw [(h.1.2.2.2.2.2.2.2.1.1 t (Nat.le_refl _) tN).1]
      unfold an0
      rw [if_neg (show ¬ ro K t = 1 by rw [r]; decide), if_pos (Or.inr r)]
      cases clw K N W (W t) <;> rfl
    have ty := ctyn sc tN (o := clw K N W (W t)) (fun c hc => clw_lt hc) e11 (fun d hd => by rw [h.1.2.2.2.1 _ (ct_ok N d hd).1]; exact tyd_ct hd)
    unfold cstp p_Judge_enter
    rw [sc.rl tN, r]
    simp +decide only [if_true, if_false, ty, q_bd1, h.2.2.1.1, if_pos (q_inR (show cD (tr K t) < 9 by omega) (by decide : 9 < 2147483648)), q_tn (show cD (tr K t) < 2147483648 by omega)]
  · have := ev_4 (x1 := x1) (st := st) h.1.2.2.2.2.1 tN n h.2.2.1.2.1 (by omega) k r
    rw [ew] at this
    exact this
theorem it_dot (h : EJ z0 f0 sh K N W c st t σ μ) (tN : t < N) (w : NS K t) (k : K t = 46) : It z0 f0 sh K N W c st x1 t σ μ := by
  obtain ⟨wS, wR, wD, wO, _⟩ := ns_n w
  have w8 := ns_8 w
  have sc := h.1.1
  have hN := sc.1
  rw [k] at wS wR wD
  have s19 : cS (tr K (t + 1)) = 19 := by rw [wS]; simp +decide only [tal, if_true, if_false]
  have r : ro K t = 0 := ro_s (by rw [wR]; simp +decide only [talR, if_true, if_false]) (by decide) (by decide) (by decide)
  refine it_1 (σ' := σ) (μ' := μ) h (by omega) ?_ (fun n => ev_n h.1.2.2.2.2.1 (by omega) n (Or.inr k)) (h.nop (by rw [s19]; decide) w8 (ps_n (Or.inr (Or.inr (Or.inr w))) (by decide)) (by rw [k]; decide) wD wO (fun _ => ?_)) (Or.inr (Or.inr (Or.inl s19))) (rq_o s19 (by decide) (by rw [r]; decide))
  · unfold cstp p_Judge_enter
    rw [sc.rl tN, r]
    simp +decide only [if_true, if_false]
  · rcases w with ⟨z, _⟩ | z
    · exact Or.inr (Or.inl z)
    · exact Or.inr (Or.inr z)
/-- a bracket -/
theorem it_bra (h : EJ z0 f0 sh K N W c st t σ μ) (tN : t < N) (w : WS K t) (k : K t = 40) : It z0 f0 sh K N W c st x1 t σ μ := by
  obtain ⟨wS, wR, wD, wO, wE⟩ := ws_n w
  have w8 := ws_8 w
  have sc := h.1.1
  have hN := sc.1
  have hK := sc.2.2.1
  have a1 := sc.al (t := t + 1) (by omega)
  have d8 := h.D8 (by omega)
  rw [k] at wS wR wD wO
  rw [if_pos rfl] at wD wO
  have dl : cD (tr K t) < 8 := Decidable.byContradiction (fun z => a1 (by
    rw [wS, show cD (tr K t) = 8 by omega]
    decide))
  have s17 : cS (tr K (t + 1)) = 17 := by rw [wS]; simp +decide only [opr, if_true, if_false, if_pos dl]
  have tN1 : t + 1 < N := Decidable.byContradiction (fun z => by
    have e : t + 1 = N := by omega
    rw [e, sc.2.1] at s17
    exact absurd s17 (by decide))
  have r : ro K t = 21 := ro_s (by rw [wR]; simp +decide only [oprR, if_true, if_false]) (by decide) (by decide) (by decide)
  have sm := h.1.2.2.2.2.1
  have rE : inR (nI (cD (tr K t) + 1)) 10 := q_inR (by omega) (by decide)
  have rEn : (nI (cD (tr K t) + 1)).toNatClampNeg = cD (tr K t) + 1 := q_tn (by omega)
  generalize hμ' : sA (sA (sA (sA (sA (sS μ 7 (nI (cD (tr K t) + 1))) 16 (cD (tr K t) + 1) 0) 17 (cD (tr K t) + 1) (nI (t + 1))) 18 (cD (tr K t) + 1) (nI (t + 1))) 20 (cD (tr K t) + 1) 0) 19 (cD (tr K t) + 1) (-2) = μ'
  have fc : CFr σ (opC σ (cD (tr K t)) (-1) (nI (t + 1))) := by unfold opC; exact ((((((CFr.refl σ).S (by decide)).A (by decide)).A (by decide)).A (by decide)).A (by decide)).A (by decide)
  have fm : MFr μ μ' := by rw [← hμ']; exact ((((((MFr.refl μ).S (by decide)).A (by decide)).A (by decide)).A (by decide)).A (by decide)).A (by decide)
  have e11 : (opC σ (cD (tr K t)) (-1) (nI (t + 1))).2.1 11 = σ.2.1 11 := by unfold opC; rw [q_An (by decide), q_An (by decide), q_An (by decide), q_An (by decide), q_An (by decide), q_S2]
  have e17 : (opC σ (cD (tr K t)) (-1) (nI (t + 1))).2.1 17 = σ.2.1 17 := by unfold opC; rw [q_An (by decide), q_An (by decide), q_An (by decide), q_An (by decide), q_An (by decide), q_S2]
  have m13 : μ'.2.1 13 = μ.2.1 13 := by rw [← hμ', q_An (by decide), q_An (by decide), q_An (by decide), q_An (by decide), q_An (by decide), q_S2]
  have m14 : μ'.2.1 14 = μ.2.1 14 := by rw [← hμ', q_An (by decide), q_An (by decide), q_An (by decide), q_An (by decide), q_An (by decide), q_S2]
  refine it_1 (σ' := opC σ (cD (tr K t)) (-1) (nI (t + 1))) (μ' := μ') h (by omega) ?_ (fun n => ?_) ⟨h.1.fr fc fm ⟨fun u hu4 => by rw [e11, m14]; exact h.1.2.2.2.2.2.2.1.1 u hu4, fun u hu4 => by rw [e17, m13]; exact h.1.2.2.2.2.2.2.1.2 u hu4⟩ ((h.1.2.2.2.2.2.2.2.1.mono (by omega)).same e11 e17), h.2.1.fr fc fm (by omega) (cC_k (n_8 w8 (by decide))) (cM_k (n_8 w8 (by decide))), ?_, fun z => ?_⟩ (Or.inl (Or.inr (Or.inl s17))) ⟨fun z => by rw [s17] at z; exact absurd z (by decide), fun _ z => by rw [wD] at z; omega⟩
  · unfold cstp p_Judge_takeSign
    rw [sc.rl tN, r]
    simp +decide only [if_true, if_false, nI_1]
    rw [copen h.2.2.1.1 dl, q_bd1]
  · rw [ev_0 sm (by omega) n (by rw [k]; decide) (by rw [k]; decide) (by rw [k]; decide), k]
    unfold p_Mo_step
    rw [if_pos rfl, h.2.2.1.2.1, nI_1]
    have s7 : ∀ (v : Int32), (sS μ 7 v).1 7 = v := fun v => rfl
    simp only [s7, if_pos rE, rEn, nI_1]
    rw [mstart (D := cD (tr K t) + 1) rfl (by omega), q_bd1, hμ']
    unfold p_Mo_step_b188
    rw [if_neg (by decide), if_neg (by decide), q_bd2, if_neg (by decide)]
  · rw [wD, wO]
    refine h.2.2.1.opn (by omega) (fun x => ac_sub hK hN (by rw [k]; decide) (ps_n (Or.inl w) (by decide))) (by omega) (by rw [← hμ']; rfl) (fun a l ha hl => ?_) ?_ ?_ ?_ ?_ (fun z hz e => absurd e.symm (q_neg (by omega)))
    · rw [← hμ']
      simp only [q_A2, q_S2]
      simp [show ¬ l = cD (tr K t) + 1 by omega]
    · rw [← hμ']; simp [q_A2]
    · rw [← hμ']; simp [q_A2]
    · rw [← hμ']; simp [q_A2]
    · rw [← hμ']; simp [q_A2]
  · rw [s17] at z; exact absurd z (by decide)
/-- a plus -/
theorem it_plus (h : EJ z0 f0 sh K N W c st t σ μ) (tN : t < N) (w : NS K t) (k : K t = 43) : It z0 f0 sh K N W c st x1 t σ μ := by
  obtain ⟨wS, wR, wD, wO, _⟩ := ns_n w
  have w8 := ns_8 w
  have sc := h.1.1
  have hN := sc.1
  have hK := sc.2.2.1
  have d8 := h.D8 (by omega)
  have hp := h.1.2.2.1
  have sm := h.1.2.2.2.2.1
  have ew := h.1.2.2.2.2.2.1
  rw [k] at wS wR wD
  rw [if_neg (by decide)] at wD
  have s17 : cS (tr K (t + 1)) = 17 := by rw [wS]; simp +decide only [tal, if_true, if_false]
  have tN1 : t + 1 < N := Decidable.byContradiction (fun z => by
    have e : t + 1 = N := by omega
    rw [e, sc.2.1] at s17
    exact absurd s17 (by decide))
  have r : ro K t = 20 := ro_s (by rw [wR]; simp +decide only [talR, if_true, if_false]) (by decide) (by decide) (by decide)
  have tl := h.2.2.2 (by rcases w with ⟨z, _⟩ | z; exact Or.inr (Or.inl z); exact Or.inr (Or.inr z))
  obtain ⟨l1, l2, l3, lp, lq, lr⟩ := h.2.2.1
  obtain ⟨f, g, b, h00, hf, hg, hb, f1, f2, g1, g2, b1, b2⟩ := lp (cD (tr K t)) (Nat.le_refl _)
  obtain ⟨t1, t2⟩ := tl
  have rD : inR (nI (cD (tr K t))) 9 := q_inR (by omega) (by decide)
  have rD' : inR (nI (cD (tr K t))) 10 := q_inR (by omega) (by decide)
  have rDn : (nI (cD (tr K t))).toNatClampNeg = cD (tr K t) := q_tn (by omega)
  generalize hB : fitB K N W (σ.2.1 27 (cD (tr K t))) (-1) = B
  have fc : CFr σ (sA (sA (cw σ g B) 28 (cD (tr K t)) 1) 26 (cD (tr K t)) (nI (t + 1))) := (CFr.w.A (by decide)).A (by decide)
  have fm : MFr μ (sA (sA (sA (mw μ g B) 20 (cD (tr K t)) 1) 18 (cD (tr K t)) (nI (t + 1))) 19 (cD (tr K t)) (-2)) := ((MFr.w.A (by decide)).A (by decide)).A (by decide)
  have ag := AG.w (f := g) (b := B) h.1.2.2.2.2.2.2.1
  refine it_1 (σ' := sA (sA (cw σ g B) 28 (cD (tr K t)) 1) 26 (cD (tr K t)) (nI (t + 1))) (μ' := sA (sA (sA (mw μ g B) 20 (cD (tr K t)) 1) 18 (cD (tr K t)) (nI (t + 1))) 19 (cD (tr K t)) (-2)) h (by omega) ?_ (fun n => ?_) ⟨h.1.fr fc fm ⟨fun u hu4 => by rw [q_An (by decide), q_An (by decide), q_An (by decide), q_An (by decide), q_An (by decide)]; exact ag.1 u hu4, fun u hu4 => by rw [q_An (by decide), q_An (by decide), q_An (by decide), q_An (by decide), q_An (by decide)]; exact ag.2 u hu4⟩ ((RSv.w h.1.2.2.2.2.2.2.2.1 hg (by omega)).same (by rw [q_An (by decide), q_An (by decide)]) (by rw [q_An (by decide), q_An (by decide)])), h.2.1.fr fc fm (by omega) (cC_k (n_8 w8 (by decide))) (cM_k (n_8 w8 (by decide))), ?_, fun z => ?_⟩ (Or.inl (Or.inr (Or.inl s17))) ⟨fun z => by rw [s17] at z; exact absurd z (by decide), fun _ z => ⟨fun _ => ?_, fun _ q => by rw [Nat.add_sub_cancel, r] at q; exact absurd q (by decide)⟩⟩
  · unfold cstp p_Judge_takeSign
    rw [sc.rl tN, r]
    simp +decide only [if_true, if_false, l1, if_pos rD, rDn, g1, nI_1]
    rw [cwant (W := W) sc hp (by omega) t2 (Or.inr (Or.inl rfl)), q_bd1, hB]
    simp only [q_A1, cw_1, l1, if_pos rD, rDn]
    rfl
  · rw [ev_0 sm (by omega) n (by rw [k]; decide) (by rw [k]; decide) (by rw [k]; decide), k]
    unfold p_Mo_step
    rw [if_neg (by decide), if_pos rfl]
    simp only [l2, if_pos rD', rDn, g2, nI_1, ← t1]
    rw [mshould sm (by omega) t2 (Or.inr (Or.inl rfl)), q_bd1, ew, hB]
    simp only [q_A1, mw_1, l2, if_pos rD', rDn]
    unfold p_Mo_step_b188
    rw [if_neg (by decide), if_neg (by decide), q_bd2, if_neg (by decide)]
    rfl
  · rw [wD, wO]
    have ea : ∀ x, ac K (t + 1) x - 1 = ac K t x - 1 := fun x => ac_sub hK hN (by rw [k]; decide) (ps_n (Or.inr (Or.inr (Or.inr w))) (by decide))
    refine ⟨by rw [q_A1, q_A1, cw_1]; exact l1, by rw [q_A1, q_A1, q_A1, mw_1]; exact l2, by rw [q_An (by decide), q_An (by decide), cw_a (by decide)]; exact l3, fun l hl => ?_, fun l hl => ?_, fun l x hl hx ho => ?_⟩
    · by_cases e : l = cD (tr K t)
      · subst e
        refine ⟨f, t + 1, 1, h00, by omega, Nat.le_refl _, Or.inr rfl, ?_, ?_, ?_, ?_, ?_, ?_⟩
        · rw [q_An (by decide), q_An (by decide), cw_a (by decide)]; exact f1
        · rw [q_An (by decide), q_An (by decide), q_An (by decide), mw_a (by decide)]; exact f2
        · rw [q_A2, if_pos rfl, if_pos rfl]
        · rw [q_An (by decide), q_A2, if_pos rfl, if_pos rfl]
        · rw [q_An (by decide), q_A2, if_pos rfl, if_pos rfl]
        · rw [q_An (by decide), q_An (by decide), q_A2, if_pos rfl, if_pos rfl]
      · refine (lp l hl).fr (by omega) ?_ ?_ ?_ ?_ ?_ ?_
        · rw [q_An (by decide), q_An (by decide), cw_a (by decide)]
        · rw [q_A2, if_pos rfl, if_neg e, q_An (by decide), cw_a (by decide)]
        · rw [q_An (by decide), q_A2, if_pos rfl, if_neg e, cw_a (by decide)]
        · rw [q_An (by decide), q_An (by decide), q_An (by decide), mw_a (by decide)]
        · rw [q_An (by decide), q_A2, if_pos rfl, if_neg e, q_An (by decide), mw_a (by decide)]
        · rw [q_An (by decide), q_An (by decide), q_A2, if_pos rfl, if_neg e, mw_a (by decide)]
    · rw [q_An (by decide), q_An (by decide), cw_a (by decide), q_An (by decide), q_An (by decide), q_An (by decide), mw_a (by decide)]
      exact lq l hl
    · refine (lr l x hl hx ho).fr (by omega) (ea x) ?_ ?_ ?_ ?_ ?_ (fun u _ => ?_)
      · rw [q_An (by decide), q_An (by decide), cw_a (by decide)]
      · rw [q_A2, if_pos rfl, if_neg (by omega), q_An (by decide), q_An (by decide), mw_a (by decide)]
      · rw [q_An (by decide), q_An (by decide), cw_a (by decide)]
      · rw [q_An (by decide), q_An (by decide), q_An (by decide), mw_a (by decide)]
      · rw [q_An (by decide), q_An (by decide), q_An (by decide), mw_a (by decide)]
      · rw [q_An (by decide), q_An (by decide), cw_a (by decide)]
  · rw [s17] at z; exact absurd z (by decide)
  · rw [wD] at z
    rw [q_An (by decide), q_A2, if_pos rfl, if_pos (by omega)]
end IT
