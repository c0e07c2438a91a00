/-! judging: commas, closing brackets and names -/
section IT2
variable {z0 : Sto × Sto} {f0 : Nat} {sh : Int32} {K : Nat → Int32} {N : Nat} {W : Nat → Int64} {c st t : Nat} {x1 : Int32} {σ μ : Sto}
theorem RSv.w2 {f : Nat} {b : Bool} (h : RSv K N W σ (t + 1)) (hf : f ≤ t) (tl : t < N) : RSv K N W (cw σ f b) (t + 1) := by
  refine ⟨fun u hu hN => ?_, h.2.1.w (by omega), fun u hu => by rw [cw_a (by decide)]; exact h.2.2 u hu⟩
  rw [cw_a (by decide)]
  refine ⟨(h.1 u hu hN).1, ?_⟩
  unfold cw
  by_cases e : b = true
  · rw [if_pos e]; exact (h.1 u hu hN).2
  · rw [if_neg e, q_A2, if_pos rfl, if_neg (by omega)]; exact (h.1 u hu hN).2
theorem EB.w {f : Nat} {b : Bool} (h : EB z0 K N W (t + 1) σ μ) (hf : f ≤ t) (tN : t < N) : EB z0 K N W (t + 1) (cw σ f b) (mw μ f b) := h.fr CFr.w MFr.w h.2.2.2.2.2.2.1.w (h.2.2.2.2.2.2.2.1.w2 hf tN)
theorem EB.up (h : EB z0 K N W t σ μ) : EB z0 K N W (t + 1) σ μ := h.fr (CFr.refl σ) (MFr.refl μ) h.2.2.2.2.2.2.1 (h.2.2.2.2.2.2.2.1.mono (by omega))
theorem EL.w {D f : Nat} {o : Nat → Int32} {b : Bool} (h : EL f0 K N t D o σ μ) : EL f0 K N t D o (cw σ f b) (mw μ f b) :=
  h.fr (Nat.le_refl _) (fun _ => rfl) (by rw [cw_1]) (by rw [mw_1]) (cw_a (by decide)) (cw_a (by decide)) (cw_a (by decide)) (cw_a (by decide)) (cw_a (by decide)) (fun l _ => by rw [cw_a (by decide)]) (mw_a (by decide)) (mw_a (by decide)) (mw_a (by decide)) (mw_a (by decide)) (mw_a (by decide)) (mw_a (by decide)) (fun l _ => by rw [mw_a (by decide)]) (fun u _ => by rw [cw_a (by decide)])
/-- behind the first token of arguments, one is counted -/
theorem ac_1 (sc : SC K N σ) {x : Nat} (s20 : cS (tr K (x + 1)) = 20) (k40 : K (x + 1) = 40) (ax : ac K N x ≠ 0) (xt : x + 3 ≤ t) (tN : t ≤ N) : 1 ≤ ac K t x := by
  have hN := sc.1
  have hK := sc.2.2.1
  have n7 : ¬ cS (tr K x) = 7 := (prv (t := x) (by rw [s20]; decide)).2.2.2.2.2.2.1 s20
  obtain ⟨I, s21, D⟩ := ina_0 hK hN s20 k40 (sc.al (by omega))
  have a1 : ac K (x + 1 + 1) x = ac K (x + 1) x := ac_n (fun z => by
    rcases z.2 with ⟨q, _⟩ | ⟨⟨q, _⟩, _⟩ | ⟨⟨_, q⟩, _⟩
    · rw [s20] at q; exact absurd q (by decide)
    · rw [s20] at q; exact absurd q (by decide)
    · rw [k40] at q; exact absurd q (by decide))
  by_cases k41 : K (x + 2) = 41
  · exfalso
    apply ax
    obtain ⟨O, _, _⟩ := out_0 I k41 D (sc.al (by omega))
    have e := (ac_out hN n7 (t := x + 2 + 1) (u := N) (by omega) (Nat.le_refl _) (by omega) O).1
    have a2 : ac K (x + 2 + 1) x = ac K (x + 2) x := ac_n (fun z => by
      rcases z.2 with ⟨q, _⟩ | ⟨⟨_, q⟩, _⟩ | ⟨⟨_, q⟩, _⟩
      · rw [s21] at q; exact absurd q (by decide)
      · exact q k41
      · rw [k41] at q; exact absurd q (by decide))
    rw [e, a2, show x + 2 = x + 1 + 1 from rfl, a1, ac_0 hK hN (Nat.le_refl _)]
  · have cn : cnt K (x + 2) x := ⟨by omega, Or.inr (Or.inl ⟨⟨s21, k41⟩, callB_t (by omega) (by rw [show cD (tr K (x + 2)) - 1 = cD (tr K (x + 1)) by omega, I.2.1]; exact q_neg (by omega)), by rw [show cD (tr K (x + 2)) - 1 = cD (tr K (x + 1)) by omega]; exact I.2.1⟩)⟩
    have := ac_mono (K := K) (x := x) (t := x + 2 + 1) (u := t) (by omega)
    rw [ac_y cn] at this
    omega
theorem it_com (h : EJ z0 f0 sh K N W c st t σ μ) (tN : t < N) (w : NS K t) (k : K t = 44) : It z0 f0 sh K N W c st x1 t σ μ := by
  obtain ⟨wS, wR, wD, wO, _⟩ := ns_n w
  have w8 := ns_8 w
  have sc := h.1.1
  have hN := sc.1
  have hK := sc.2.2.1
  have at0 := sc.al (t := t) (by omega)
  have a1 := sc.al (t := t + 1) (by omega)
  have d8 := h.D8 (by omega)
  have sm := h.1.2.2.2.2.1
  rw [k] at wS wR wD
  rw [if_neg (by decide)] at wD
  have cb : callB (tr K t) = true := by
    cases q : callB (tr K t)
    · exfalso
      apply a1
      rw [wS, q]
      simp +decide only [tal, if_true, if_false]
    · rfl
  have s17 : cS (tr K (t + 1)) = 17 := by rw [wS, cb]; simp +decide only [tal, if_true, if_false]
  have tN1 : t + 1 < N := Decidable.byContradiction (fun z => by
    have e : t + 1 = N := by omega
    rw [e, sc.2.1] at s17
    exact absurd s17 (by decide))
  have r : ro K t = 23 := ro_s (by rw [wR]; simp +decide only [talR, if_true, if_false]) (by decide) (by decide) (by decide)
  have s11 : ¬ cS (tr K t) = 11 := ps_n (Or.inr (Or.inr (Or.inr w))) (by decide)
  have tls : cS (tr K t) = 20 ∨ cS (tr K t) = 22 := by rcases w with ⟨z, _⟩ | z; exact Or.inl z; exact Or.inr z
  have tl := h.2.2.2 (Or.inr tls)
  have el := h.2.2.1
  have dp : 0 < cD (tr K t) ∧ ¬ cO (tr K t) (cD (tr K t) - 1) = -1 := by
    unfold callB at cb
    simp at cb
    exact cb
  obtain ⟨D, eD⟩ : ∃ D, cD (tr K t) = D + 1 := ⟨cD (tr K t) - 1, by omega⟩
  rw [eD] at tl el wD d8
  have oD : ¬ cO (tr K t) D = -1 := by have := dp.2; rw [eD] at this; exact this
  obtain ⟨x, xt, ox, xs20, xk40⟩ : ∃ y, y + 1 < t ∧ cO (tr K t) D = nI y ∧ cS (tr K (y + 1)) = 20 ∧ K (y + 1) = 40 := (opn20 t at0 D (by omega)).resolve_left oD
  have xl : x < 121 := by omega
  have ci := el.2.2.2.2.2 D x (by omega) xl ox
  have ax := ci.2.2.1
  have x3 : x + 3 ≤ t := by
    have : t ≠ x + 2 := fun e => by
      obtain ⟨_, s21, _⟩ := ina_0 hK hN xs20 xk40 (by rw [← e]; exact at0)
      rw [← e] at s21
      rcases tls with z | z <;> rw [z] at s21 <;> exact absurd s21 (by decide)
    omega
  have a1x := ac_1 sc xs20 xk40 ax x3 (by omega)
  have cm := ac_com hK hN at0 k s11 (by omega) ox xl
  have acx : ac K (t + 1) x = ac K t x + 1 := cm.1 (by omega) tls
  obtain ⟨v, f, b, tv, hf, e1, e2⟩ := endx h.1.up el.1 el.2.1 (by omega) tN (el.2.2.2.1 (D + 1) (Nat.le_refl _)) tl
  have el1 := el.w (f := f) (b := b)
  have c23 : (cw σ f b).2.1 23 (D + 1) = nI x := by rw [(el1.2.2.2.2.1 D (by omega)).1]; exact ox
  obtain ⟨g, b', hg, e3, e4⟩ := carg (v := v) (h.1.up.w hf tN) el1.1 el1.2.1 (by omega) tN (el1.2.2.2.1 (D + 1) (Nat.le_refl _)) c23 (el1.2.2.2.2.2 D x (by omega) xl ox) xl tv
  have el2 := el1.w (f := g) (b := b')
  have eb2 := (h.1.up.w (b := b) hf tN).w (b := b') hg tN
  generalize hσ2 : cw (cw σ f b) g b' = σ2 at *
  generalize hμ2 : mw (mw μ f b) g b' = μ2 at *
  have fc2 : CFr σ σ2 := by rw [← hσ2]; exact CFr.w.trans CFr.w
  have fm2 : MFr μ μ2 := by rw [← hμ2]; exact MFr.w.trans MFr.w
  obtain ⟨l1, l2, l3, lp, lq, lr⟩ := el2
  have ea1 : ac K t x - 1 + 1 = ac K (t + 1) x - 1 := by omega
  rw [ea1] at e3 e4
  refine it_1 (σ' := sA (sA (sA (sA σ2 24 (D + 1) (nI (ac K (t + 1) x - 1))) 25 (D + 1) (nI (t + 1))) 26 (D + 1) (nI (t + 1))) 28 (D + 1) 0) (μ' := sA (sA (sA (sA (sA μ2 21 (D + 1) (nI (ac K (t + 1) x - 1))) 17 (D + 1) (nI (t + 1))) 18 (D + 1) (nI (t + 1))) 20 (D + 1) 0) 19 (D + 1) (-2)) h (by omega) ?_ (fun n => ?_) ⟨eb2.fr (((((CFr.refl σ2).A (by decide)).A (by decide)).A (by decide)).A (by decide)) ((((((MFr.refl μ2).A (by decide)).A (by decide)).A (by decide)).A (by decide)).A (by decide)) ⟨fun u hu4 => ?_, fun u hu4 => ?_⟩ (eb2.2.2.2.2.2.2.2.1.same ?_ ?_), h.2.1.fr (fc2.trans (((((CFr.refl σ2).A (by decide)).A (by decide)).A (by decide)).A (by decide))) (fm2.trans ((((((MFr.refl μ2).A (by decide)).A (by decide)).A (by decide)).A (by decide)).A (by decide))) (by omega) (cC_k (n_8 w8 (by decide))) (cM_k (n_8 w8 (by decide))), ?_, fun z => ?_⟩ (Or.inl (Or.inr (Or.inl s17))) ⟨fun z => by rw [s17] at z; exact absurd z (by decide), fun _ z => by rw [wD] at z; omega⟩
  · unfold cstp p_Judge_takeSign
    rw [sc.rl tN, r]
    simp +decide only [if_true, if_false, nI_1]
    rw [e1, q_bd2, e3, q_bd1, cbegin (D := D + 1) (by rw [q_A1]; exact l1) (by omega), q_bd1]
  · rw [ev_0 sm (by omega) n (by rw [k]; decide) (by rw [k]; decide) (by rw [k]; decide), k]
    unfold p_Mo_step
    rw [if_neg (by decide), if_neg (by decide), if_pos rfl, nI_1]
    unfold p_Mo_overArgument
    rw [e4 _ e2, q_bd1, mstart (D := D + 1) (by rw [q_A1]; exact l2) (by omega), q_bd1]
    unfold p_Mo_step_b188
    rw [if_neg (by decide), if_neg (by decide), q_bd2, if_neg (by decide)]
  · rw [q_An (by decide), q_An (by decide), q_An (by decide), q_An (by decide), q_An (by decide), q_An (by decide), q_An (by decide), q_An (by decide), q_An (by decide)]; exact eb2.2.2.2.2.2.2.1.1 u hu4
  · rw [q_An (by decide), q_An (by decide), q_An (by decide), q_An (by decide), q_An (by decide), q_An (by decide), q_An (by decide), q_An (by decide), q_An (by decide)]; exact eb2.2.2.2.2.2.2.1.2 u hu4
  · rw [q_An (by decide), q_An (by decide), q_An (by decide), q_An (by decide)]
  · rw [q_An (by decide), q_An (by decide), q_An (by decide), q_An (by decide)]
  · rw [wD, wO]
    refine ⟨l1, l2, ?_, fun l hl => ?_, fun l hl => ?_, fun l y hl hy ho => ?_⟩
    · rw [q_An (by decide), q_An (by decide), q_An (by decide), q_An (by decide)]; exact l3
    · by_cases e : l = D + 1
      · subst e
        refine ⟨t + 1, t + 1, 0, fun z => absurd z (Nat.succ_ne_zero _), Nat.le_refl _, Nat.le_refl _, Or.inl rfl, ?_, ?_, ?_, ?_, ?_, ?_⟩
        · rw [q_An (by decide), q_An (by decide), q_A2, if_pos rfl, if_pos rfl]
        · rw [q_An (by decide), q_An (by decide), q_An (by decide), q_A2, if_pos rfl, if_pos rfl]
        · rw [q_An (by decide), q_A2, if_pos rfl, if_pos rfl]
        · rw [q_An (by decide), q_An (by decide), q_A2, if_pos rfl, if_pos rfl]
        · rw [q_A2, if_pos rfl, if_pos rfl]
        · rw [q_An (by decide), q_A2, if_pos rfl, if_pos rfl]
      · refine (lp l hl).fr (by omega) ?_ ?_ ?_ ?_ ?_ ?_
        · rw [q_An (by decide), q_An (by decide), q_A2, if_pos rfl, if_neg e, q_An (by decide)]
        · rw [q_An (by decide), q_A2, if_pos rfl, if_neg e, q_An (by decide), q_An (by decide)]
        · rw [q_A2, if_pos rfl, if_neg e, q_An (by decide), q_An (by decide), q_An (by decide)]
        · rw [q_An (by decide), q_An (by decide), q_An (by decide), q_A2, if_pos rfl, if_neg e, q_An (by decide)]
        · rw [q_An (by decide), q_An (by decide), q_A2, if_pos rfl, if_neg e, q_An (by decide), q_An (by decide)]
        · rw [q_An (by decide), q_A2, if_pos rfl, if_neg e, q_An (by decide), q_An (by decide), q_An (by decide)]
    · rw [q_An (by decide), q_An (by decide), q_An (by decide), q_An (by decide), q_An (by decide), q_An (by decide), q_An (by decide), q_An (by decide), q_An (by decide)]
      exact lq l hl
    · have cio := lr l y hl hy ho
      by_cases e : l = D
      · subst e
        have exy : y = x := by
          rw [ox] at ho
          exact ((q_eq (by omega) (by omega)).mp ho).symm
        subst exy
        obtain ⟨h1, h2, h3, h4, h5, h6, o, h7, h8, h9⟩ := cio
        refine ⟨?_, ?_, h3, by omega, ?_, ?_, o, ?_, h8, ?_⟩
        · rw [q_An (by decide), q_An (by decide), q_An (by decide), q_An (by decide), q_A2, if_pos rfl, if_neg (by omega), q_An (by decide), q_An (by decide), q_An (by decide), q_An (by decide)]; exact h1
        · rw [q_An (by decide), q_An (by decide), q_An (by decide), q_An (by decide)]; exact h2
        · rw [q_An (by decide), q_An (by decide), q_An (by decide), q_A2, if_pos rfl, if_pos rfl]
        · rw [q_An (by decide), q_An (by decide), q_An (by decide), q_An (by decide), q_A2, if_pos rfl, if_pos rfl]
        · rw [q_An (by decide), q_An (by decide), q_An (by decide), q_An (by decide)]; exact h7
        · rw [q_An (by decide), q_An (by decide), q_An (by decide), q_An (by decide), q_An (by decide)]; exact h9
      · have cy := (ac_com hK hN at0 k s11 (l := l) (x := y) (by omega) ho hy).2 (by omega)
        refine cio.fr (by omega) (by rw [cy]) ?_ ?_ ?_ ?_ ?_ (fun u _ => ?_)
        · rw [q_An (by decide), q_An (by decide), q_An (by decide), q_An (by decide)]
        · rw [q_A2, if_pos rfl, if_neg (by omega), q_An (by decide), q_An (by decide), q_An (by decide), q_An (by decide)]
        · rw [q_An (by decide), q_An (by decide), q_An (by decide), q_A2, if_pos rfl, if_neg (by omega)]
        · rw [q_An (by decide), q_An (by decide), q_An (by decide), q_An (by decide), q_A2, if_pos rfl, if_neg (by omega)]
        · rw [q_An (by decide), q_An (by decide), q_An (by decide), q_An (by decide), q_An (by decide)]
        · rw [q_An (by decide), q_An (by decide), q_An (by decide), q_An (by decide)]
  · rw [s17] at z; exact absurd z (by decide)
/-- one bracket less -/
theorem EL.cls {D t' : Nat} {o : Nat → Int32} {σ' μ' : Sto} (h : EL f0 K N t (D + 1) o σ μ) (tt : t ≤ t') (ea : ∀ x, ac K t' x - 1 = ac K t x - 1) (e12 : σ'.1 12 = nI D) (e7 : μ'.1 7 = nI D) (ec : ∀ a l, a = 23 ∨ a = 24 ∨ a = 25 ∨ a = 26 ∨ a = 28 → l ≤ D → σ'.2.1 a l = σ.2.1 a l) (e27 : ∀ l, l < D → σ'.2.1 27 l = σ.2.1 27 l) (em : ∀ a l, a = 16 ∨ a = 17 ∨ a = 18 ∨ a = 20 ∨ a = 21 ∨ a = 23 → l ≤ D → μ'.2.1 a l = μ.2.1 a l) (e19 : ∀ l, l < D → μ'.2.1 19 l = μ.2.1 19 l) (e11 : ∀ u, u < t → σ'.2.1 11 u = σ.2.1 11 u) : EL f0 K N t' D o σ' μ' := by
  obtain ⟨a, b, d, p, q, r⟩ := h
  refine ⟨e12, e7, by rw [ec 23 0 (by decide) (by omega)]; exact d, fun l hl => (p l (by omega)).fr tt (ec 25 l (by decide) hl) (ec 26 l (by decide) hl) (ec 28 l (by decide) hl) (em 17 l (by decide) hl) (em 18 l (by decide) hl) (em 20 l (by decide) hl), fun l hl => by rw [ec 23 (l + 1) (by decide) (by omega), em 16 (l + 1) (by decide) (by omega)]; exact q l (by omega), fun l x hl hx ho => (r l x (by omega) hx ho).fr tt (ea x) (e27 l hl) (e19 l hl) (ec 24 (l + 1) (by decide) (by omega)) (em 21 (l + 1) (by decide) (by omega)) (em 23 (l + 1) (by decide) (by omega)) e11⟩
theorem it_clo (h : EJ z0 f0 sh K N W c st t σ μ) (tN : t < N) (w : NS K t) (k : K t = 41) : It z0 f0 sh K N W c st x1 t σ μ := by
  obtain ⟨wS, wR, wD, wO, _⟩ := ns_n w
  have w8 := ns_8 w
  have sc := h.1.1
  have hN := sc.1
  have hK := sc.2.2.1
  have at0 := sc.al (t := t) (by omega)
  have a1 := sc.al (t := t + 1) (by omega)
  have d8 := h.D8 (by omega)
  have sm := h.1.2.2.2.2.1
  rw [k] at wS wR wD
  rw [if_pos rfl] at wD
  have d0 : ¬ cD (tr K t) = 0 := fun z => a1 (by rw [wS, z]; simp +decide only [tal, if_true, if_false])
  have s22 : cS (tr K (t + 1)) = 22 := by rw [wS]; simp +decide only [tal, if_true, if_false, d0]
  have r : ro K t = 24 := ro_s (by rw [wR]; simp +decide only [talR, if_true, if_false]) (by decide) (by decide) (by decide)
  have s11 : ¬ cS (tr K t) = 11 := ps_n (Or.inr (Or.inr (Or.inr w))) (by decide)
  have tls : cS (tr K t) = 20 ∨ cS (tr K t) = 22 := by rcases w with ⟨z, _⟩ | z; exact Or.inl z; exact Or.inr z
  have tl := h.2.2.2 (Or.inr tls)
  have el := h.2.2.1
  have ea : ∀ x, ac K (t + 1) x - 1 = ac K t x - 1 := fun x => ac_sub hK hN (by rw [k]; decide) s11
  obtain ⟨D, eD⟩ : ∃ D, cD (tr K t) = D + 1 := ⟨cD (tr K t) - 1, by omega⟩
  rw [eD] at tl el wD d8
  rw [Nat.add_sub_cancel] at wD
  obtain ⟨v, f, b, tv, hf, e1, e2⟩ := endx h.1.up el.1 el.2.1 (by omega) tN (el.2.2.2.1 (D + 1) (Nat.le_refl _)) tl
  have el1 := el.w (f := f) (b := b)
  have eb1 := h.1.up.w (b := b) hf tN
  have rE : inR (nI (D + 1)) 9 := q_inR (by omega) (by decide)
  have rE' : inR (nI (D + 1)) 10 := q_inR (by omega) (by decide)
  have rEn : (nI (D + 1)).toNatClampNeg = D + 1 := q_tn (by omega)
  have rD : inR (nI D) 9 := q_inR (by omega) (by decide)
  have rD' : inR (nI D) 10 := q_inR (by omega) (by decide)
  have rDn : (nI D).toNatClampNeg = D := q_tn (by omega)
  have dm : nI (D + 1) - 1 = nI D := by have := q_subL (a := D + 1) (k := 1) (Nat.le_add_left _ _); exact this
  have n0 : ¬ nI (D + 1) ≤ 0 := fun z => by have : D + 1 ≤ 0 := (q_leL (by omega) (by decide)).mp z; omega
  have lqD := el1.2.2.2.2.1 D (by omega)
  by_cases oD : cO (tr K t) D = -1
  · -- a bracket round an expression
    rw [oD] at lqD
    have c23 := lqD.1
    have m16 : μ.2.1 16 (D + 1) = 0 := by
      have := (el.2.2.2.2.1 D (by omega)).2
      rw [oD, if_pos rfl] at this
      exact this
    generalize hσ1 : cw σ f b = σ1 at *
    generalize hμ1 : mw μ f b = μ1 at *
    have fc1 : CFr σ σ1 := by rw [← hσ1]; exact CFr.w
    have fm1 : MFr μ μ1 := by rw [← hμ1]; exact MFr.w
    refine it_1 (σ' := sA (sS σ1 12 (nI D)) 27 D v) (μ' := sA (sS μ1 7 (nI D)) 19 D v) h (by omega) ?_ (fun n => ?_) ⟨eb1.fr (((CFr.refl σ1).S (by decide)).A (by decide)) (((MFr.refl μ1).S (by decide)).A (by decide)) ⟨fun u hu4 => by rw [q_An (by decide), q_An (by decide)]; exact eb1.2.2.2.2.2.2.1.1 u hu4, fun u hu4 => by rw [q_An (by decide), q_An (by decide)]; exact eb1.2.2.2.2.2.2.1.2 u hu4⟩ (eb1.2.2.2.2.2.2.2.1.same (q_An (by decide)) (q_An (by decide))), h.2.1.fr (fc1.trans (((CFr.refl σ1).S (by decide)).A (by decide))) (fm1.trans (((MFr.refl μ1).S (by decide)).A (by decide))) (by omega) (cC_k (n_8 w8 (by decide))) (cM_k (n_8 w8 (by decide))), ?_, fun _ => ?_⟩ (Or.inr (Or.inr (Or.inr (Or.inr s22)))) (rq_o s22 (by decide) (by rw [r]; decide))
    · unfold cstp p_Judge_takeSign
      rw [sc.rl tN, r]
      simp +decide only [if_true, if_false]
      rw [e1, q_bd2]
      unfold p_Judge_checkArgument p_Judge_close p_Judge_close_b25
      have s12 : ∀ (v : Int32), (sS σ1 12 v).1 12 = v := fun v => rfl
      simp +decide only [el1.1, if_pos rE, rEn, c23, if_true, if_false, q_bd1, if_neg n0, dm, s12, if_pos rD, rDn]
    · rw [ev_0 sm (by omega) n (by rw [k]; decide) (by rw [k]; decide) (by rw [k]; decide), k]
      unfold p_Mo_step p_Mo_step_b157
      have s7 : ∀ (v : Int32), (sS μ1 7 v).1 7 = v := fun v => rfl
      simp +decide only [if_true, if_false, el.2.1, if_pos rE', rEn, m16]
      rw [e2, q_bd2]
      simp only [el1.2.1, dm, s7, if_pos rD', rDn]
      unfold p_Mo_step_b188
      rw [if_neg (by decide), if_neg (by decide), q_bd2, if_neg (by decide)]
    · rw [wD, wO]
      refine el1.cls (by omega) ea rfl rfl (fun a l ha hl => ?_) (fun l hl => ?_) (fun a l ha hl => ?_) (fun l hl => ?_) (fun u _ => ?_)
      · rw [q_An (by omega)]; rfl
      · rw [q_A2, if_pos rfl, if_neg (by omega)]; rfl
      · rw [q_An (by omega)]; rfl
      · rw [q_A2, if_pos rfl, if_neg (by omega)]; rfl
      · rw [q_An (by decide)]; rfl
    · rw [wD]
      refine ⟨?_, ?_⟩
      · rw [q_A2, q_A2, if_pos rfl, if_pos rfl, if_pos rfl, if_pos rfl]
      · rw [q_A2, if_pos rfl, if_pos rfl]; exact tv
  · -- arguments
    obtain ⟨x, xt, ox, _, _⟩ : ∃ y, y + 1 < t ∧ cO (tr K t) D = nI y ∧ cS (tr K (y + 1)) = 20 ∧ K (y + 1) = 40 := (opn20 t at0 D (by omega)).resolve_left oD
    have xl : x < 121 := by omega
    have c23 : (cw σ f b).2.1 23 (D + 1) = nI x := by rw [lqD.1]; exact ox
    have m16 : μ.2.1 16 (D + 1) = 1 := by
      have := (el.2.2.2.2.1 D (by omega)).2
      rw [if_neg oD] at this
      exact this
    have ci := el1.2.2.2.2.2 D x (by omega) xl ox
    obtain ⟨g, b', hg, e3, e4⟩ := carg (v := v) eb1 el1.1 el1.2.1 (by omega) tN (el1.2.2.2.1 (D + 1) (Nat.le_refl _)) c23 ci xl tv
    have el2 := el1.w (f := g) (b := b')
    have eb2 := eb1.w (b := b') hg tN
    have ci2 := el2.2.2.2.2.2 D x (by omega) xl ox
    have c23' : (cw (cw σ f b) g b').2.1 23 (D + 1) = nI x := by rw [cw_a (by decide)]; exact c23
    generalize hσ2 : cw (cw σ f b) g b' = σ2 at *
    generalize hμ2 : mw (mw μ f b) g b' = μ2 at *
    have fc2 : CFr σ σ2 := by rw [← hσ2]; exact CFr.w.trans CFr.w
    have fm2 : MFr μ μ2 := by rw [← hμ2]; exact MFr.w.trans MFr.w
    generalize hw : nI (ac K t x - 1 + 1) = y at *
    refine it_1 (σ' := sS (sA σ2 24 (D + 1) y) 12 (nI D)) (μ' := sS (sA μ2 21 (D + 1) y) 7 (nI D)) h (by omega) ?_ (fun n => ?_) ⟨eb2.fr (((CFr.refl σ2).A (by decide)).S (by decide)) (((MFr.refl μ2).A (by decide)).S (by decide)) ⟨fun u hu4 => ?_, fun u hu4 => ?_⟩ (eb2.2.2.2.2.2.2.2.1.same ?_ ?_), h.2.1.fr (fc2.trans (((CFr.refl σ2).A (by decide)).S (by decide))) (fm2.trans (((MFr.refl μ2).A (by decide)).S (by decide))) (by omega) (cC_k (n_8 w8 (by decide))) (cM_k (n_8 w8 (by decide))), ?_, fun _ => ?_⟩ (Or.inr (Or.inr (Or.inr (Or.inr s22)))) (rq_o s22 (by decide) (by rw [r]; decide))
    · unfold cstp p_Judge_takeSign
      rw [sc.rl tN, r]
      simp +decide only [if_true, if_false]
      rw [e1, q_bd2, e3, q_bd1]
      unfold p_Judge_close p_Judge_close_b25
      have c12 : (sA σ2 24 (D + 1) y).1 12 = nI (D + 1) := el2.1
      have c23b : (sA σ2 24 (D + 1) y).2.1 23 (D + 1) = nI x := by rw [q_An (by decide)]; exact c23'
      simp +decide only [c12, if_neg n0, if_pos rE, rEn, c23b, if_neg (q_neg (show x < 2147483648 by omega)), if_true, dm, q_bd1]
    · rw [ev_0 sm (by omega) n (by rw [k]; decide) (by rw [k]; decide) (by rw [k]; decide), k]
      unfold p_Mo_step
      simp +decide only [if_true, if_false, el.2.1, if_pos rE', rEn, m16]
      unfold p_Mo_overArgument
      rw [e4 _ e2, q_bd1]
      have m7 : (sA μ2 21 (D + 1) y).1 7 = nI (D + 1) := el2.2.1
      rw [m7, dm]
      unfold p_Mo_step_b188
      rw [if_neg (by decide), if_neg (by decide), q_bd2, if_neg (by decide)]
    · rw [q_S2, q_S2, q_An (by decide), q_An (by decide)]; exact eb2.2.2.2.2.2.2.1.1 u hu4
    · rw [q_S2, q_S2, q_An (by decide), q_An (by decide)]; exact eb2.2.2.2.2.2.2.1.2 u hu4
    · rw [q_S2, q_An (by decide)]
    · rw [q_S2, q_An (by decide)]
    · rw [wD, wO]
      refine el2.cls (by omega) ea rfl rfl (fun a l ha hl => ?_) (fun l hl => ?_) (fun a l ha hl => ?_) (fun l hl => ?_) (fun u _ => ?_)
      · rw [q_S2, q_A2]
        by_cases e : a = 24
        · rw [if_pos e, if_neg (by omega)]
        · rw [if_neg e]
      · rw [q_S2, q_An (by decide)]
      · rw [q_S2, q_A2]
        by_cases e : a = 21
        · rw [if_pos e, if_neg (by omega)]
        · rw [if_neg e]
      · rw [q_S2, q_An (by decide)]
      · rw [q_S2, q_An (by decide)]
    · rw [wD]
      refine ⟨?_, ?_⟩
      · rw [q_S2, q_S2, q_An (by decide), q_An (by decide)]; exact ci2.1
      · rw [q_S2, q_An (by decide)]; exact ci2.2.1
end IT2
