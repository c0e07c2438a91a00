/-! judging: names, calls, and whole expressions -/
section IT3
variable {z0 : Sto × Sto} {f0 : Nat} {sh : Int32} {K : Nat → Int32} {N : Nat} {W : Nat → Int64} {c st t : Nat} {x1 : Int32} {σ μ : Sto}
theorem ev_nm {μ' : Sto} (h : SM K N μ) (ht : t < N) (n : Nat) (hk : K t = 1) (hr : ro K t = 9 ∨ ro K t = 11) (e : p_Mo_takeName μ (nI t) (nI st) = some μ') : p_Mo_evaluate_L15 x1 (nI st) (n + 1) μ (nI t) 1 = p_Mo_evaluate_L15 x1 (nI st) n μ' (nI (t + 1)) 1 := by
  have hN := h.1
  have kt := h.2.2.2.1 t (by omega)
  have rt : inR (nI t) 124 := q_inR (by omega) (by decide)
  have er : μ.2.1 7 t = ro K t := by rw [h.rl ht, rr_same (hr.elim Or.inl (fun z => Or.inr (Or.inr (Or.inl z))))]
  conv => lhs; unfold p_Mo_evaluate_L15
  rw [if_neg (by decide), if_pos rt]
  simp only [q_tn (show t < 2147483648 by omega), kt]
  rw [if_neg (show ¬ K t = 2 by rw [hk]; decide)]
  unfold p_Mo_evaluate_b44 p_Mo_evaluate_b66 p_Mo_evaluate_b96 p_Mo_evaluate_b128 p_Mo_evaluate_b129 p_Mo_evaluate_b154
  simp only [if_neg (show ¬ K t = 8 by rw [hk]; decide), if_pos hk, if_pos rt, q_tn (show t < 2147483648 by omega), er]
  rw [if_neg (show ¬ ro K t = 4 by rcases hr with z | z <;> rw [z] <;> decide), if_neg (show ¬ ro K t = 10 by rcases hr with z | z <;> rw [z] <;> decide), if_neg (show ¬ ro K t = 12 by rcases hr with z | z <;> rw [z] <;> decide), if_neg (show ¬ ro K t ≤ 8 by rcases hr with z | z <;> rw [z] <;> decide), e, q_bd1, if_pos trivial, hk, stp_1 (by decide) (by decide) (by decide) (by decide) (by decide) (by decide), q_bd2, if_neg (by decide), nI_1]
theorem ev_cl {μ' : Sto} (h : SM K N μ) (h' : SM K N μ') (ht : t + 1 < N) (n : Nat) (hk : K t = 1) (hr : ro K t = 10 ∨ ro K t = 12) (s20 : cS (tr K (t + 1)) = 20) (k40 : K (t + 1) = 40) (e : p_Mo_takeName μ (nI t) (nI st) = some μ') : p_Mo_evaluate_L15 x1 (nI st) (n + 1) μ (nI t) 1 = p_Mo_evaluate_L15 x1 (nI st) n μ' (nI (if ac K N t = 0 then t + 3 else t + 2)) 1 := by
  have hN := h.1
  have kt := h.2.2.2.1 t (by omega)
  have rt : inR (nI t) 124 := q_inR (by omega) (by decide)
  have al := ac_le (K := K) t N
  have er : μ.2.1 7 t = ro K t := by rw [h.rl (by omega), rr_same (hr.elim (fun z => Or.inr (Or.inl z)) (fun z => Or.inr (Or.inr (Or.inr z))))]
  conv => lhs; unfold p_Mo_evaluate_L15
  rw [if_neg (by decide), if_pos rt]
  simp only [q_tn (show t < 2147483648 by omega), kt]
  rw [if_neg (show ¬ K t = 2 by rw [hk]; decide)]
  unfold p_Mo_evaluate_b44 p_Mo_evaluate_b66 p_Mo_evaluate_b96 p_Mo_evaluate_b124 p_Mo_evaluate_b129 p_Mo_evaluate_b154
  simp only [if_neg (show ¬ K t = 8 by rw [hk]; decide), if_pos hk, if_pos rt, q_tn (show t < 2147483648 by omega), er]
  rw [if_neg (show ¬ ro K t = 4 by rcases hr with z | z <;> rw [z] <;> decide)]
  have key : (bd1 (p_Mo_takeName μ (nI t) (nI st)) fun σ_151 => if (1 : Int32) = 0 then bd2 (p_Mo_step σ_151 (K t) (nI t)) fun v_184 σ_184 => if v_184 = 0 then p_Mo_evaluate_L15 x1 (nI st) n σ_184 (nI t) v_184 else p_Mo_evaluate_L15 x1 (nI st) n σ_184 (nI t + 1) v_184 else bd1 (p_Mo_arguments σ_151 (nI t + 1)) fun v_164 => if v_164 = 0 then p_Mo_evaluate_L15 x1 (nI st) n σ_151 (nI t + 3) 1 else p_Mo_evaluate_L15 x1 (nI st) n σ_151 (nI t + 2) 1) = p_Mo_evaluate_L15 x1 (nI st) n μ' (nI (if ac K N t = 0 then t + 3 else t + 2)) 1 := by
    rw [e, q_bd1, if_neg (by decide), nI_1, marg h' s20 k40 ht, q_bd1]
    by_cases q : ac K N t = 0
    · rw [if_pos (show nI (ac K N t) = 0 by rw [q]; rfl), if_pos q, show nI t + 3 = nI (t + 3) from q_addL t 3]
    · rw [if_neg (fun z => q ((q_eqL (by omega) (by decide)).mp z)), if_neg q, show nI t + 2 = nI (t + 2) from q_addL t 2]
  rw [if_neg (show ¬ ro K t ≤ 8 by rcases hr with z | z <;> rw [z] <;> decide)]
  rcases hr with z | z
  · rw [if_pos z]; exact key
  · rw [if_neg (show ¬ ro K t = 10 by rw [z]; decide), if_pos z]; exact key
theorem mbt_lt (t st : Nat) (bef : Int32) : ∃ m, m < 2048 ∧ mbt K N W t st bef = nI m := by
  unfold mbt
  by_cases e : bef = -2
  · rw [if_pos e]; exact ⟨0, by decide, rfl⟩
  · rw [if_neg e]
    cases mng K N W t st bef with
    | none =>
      by_cases q : ro K t = 9 ∨ ro K t = 10
      · exact ⟨64, by decide, by show (if ro K t = 9 ∨ ro K t = 10 then (64 : Int32) else 128) = _; rw [if_pos q]; rfl⟩
      · exact ⟨128, by decide, by show (if ro K t = 9 ∨ ro K t = 10 then (64 : Int32) else 128) = _; rw [if_neg q]; rfl⟩
    | some m =>
      by_cases q : (ro K t = 10 ∨ ro K t = 12) ∧ ¬ ac K N m = ac K N t
      · exact ⟨256, by decide, by show (if (ro K t = 10 ∨ ro K t = 12) ∧ ¬ ac K N m = ac K N t then (256 : Int32) else 0) = _; rw [if_pos q]; rfl⟩
      · exact ⟨0, by decide, by show (if (ro K t = 10 ∨ ro K t = 12) ∧ ¬ ac K N m = ac K N t then (256 : Int32) else 0) = _; rw [if_neg q]; rfl⟩
/-- what a name needs on both sides -/
theorem nam_pre (h : EJ z0 f0 sh K N W c st t σ μ) (tN : t < N) (hs : (WS K t ∧ K t = 1) ∨ cS (tr K t) = 19) : K t = 1 ∧ 8 < cS (tr K t) ∧ ¬ cS (tr K t) = 11 ∧ cS (tr K (t + 1)) = 20 ∧ cD (tr K (t + 1)) = cD (tr K t) ∧ cO (tr K (t + 1)) = cO (tr K t) ∧ cls K t = c ∧ ((WS K t ∧ rbT K t = 9) ∨ (cS (tr K t) = 19 ∧ rbT K t = 11)) := by
  have sc := h.1.1
  have cc := h.2.1.2.2.1
  rcases hs with ⟨w, k⟩ | s
  · obtain ⟨wS, wR, wD, wO, wE⟩ := ws_n w
    have w8 := ws_8 w
    rw [k] at wS wR wD wO
    refine ⟨k, w8, ps_n (Or.inl w) (by decide), by rw [wS]; simp +decide only [opr, if_true, if_false], wD, wO, ?_, Or.inl ⟨w, by rw [wR]; simp +decide only [oprR, if_true, if_false]⟩⟩
    unfold cls
    rw [if_neg (n_8 w8 (by decide)), cc]
    rfl
  · have b11 : rbT K t = 11 := by unfold rbT; rw [s]; simp +decide only [rb, if_true, if_false]
    have k : K t = 1 := by
      have r := (ro_i K t).2.2.2.2.2.2.2.mpr s
      exact sc.nm tN (by rcases r with z | z <;> rw [z] <;> decide)
    refine ⟨k, by rw [s]; decide, by rw [s]; decide, by rw [trS, s, k]; simp +decide only [nxt, if_true, if_false], by rw [trD, s, k]; simp +decide only [dpt, false_and, if_false], by rw [trO, s, k]; simp +decide only [opn, false_and, if_false], ?_, Or.inr ⟨s, b11⟩⟩
    unfold cls
    rw [if_neg (by rw [s]; decide), cc]
    rfl
theorem it_nm (h : EJ z0 f0 sh K N W c st t σ μ) (q0 : RQ K st t σ) (tN : t < N) (hs : (WS K t ∧ K t = 1) ∨ cS (tr K t) = 19) (k40 : ¬ K (t + 1) = 40) : It z0 f0 sh K N W c st x1 t σ μ := by
  obtain ⟨k, h8, s11, s20, eD, eO, ec, rb⟩ := nam_pre h tN hs
  obtain ⟨sc, hW, hp, h12, sm, ew, ag, rs, _⟩ := h.1
  obtain ⟨_, c13, cc, c14, c16, m8, stt⟩ := h.2.1
  have hN := sc.1
  have m4 := sc.M4
  have d8 := h.D8 (by omega)
  have cl := cC_mono K t N (by omega)
  have er : ro K t = rbT K t := by unfold ro; rw [if_neg k40]
  have hr : ro K t = 9 ∨ ro K t = 11 := by rw [er]; rcases rb with ⟨_, z⟩ | ⟨_, z⟩; exact Or.inl z; exact Or.inr z
  have hr4 : ro K t = 9 ∨ ro K t = 10 ∨ ro K t = 11 ∨ ro K t = 12 := hr.elim Or.inl (fun z => Or.inr (Or.inr (Or.inl z)))
  have a0 : an0 K N W t = (-1, 0) := by unfold an0; rcases hr with z | z <;> rw [z] <;> rfl
  have r11 : σ.2.1 11 t = -1 := by rw [(rs.1 t (Nat.le_refl _) tN).1, a0]
  have r17 : σ.2.1 17 t = 0 := by rw [(rs.1 t (Nat.le_refl _) tN).2, a0]
  have tls : ¬ (ro K t = 9 ∨ ro K t = 10) → TLv K N (cD (tr K t)) σ μ := fun z => h.2.2.2 (by
    rcases rb with ⟨_, q⟩ | ⟨q, _⟩
    · exact absurd (Or.inl (er.trans q)) z
    · exact Or.inl q)
  generalize hb : (if ro K t = 9 ∨ ro K t = 10 then nI (cls K t) else σ.2.1 27 (cD (tr K t))) = bef
  have tv : TV K N bef := by
    rw [← hb]
    by_cases z : ro K t = 9 ∨ ro K t = 10
    · rw [if_pos z, ec]; exact Or.inr (Or.inr ⟨c, by omega, rfl⟩)
    · rw [if_neg z]; exact (tls z).2
  have ebm : bef = if ro K t = 9 ∨ ro K t = 10 then nI (cls K t) else μ.2.1 19 (cD (tr K t)) := by
    rw [← hb]
    by_cases z : ro K t = 9 ∨ ro K t = 10
    · rw [if_pos z, if_pos z]
    · rw [if_neg z, if_neg z]; exact (tls z).1
  have J := cname sc hW hp h12 tN stt hr4 h8 c14 c16 (by rw [ec]; exact c13) h.2.2.1.1 d8 r11 r17 tv hb.symm
  obtain ⟨μ', e', T⟩ := mname sm tN stt hr h.2.2.1.2.1 (by omega) (by rw [← ag.2 t (by omega)]; exact r17) (by rw [← ag.1 t (by omega)]; exact r11) tv ebm
  rw [ew] at T
  have J28 := J
  obtain ⟨σ', r1, E, _⟩ := h.nam rfl (mty_tv _) (by rw [s20]; decide) h8 s11 (by rw [k]; decide) eD eO J T (mbt_lt _ _ _) (by omega) (mng_mv (by omega)) hr4
  obtain ⟨σ'', r2, _, a2, _⟩ := J28
  have e28 : σ'.2.1 28 = σ.2.1 28 := by
    have : some σ' = some σ'' := r1.symm.trans r2
    rw [Option.some.inj this]
    exact a2 28 (by decide) (by decide) (by decide)
  refine it_1 (σ' := σ') (μ' := μ') h (by omega) ?_ (fun n => ev_nm sm tN n k hr e') E (Or.inr (Or.inr (Or.inr (Or.inl ⟨s20, k40⟩)))) ⟨fun z => by rw [s20] at z; exact absurd z (by decide), fun ce cd => ⟨fun z => by rw [s20] at z; exact absurd z (by decide), fun _ r9 _ => ?_⟩⟩
  · unfold cstp
    rw [sc.rl tN]
    have l9 : (9 : Int32) ≤ ro K t := by rcases hr with z | z <;> rw [z] <;> decide
    have l15 : ¬ (15 : Int32) ≤ ro K t := by rcases hr with z | z <;> rw [z] <;> decide
    rw [if_pos l9, if_neg l15]
    exact r1
  · rw [Nat.add_sub_cancel] at r9 ⊢
    rw [e28]
    rw [eD] at cd
    rcases rb with ⟨w, _⟩ | ⟨s, b11⟩
    · obtain ⟨_, _, _, _, wE⟩ := ws_n w
      rcases w with ⟨z, _⟩ | z | ⟨z, _⟩
      · exact Or.inl (q0.1 z)
      · right
        rw [wE, if_neg (by rw [z]; decide)] at ce
        exact (q0.2 ce cd).1 z
      · exfalso
        have := ((WF_all t (sc.al (by omega))).2.2.1 z).1
        omega
    · rw [er, b11] at r9
      exact absurd r9 (by decide)
/-- arguments that are none -/
theorem ac_z (sc : SC K N σ) {x : Nat} (s20 : cS (tr K (x + 1)) = 20) (k40 : K (x + 1) = 40) (xN : x + 1 < N) : ac K N x = 0 ↔ K (x + 2) = 41 := by
  have hN := sc.1
  have hK := sc.2.2.1
  have n7 : ¬ cS (tr K x) = 7 := (prv (t := x) (by rw [s20]; decide)).2.2.2.2.2.2.1 s20
  obtain ⟨I, s21, D⟩ := ina_0 hK hN s20 k40 (sc.al (by omega))
  have x2 : x + 2 < N := Decidable.byContradiction (fun z => by
    have e : x + 2 = N := by omega
    rw [e, sc.2.1] at s21
    exact absurd s21 (by decide))
  have a1 : ac K (x + 1 + 1) x = ac K (x + 1) x := ac_n (fun z => by
    rcases z.2 with ⟨q, _⟩ | ⟨⟨q, _⟩, _⟩ | ⟨⟨_, q⟩, _⟩
    · rw [s20] at q; exact absurd q (by decide)
    · rw [s20] at q; exact absurd q (by decide)
    · rw [k40] at q; exact absurd q (by decide))
  constructor
  · intro q
    refine Decidable.byContradiction (fun k41 => ?_)
    have cn : cnt K (x + 2) x := ⟨by omega, Or.inr (Or.inl ⟨⟨s21, k41⟩, callB_t (by omega) (by rw [show cD (tr K (x + 2)) - 1 = cD (tr K (x + 1)) by omega, I.2.1]; exact q_neg (by omega)), by rw [show cD (tr K (x + 2)) - 1 = cD (tr K (x + 1)) by omega]; exact I.2.1⟩)⟩
    have := ac_mono (K := K) (x := x) (t := x + 2 + 1) (u := N) (by omega)
    rw [ac_y cn] at this
    omega
  · intro k41
    obtain ⟨O, _, _⟩ := out_0 I k41 D (sc.al (by omega))
    have e := (ac_out hN n7 (t := x + 2 + 1) (u := N) (by omega) (Nat.le_refl _) (by omega) O).1
    have a2 : ac K (x + 2 + 1) x = ac K (x + 2) x := ac_n (fun z => by
      rcases z.2 with ⟨q, _⟩ | ⟨⟨_, q⟩, _⟩ | ⟨⟨_, q⟩, _⟩
      · rw [s21] at q; exact absurd q (by decide)
      · exact q k41
      · rw [k41] at q; exact absurd q (by decide))
    rw [e, a2, show x + 2 = x + 1 + 1 from rfl, a1, ac_0 hK hN (Nat.le_refl _)]
theorem it_call (h : EJ z0 f0 sh K N W c st t σ μ) (tN : t < N) (hs : (WS K t ∧ K t = 1) ∨ cS (tr K t) = 19) (k40 : K (t + 1) = 40) : It z0 f0 sh K N W c st x1 t σ μ := by
  obtain ⟨k, h8, s11, s20, eD, eO, ec, rbq⟩ := nam_pre h tN hs
  obtain ⟨sc, hW, hp, h12, sm, ew, ag, rs, _⟩ := h.1
  obtain ⟨_, c13, cc, c14, c16, m8, stt⟩ := h.2.1
  have hN := sc.1
  have hK := sc.2.2.1
  have m4 := sc.M4
  have d8 := h.D8 (by omega)
  have cl := cC_mono K t N (by omega)
  have t1N : t + 1 < N := Decidable.byContradiction (fun z => by
    have e : t + 1 = N := by omega
    have := s20
    rw [e, sc.2.1] at this
    exact absurd this (by decide))
  obtain ⟨I, s21, D2⟩ := ina_0 hK hN s20 k40 (sc.al (by omega))
  have t2N : t + 2 < N := Decidable.byContradiction (fun z => by
    have e : t + 2 = N := by omega
    have := s21
    rw [e, sc.2.1] at this
    exact absurd this (by decide))
  have d8b : cD (tr K (t + 2)) ≤ 8 := (WF_all _ (sc.al (by omega))).1
  have dl : cD (tr K t) < 8 := by omega
  have O2 : cO (tr K (t + 2)) = fun l => if l = cD (tr K t) then nI t else cO (tr K t) l := by
    show cO (tr K (t + 1 + 1)) = _
    rw [trO, s20, k40, eD, eO]
    simp +decide only [opn, true_or, or_true, and_true, if_true, Nat.add_sub_cancel]
  have az := ac_z sc s20 k40 t1N
  have er : ro K t = upR (rbT K t) := by unfold ro; rw [if_pos k40]
  have hr : ro K t = 10 ∨ ro K t = 12 := by
    rw [er]
    rcases rbq with ⟨_, z⟩ | ⟨_, z⟩ <;> rw [z]
    · exact Or.inl (by decide)
    · exact Or.inr (by decide)
  have hr4 : ro K t = 9 ∨ ro K t = 10 ∨ ro K t = 11 ∨ ro K t = 12 := hr.elim (fun z => Or.inr (Or.inl z)) (fun z => Or.inr (Or.inr (Or.inr z)))
  have a0 : an0 K N W t = (-1, 0) := by unfold an0; rcases hr with z | z <;> rw [z] <;> rfl
  have r11 : σ.2.1 11 t = -1 := by rw [(rs.1 t (Nat.le_refl _) tN).1, a0]
  have r17 : σ.2.1 17 t = 0 := by rw [(rs.1 t (Nat.le_refl _) tN).2, a0]
  have tls : ¬ (ro K t = 9 ∨ ro K t = 10) → TLv K N (cD (tr K t)) σ μ := fun z => h.2.2.2 (by
    rcases rbq with ⟨_, q⟩ | ⟨q, _⟩
    · exact absurd (Or.inr (by rw [er, q]; decide)) z
    · exact Or.inl q)
  generalize hb : (if ro K t = 9 ∨ ro K t = 10 then nI (cls K t) else σ.2.1 27 (cD (tr K t))) = bef
  have tv : TV K N bef := by
    rw [← hb]
    by_cases z : ro K t = 9 ∨ ro K t = 10
    · rw [if_pos z, ec]; exact Or.inr (Or.inr ⟨c, by omega, rfl⟩)
    · rw [if_neg z]; exact (tls z).2
  have ebm : bef = if ro K t = 9 ∨ ro K t = 10 then nI (cls K t) else μ.2.1 19 (cD (tr K t)) := by
    rw [← hb]
    by_cases z : ro K t = 9 ∨ ro K t = 10
    · rw [if_pos z, if_pos z]
    · rw [if_neg z, if_neg z]; exact (tls z).1
  have J := cname sc hW hp h12 tN stt hr4 h8 c14 c16 (by rw [ec]; exact c13) h.2.2.1.1 d8 r11 r17 tv hb.symm
  obtain ⟨μ1, T, e'⟩ := mcall sm t1N stt hr s20 k40 h.2.2.1.2.1 (by omega) (by rw [← ag.2 t (by omega)]; exact r17) (by rw [← ag.1 t (by omega)]; exact r11) tv ebm
  rw [ew] at T e'
  obtain ⟨σ1, r1, E1, p11⟩ := h.nam rfl (mty_tv _) (by rw [s20]; decide) h8 s11 (by rw [k]; decide) eD eO J T (mbt_lt _ _ _) (by omega) (mng_mv (by omega)) hr4
  obtain ⟨eb1, ec1, el1, tl1⟩ := E1
  have tlD := tl1 (Or.inr (Or.inl s20))
  have sm1 := eb1.2.2.2.2.1
  have sc1 := eb1.1
  rw [eD, eO] at el1
  rw [eD] at tlD
  have c1 : cstp σ t = some σ1 := by
    unfold cstp
    rw [sc.rl tN]
    have l9 : (9 : Int32) ≤ ro K t := by rcases hr with z | z <;> rw [z] <;> decide
    have l15 : ¬ (15 : Int32) ≤ ro K t := by rcases hr with z | z <;> rw [z] <;> decide
    rw [if_pos l9, if_neg l15]
    exact r1
  have r22 : ro K (t + 1) = 22 := ro_s (by unfold rbT; rw [s20, k40]; simp +decide only [rb, if_true, if_false]) (by decide) (by decide) (by decide)
  have c2 : cstp σ1 (t + 1) = some (opC σ1 (cD (tr K t)) (nI t) (nI (t + 2))) := by
    unfold cstp p_Judge_takeSign
    rw [sc1.rl t1N, r22]
    simp +decide only [if_true, if_false, nI_1]
    rw [show nI (t + 1) - 1 = nI t from q_subL (a := t + 1) (k := 1) (Nat.le_add_left _ _), copen el1.1 dl, q_bd1]
  have c12 : crn 2 σ t = some (opC σ1 (cD (tr K t)) (nI t) (nI (t + 2))) := by
    show bd1 (cstp σ t) (fun s => crn 1 s (t + 1)) = _
    rw [c1, q_bd1]
    exact crn_1 c2
  have in2 : ∀ j τ, j < 2 → crn j σ t = some τ → τ.1 3 = nI N := by
    intro j τ hj hτ
    by_cases e0 : j = 0
    · subst e0
      have := Option.some.inj hτ
      subst this
      exact sc.2.2.2.1
    · have e1 : j = 1 := by omega
      subst e1
      rw [crn_1 c1] at hτ
      have := Option.some.inj hτ
      subst this
      exact sc1.2.2.2.1
  have ea12 : ∀ x, ac K (t + 2) x - 1 = ac K (t + 1) x - 1 := fun x => ac_sub hK hN (by rw [k40]; decide) (by rw [s20]; decide)
  have fco : CFr σ1 (opC σ1 (cD (tr K t)) (nI t) (nI (t + 2))) := by unfold opC; exact ((((((CFr.refl σ1).S (by decide)).A (by decide)).A (by decide)).A (by decide)).A (by decide)).A (by decide)
  have eo : ∀ a, a < 23 → (opC σ1 (cD (tr K t)) (nI t) (nI (t + 2))).2.1 a = σ1.2.1 a := fun a ha => by
    unfold opC
    rw [q_An (by omega), q_An (by omega), q_An (by omega), q_An (by omega), q_An (by omega), q_S2]
  have l20 : 8 < cS (tr K (t + 1)) := by rw [s20]; decide
  have l21 : 8 < cS (tr K (t + 2)) := by rw [s21]; decide
  by_cases a0n : ac K N t = 0
  · -- no arguments
    have k41 := az.mp a0n
    rw [if_pos a0n] at e'
    have s22 : cS (tr K (t + 2 + 1)) = 22 := by
      rw [trS, s21, k41, D2]
      simp +decide only [nxt, if_true, if_false, Nat.add_eq_zero_iff, and_false]
    have D3 : cD (tr K (t + 2 + 1)) = cD (tr K t) := by
      rw [trD, s21, k41, D2]
      simp +decide only [dpt, true_or, or_true, and_true, false_and, if_true, if_false, Nat.add_sub_cancel]
      exact eD
    have O3 : cO (tr K (t + 2 + 1)) = cO (tr K (t + 2)) := by
      rw [trO, s21, k41]
      simp +decide only [opn, false_and, if_false]
    have r24 : ro K (t + 2) = 24 := ro_s (by unfold rbT; rw [s21, k41]; simp +decide only [rb, if_true, if_false]) (by decide) (by decide) (by decide)
    have sco : SC K N (opC σ1 (cD (tr K t)) (nI t) (nI (t + 2))) := sc1.keep rfl rfl (eo 6 (by decide)) (eo 9 (by decide)) (eo 10 (by decide)) (eo 13 (by decide))
    have rE : inR (nI (cD (tr K t) + 1)) 9 := q_inR (by omega) (by decide)
    have rEn : (nI (cD (tr K t) + 1)).toNatClampNeg = cD (tr K t) + 1 := q_tn (by omega)
    have o12 : (opC σ1 (cD (tr K t)) (nI t) (nI (t + 2))).1 12 = nI (cD (tr K t) + 1) := rfl
    have o28 : (opC σ1 (cD (tr K t)) (nI t) (nI (t + 2))).2.1 28 (cD (tr K t) + 1) = 0 := by unfold opC; simp [q_A2]
    have o23 : (opC σ1 (cD (tr K t)) (nI t) (nI (t + 2))).2.1 23 (cD (tr K t) + 1) = nI t := by unfold opC; simp [q_A2]
    have o10 : (opC σ1 (cD (tr K t)) (nI t) (nI (t + 2))).2.1 10 t = 0 := by rw [sco.2.2.2.2.2.2.1, a0n]; rfl
    have n0 : ¬ nI (cD (tr K t) + 1) ≤ 0 := fun z => by have : cD (tr K t) + 1 ≤ 0 := (q_leL (by omega) (by decide)).mp z; omega
    have dm : nI (cD (tr K t) + 1) - 1 = nI (cD (tr K t)) := by have := q_subL (a := cD (tr K t) + 1) (k := 1) (Nat.le_add_left _ _); exact this
    have c3 : cstp (opC σ1 (cD (tr K t)) (nI t) (nI (t + 2))) (t + 2) = some (sS (opC σ1 (cD (tr K t)) (nI t) (nI (t + 2))) 12 (nI (cD (tr K t)))) := by
      unfold cstp p_Judge_takeSign
      rw [sco.rl t2N, r24]
      simp +decide only [if_true, if_false]
      unfold p_Judge_endExpression p_Judge_checkArgument p_Judge_close p_Judge_close_b25
      simp +decide only [o12, if_pos rE, rEn, o28, o23, if_true, if_false, q_bd2, if_neg (q_neg (show t < 2147483648 by omega)), if_pos (q_inR (show t < 121 by omega) (by decide : 121 < 2147483648)), q_tn (show t < 2147483648 by omega), o10, q_bd1, if_neg n0, dm]
    have c13r : crn 3 σ t = some (sS (opC σ1 (cD (tr K t)) (nI t) (nI (t + 2))) 12 (nI (cD (tr K t)))) := by
      rw [show (3 : Nat) = 2 + 1 from rfl, crn_add c12]
      exact crn_1 c3
    have ea23 : ∀ x, ac K (t + 2 + 1) x - 1 = ac K (t + 1) x - 1 := fun x => (ac_sub hK hN (by rw [k41]; decide) (by rw [s21]; decide)).trans (ea12 x)
    have fcs : CFr σ1 (sS (opC σ1 (cD (tr K t)) (nI t) (nI (t + 2))) 12 (nI (cD (tr K t)))) := fco.S (by decide)
    have clo : ∀ a l, l ≤ cD (tr K t) → (sS (opC σ1 (cD (tr K t)) (nI t) (nI (t + 2))) 12 (nI (cD (tr K t)))).2.1 a l = σ1.2.1 a l := fun a l hl => by
      unfold opC
      simp only [q_A2, q_S2]
      simp [show ¬ l = cD (tr K t) + 1 by omega]
    refine ⟨t + 2 + 1, _, μ1, by omega, by omega, by rw [show t + 2 + 1 - t = 3 by omega]; exact c13r, fun j τ hj hτ => ?_, fun n => ?_, ⟨eb1.fr fcs (MFr.refl μ1) ⟨fun u hu4 => by rw [q_S2, eo 11 (by decide)]; exact eb1.2.2.2.2.2.2.1.1 u hu4, fun u hu4 => by rw [q_S2, eo 17 (by decide)]; exact eb1.2.2.2.2.2.2.1.2 u hu4⟩ ((eb1.2.2.2.2.2.2.2.1.mono (by omega)).same (by rw [q_S2, eo 11 (by decide)]) (by rw [q_S2, eo 17 (by decide)])), ec1.fr fcs (MFr.refl μ1) (by omega) ((cC_k (n_8 l21 (by decide))).trans (cC_k (n_8 l20 (by decide)))) ((cM_k (n_8 l21 (by decide))).trans (cM_k (n_8 l20 (by decide)))), ?_, fun _ => ?_⟩, Or.inr (Or.inr (Or.inr (Or.inr s22))), ?_, fun u h1 h2 => ?_⟩
    · by_cases e2 : j = 2
      · subst e2
        rw [c12] at hτ
        have := Option.some.inj hτ
        subst this
        exact sco.2.2.2.1
      · exact in2 j τ (by omega) hτ
    · have := ev_cl (x1 := x1) sm sm1 t1N n k hr s20 k40 e'
      rw [if_pos a0n] at this
      exact this
    · rw [D3, O3, O2]
      obtain ⟨a, b, d, p, q, r⟩ := el1
      refine ⟨rfl, b, by rw [clo 23 0 (by omega)]; exact d, fun l hl => (p l hl).fr (by omega) (clo 25 l hl) (clo 26 l hl) (clo 28 l hl) rfl rfl rfl, fun l hl => ?_, fun l x hl hx ho => ?_⟩
      · simp only [if_neg (show ¬ l = cD (tr K t) by omega)]
        rw [clo 23 (l + 1) (by omega)]
        exact q l hl
      · simp only [if_neg (show ¬ l = cD (tr K t) by omega)] at ho
        exact (r l x hl hx ho).fr (by omega) (ea23 x) (clo 27 l (by omega)) rfl (clo 24 (l + 1) (by omega)) rfl rfl (fun u _ => by rw [q_S2, eo 11 (by decide)])
    · rw [D3]
      exact ⟨by rw [clo 27 _ (Nat.le_refl _)]; exact tlD.1, by rw [clo 27 _ (Nat.le_refl _)]; exact tlD.2⟩
    · exact rq_o (t := t + 2) s22 (by decide) (by rw [r24]; decide)
    · by_cases e : u = t + 1
      · rw [e, s20]; decide
      · rw [show u = t + 2 by omega, s21]; decide
  · -- arguments
    have k41 : ¬ K (t + 2) = 41 := fun z => a0n (az.mpr z)
    rw [if_neg a0n] at e'
    generalize hv : (mng K N W t st bef).elim (-1) (fun m => if ac K N m = ac K N t then nI m else -1) = v at e'
    have fmo : MFr μ1 (opnR μ1 (cD (tr K t)) (nI (t + 2)) v) := by unfold opnR; exact ((((((((MFr.refl μ1).S (by decide)).A (by decide)).A (by decide)).A (by decide)).A (by decide)).A (by decide)).A (by decide)).A (by decide)
    have smo : SM K N (opnR μ1 (cD (tr K t)) (nI (t + 2)) v) := sm1.keep rfl rfl (fun a ha => by
      unfold opnR
      rw [q_An (by omega), q_An (by omega), q_An (by omega), q_An (by omega), q_An (by omega), q_An (by omega), q_An (by omega), q_S2])
    have mo : ∀ a, a = 13 ∨ a = 14 → (opnR μ1 (cD (tr K t)) (nI (t + 2)) v).2.1 a = μ1.2.1 a := fun a ha => by
      unfold opnR
      rw [q_An (by omega), q_An (by omega), q_An (by omega), q_An (by omega), q_An (by omega), q_An (by omega), q_An (by omega), q_S2]
    have e02 : ac K (t + 2) t = 0 := by
      have z1 : ac K (t + 1 + 1) t = ac K (t + 1) t := ac_n (fun z => by
        rcases z.2 with ⟨q, _⟩ | ⟨⟨q, _⟩, _⟩ | ⟨⟨_, q⟩, _⟩
        · rw [s20] at q; exact absurd q (by decide)
        · rw [s20] at q; exact absurd q (by decide)
        · rw [k40] at q; exact absurd q (by decide))
      rw [show t + 2 = t + 1 + 1 from rfl, z1, ac_0 hK hN (Nat.le_refl _)]
    refine ⟨t + 2, _, opnR μ1 (cD (tr K t)) (nI (t + 2)) v, by omega, by omega, by rw [show t + 2 - t = 2 by omega]; exact c12, fun j τ hj hτ => in2 j τ (by omega) hτ, fun n => ?_, ⟨eb1.fr fco fmo ⟨fun u hu4 => by rw [eo 11 (by decide), mo 14 (by decide)]; exact eb1.2.2.2.2.2.2.1.1 u hu4, fun u hu4 => by rw [eo 17 (by decide), mo 13 (by decide)]; exact eb1.2.2.2.2.2.2.1.2 u hu4⟩ ((eb1.2.2.2.2.2.2.2.1.mono (by omega)).same (eo 11 (by decide)) (eo 17 (by decide))), ec1.fr fco fmo (by omega) (cC_k (n_8 l20 (by decide))) (cM_k (n_8 l20 (by decide))), ?_, fun z => ?_⟩, Or.inl (Or.inr (Or.inr ⟨s21, k41⟩)), ⟨fun z => by rw [s21] at z; exact absurd z (by decide), fun _ z => by rw [D2] at z; omega⟩, fun u h1 h2 => by rw [show u = t + 1 by omega, s20]; decide⟩
    · have := ev_cl (x1 := x1) sm smo t1N n k hr s20 k40 e'
      rw [if_neg a0n] at this
      exact this
    · rw [D2, O2, eD]
      refine el1.opn (by omega) ea12 (Nat.le_refl _) rfl (fun a l ha hl => ?_) ?_ ?_ ?_ ?_ (fun z hz ez => ?_)
      · unfold opnR
        simp only [q_A2, q_S2]
        simp [show ¬ l = cD (tr K t) + 1 by omega]
      · rw [if_neg (q_neg (by omega))]
        unfold opnR
        simp [q_A2]
      · unfold opnR; simp [q_A2]
      · unfold opnR; simp [q_A2]
      · unfold opnR; simp [q_A2]
      · have ez' : z = t := ((q_eq (by omega) (by omega)).mp ez).symm
        subst ez'
        refine ⟨?_, ?_, a0n, by omega, ?_, ?_, mng K N W z st bef, ?_, fun m hm => ?_, ?_⟩
        · have q1 : (opC σ1 (cD (tr K z)) (nI z) (nI (z + 2))).2.1 27 (cD (tr K z)) = σ1.2.1 27 (cD (tr K z)) := by unfold opC; simp [q_A2, q_S2]
          have q2 : (opnR μ1 (cD (tr K z)) (nI (z + 2)) v).2.1 19 (cD (tr K z)) = μ1.2.1 19 (cD (tr K z)) := by unfold opnR; simp [q_A2, q_S2]
          rw [q1, q2]; exact tlD.1
        · have q1 : (opC σ1 (cD (tr K z)) (nI z) (nI (z + 2))).2.1 27 (cD (tr K z)) = σ1.2.1 27 (cD (tr K z)) := by unfold opC; simp [q_A2, q_S2]
          rw [q1]; exact tlD.2
        · rw [e02]
          unfold opC
          simp [q_A2]
          rfl
        · rw [e02]
          unfold opnR
          simp [q_A2]
          rfl
        · rw [eo 11 (by decide)]; exact p11
        · obtain ⟨x, y, z'⟩ := mng_ok (by omega) hm
          exact ⟨x, z' hr⟩
        · have q3 : (opnR μ1 (cD (tr K z)) (nI (z + 2)) v).2.1 23 (cD (tr K z) + 1) = v := by unfold opnR; simp [q_A2]
          rw [q3]; exact hv.symm
    · rw [s21] at z; exact absurd z (by decide)
/-- one item, whichever it is -/
theorem it_all (h : EJ z0 f0 sh K N W c st t σ μ) (q0 : RQ K st t σ) (tN : t < N) (ps : PS K t) (ne : ¬ (NS K t ∧ (K t = 59 ∨ K t = 61))) : It z0 f0 sh K N W c st x1 t σ μ := by
  have sc := h.1.1
  have a1 := sc.al (t := t + 1) (by omega)
  have nm : ((WS K t ∧ K t = 1) ∨ cS (tr K t) = 19) → It z0 f0 sh K N W c st x1 t σ μ := fun hs => by
    by_cases k40 : K (t + 1) = 40
    · exact it_call h tN hs k40
    · exact it_nm h q0 tN hs k40
  rcases ps with w | s | s | w
  · obtain ⟨wS, _⟩ := ws_n w
    by_cases k1 : K t = 1
    · exact nm (Or.inl ⟨w, k1⟩)
    by_cases k2 : K t = 2
    · exact it_num h tN w k2
    by_cases k7 : K t = 7
    · exact it_new h tN w k7
    by_cases k8 : K t = 8
    · exact it_this h tN w k8
    by_cases k40 : K t = 40
    · exact it_bra h tN w k40
    exfalso
    apply a1
    rw [wS]
    simp +decide only [opr, k1, k2, k7, k8, k40, if_false]
  · exact it_cls h tN s
  · exact nm (Or.inr s)
  · obtain ⟨wS, _⟩ := ns_n w
    by_cases k41 : K t = 41
    · exact it_clo h tN w k41
    by_cases k43 : K t = 43
    · exact it_plus h tN w k43
    by_cases k44 : K t = 44
    · exact it_com h tN w k44
    by_cases k46 : K t = 46
    · exact it_dot h tN w k46
    exfalso
    apply a1
    rw [wS]
    simp +decide only [tal, k41, k43, k44, k46, show ¬ K t = 59 from fun z => ne ⟨w, Or.inl z⟩, show ¬ K t = 61 from fun z => ne ⟨w, Or.inr z⟩, if_false]
theorem ps_N (h : EJ z0 f0 sh K N W c st t σ μ) (ps : PS K t) (tN : t ≤ N) : t < N := Decidable.byContradiction (fun z => by
  have e : t = N := by omega
  exact ps_n ps (v := 1) (by decide) (by rw [e]; exact h.1.1.2.1))
/-- a whole expression -/
theorem exq : ∀ (j t : Nat) (σ μ : Sto), j = N - t → t ≤ N → EJ z0 f0 sh K N W c st t σ μ → RQ K st t σ → PS K t → ∃ t' σ' μ' k, t ≤ t' ∧ t' < N ∧ k ≤ t' - t ∧ crn (t' - t) σ t = some σ' ∧ (∀ i τ, i < t' - t → crn i σ t = some τ → τ.1 3 = nI N) ∧ (∀ n, p_Mo_evaluate_L15 x1 (nI st) (n + k) μ (nI t) 1 = p_Mo_evaluate_L15 x1 (nI st) n μ' (nI t') 1) ∧ EJ z0 f0 sh K N W c st t' σ' μ' ∧ NS K t' ∧ (K t' = 59 ∨ K t' = 61) ∧ RQ K st t' σ' ∧ (∀ u, t < u → u ≤ t' → ¬ cS (tr K u) = 14) := by
  intro j
  induction j using Nat.strongRecOn with
  | _ j ih =>
  intro t σ μ hj tN h q0 ps
  have tN' := ps_N h ps tN
  by_cases e : NS K t ∧ (K t = 59 ∨ K t = 61)
  · refine ⟨t, σ, μ, 0, Nat.le_refl _, tN', Nat.zero_le _, by rw [Nat.sub_self]; rfl, fun i τ hi => by omega, fun n => rfl, h, e.1, e.2, q0, fun u h1 h2 => by omega⟩
  · obtain ⟨t1, σ1, μ1, l1, l2, r1, i1, e1, E1, P1, Q1, U1⟩ := it_all (x1 := x1) h q0 tN' ps e
    obtain ⟨t2, σ2, μ2, k, l3, l4, l5, r2, i2, e2, E2, w2, k2, Q2, U2⟩ := ih (N - t1) (by omega) t1 σ1 μ1 rfl l2 E1 Q1 P1
    refine ⟨t2, σ2, μ2, k + 1, by omega, l4, by omega, ?_, fun i τ hi hτ => ?_, fun n => ?_, E2, w2, k2, Q2, fun u h1 h2 => ?_⟩
    · rw [show t2 - t = (t1 - t) + (t2 - t1) by omega, crn_add r1, show t + (t1 - t) = t1 by omega]
      exact r2
    · by_cases c : i < t1 - t
      · exact i1 i τ c hτ
      · rw [show i = (t1 - t) + (i - (t1 - t)) by omega, crn_add r1, show t + (t1 - t) = t1 by omega] at hτ
        exact i2 (i - (t1 - t)) τ (by omega) hτ
    · rw [show n + (k + 1) = n + k + 1 by omega, e1, e2]
    · by_cases c : u < t1
      · exact U1 u h1 c
      · by_cases c2 : u = t1
        · intro z
          rw [c2] at z
          have := Q1.1 z
          have := h.2.1.2.2.2.2.2.2
          omega
        · exact U2 u (by omega) h2
end IT3
