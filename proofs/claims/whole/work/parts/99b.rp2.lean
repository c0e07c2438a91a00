/-! the reference's parser: operands and expressions -/
section RP3
variable {K : Nat → Int32} {N : Nat} {μ0 μ : Sto} {t b c m : Nat} {e : Bool}
theorem ws_8 (h : WS K t) : 8 < cS (tr K t) := by
  rcases h with ⟨hs, _⟩ | hs | ⟨hs, _⟩ <;> rw [hs] <;> decide
theorem ns_8 (h : NS K t) : 8 < cS (tr K t) := by
  rcases h with ⟨hs, _⟩ | hs <;> rw [hs] <;> decide
theorem ns_14 (h : NS K t) : ¬ cS (tr K t) = 14 := by
  rcases h with ⟨hs, _⟩ | hs <;> rw [hs] <;> decide
theorem n_8 {v : Int32} (h : 8 < cS (tr K t)) (hv : ¬ (8 : Int32) < v) : ¬ cS (tr K t) = v := fun z => hv (by rw [z] at h; exact h)
/-- one token further in an expression, with the brackets as they were -/
theorem ei_0 (hT : TKM K N μ0) (h : EI K N μ0 b c m e t μ) (h8 : 8 < cS (tr K t)) (hn : cS (tr K (t + 1)) ≠ 0) (n14 : ¬ cS (tr K (t + 1)) = 14) (hD : cD (tr K (t + 1)) = cD (tr K t)) (hO : cO (tr K (t + 1)) = cO (tr K t)) (hE : cE (tr K (t + 1)) = e) (hr : rr (rbT K t) = 0) : EI K N μ0 b c m e (t + 1) (sS μ 4 (nI (t + 1))) := by
  obtain ⟨g, h7, ho, hc, hm, he1, he2⟩ := h
  refine ⟨gd_0 hT g hn (fun z _ => (he1 z).2) (rr_ro0 hr), by rw [hD]; exact h7, fun j hj => ?_, (cC_k (n_8 h8 (by decide))).trans hc, (cM_k (n_8 h8 (by decide))).trans hm, fun z => absurd z n14, fun _ => hE⟩
  rw [hD] at hj
  rw [hO]
  exact ho j hj
theorem oper (hT : TKM K N μ0) (h : EI K N μ0 b c m e t μ) (w : WS K t) : RE K N μ0 b c m e t (p_Mo_operand μ (nI c) (nI m)) := by
  have h' := h
  obtain ⟨g, h7, ho, hc, hm, he1, he2⟩ := h
  obtain ⟨wS, wR, wD, wO, wE⟩ := ws_n w
  have w8 := ws_8 w
  have hE : cE (tr K (t + 1)) = e := by
    rw [wE]
    by_cases z : cS (tr K t) = 14
    · rw [if_pos z]; exact (he1 z).1.symm
    · rw [if_neg z]; exact he2 z
  have hb : cS (tr K t) = 14 → ¬ K t = 125 → t = b := fun z _ => (he1 z).2
  have d8 := (WF_all t g.2.2.2.1).1
  have n1 : ¬ cS (tr K t) = 1 := n_8 w8 (by decide)
  unfold p_Mo_operand
  rw [g.is hT]
  by_cases k1 : K t = 1
  · rw [if_pos k1, q_bd1, if_neg (by decide)]
    rw [k1] at wS wR wD wO
    have bn := bname (p := 9) (e := e) hT g h7 ho hc hm hb (fun _ => hE) (fun _ => wD) (fun _ => wO) (fun _ => wR) (Or.inl rfl) w8 (fun _ => wS) (fun z => absurd k1 z)
    rcases bn with ⟨v, μ', r, hv, B⟩ | ⟨μ', t', r, lt, E, n⟩ | ⟨μ', t', r, lt, E, n⟩
    · rw [r, q_bd2, if_pos hv]
      exact Or.inl ⟨v, μ', rfl, hv, B⟩
    · rw [r, q_bd2, if_pos (Or.inl rfl)]
      exact Or.inr (Or.inl ⟨μ', t', rfl, lt, E, n⟩)
    · rw [r, q_bd2, if_pos (Or.inr rfl)]
      exact Or.inr (Or.inr ⟨μ', t', rfl, lt, E, n⟩)
  rw [if_neg k1, q_bd1, if_pos rfl, g.is hT]
  by_cases k40 : K t = 40
  · rw [if_pos k40, q_bd1, if_neg (by decide), open_g g.2.2.1 h7 d8 (Or.inl rfl)]
    rw [k40] at wS wR wD wO
    by_cases d9 : cD (tr K t) = 8
    · have z0 : cS (tr K (t + 1)) = 0 := by
        rw [wS, d9]
        decide
      have B := gd_bad g z0 (fun z => absurd z n1)
      rw [if_pos d9, q_bd1]
      exact Or.inl ⟨_, _, rfl, Or.inr rfl, B⟩
    · have dl : cD (tr K t) < 8 := by omega
      have s17 : cS (tr K (t + 1)) = 17 := by
        rw [wS]
        simp +decide only [opr, if_true, if_false, if_pos dl]
      have r0 : rr (rbT K t) = 0 := by rw [wR]; decide
      have G2 := (gd_0 hT g (by rw [s17]; decide) hb (rr_ro0 r0)).o (i := cD (tr K t)) (v := 0) (w := nI (cD (tr K t) + 1))
      rw [if_neg d9, q_bd1]
      rw [if_pos rfl] at wD wO
      refine Or.inr (Or.inr ⟨_, t + 1, rfl, by omega, ⟨G2, by rw [wD]; rfl, fun j hj => ?_, (cC_k (n_8 w8 (by decide))).trans hc, (cM_k (n_8 w8 (by decide))).trans hm, fun z => ?_, fun _ => hE⟩, Or.inr (Or.inl s17)⟩)
      · rw [wD] at hj
        rw [wO, q_S2, q_A2, if_pos rfl]
        by_cases e1 : j = cD (tr K t)
        · rw [if_pos e1]
          simp only [if_pos e1, if_true]
        · rw [if_neg e1]
          simp only [if_neg e1]
          exact ho j (by omega)
      · rw [s17] at z; exact absurd z (by decide)
  rw [if_neg k40, q_bd1, if_pos rfl, g.take hT]
  rw [if_neg k40] at wD wO
  by_cases k7 : K t = 7
  · rw [if_pos k7, q_bd2, if_neg (by decide)]
    rw [k7] at wS wR
    have s18 : cS (tr K (t + 1)) = 18 := by rw [wS]; simp +decide only [opr, if_true, if_false]
    have r0 : rr (rbT K t) = 0 := by rw [wR]; decide
    have E1 := ei_0 hT h' w8 (by rw [s18]; decide) (by rw [s18]; decide) wD wO hE r0
    have G1 := E1.1
    rw [G1.name hT]
    by_cases kk : K (t + 1) = 1
    · have s22 : cS (tr K (t + 1 + 1)) = 22 := by
        rw [trS, s18, kk]
        simp +decide only [nxt, if_true, if_false]
      have b8 : rbT K (t + 1) = 8 := by
        unfold rbT
        rw [s18]
        simp +decide only [rb, if_true, if_false]
      have l8 : 8 < cS (tr K (t + 1)) := by rw [s18]; decide
      have D2 : cD (tr K (t + 1 + 1)) = cD (tr K (t + 1)) := by
        rw [trD, s18, kk]
        simp +decide only [dpt, false_and, if_false]
      have O2 : cO (tr K (t + 1 + 1)) = cO (tr K (t + 1)) := by
        rw [trO, s18, kk]
        simp +decide only [opn, false_and, if_false]
      have G2 := gd_n hT G1 (x1 := 4) (x2 := nI c) (x3 := nI m) (by rw [s22]; decide) (fun z => by rw [s18] at z; exact absurd z (by decide)) (by rw [ro_s b8 (by decide) (by decide) (by decide)]; decide) (cls_k E1.2.2.2.1 l8) (mth_k E1.2.2.2.2.1 l8)
      rw [if_pos kk, q_bd1]
      refine Or.inr (Or.inl ⟨_, t + 1 + 1, rfl, by omega, ⟨G2, by rw [D2]; exact E1.2.1, fun j hj => ?_, (cC_k (n_8 l8 (by decide))).trans E1.2.2.2.1, (cM_k (n_8 l8 (by decide))).trans E1.2.2.2.2.1, fun z => ?_, fun _ => ?_⟩, Or.inr s22⟩)
      · rw [D2] at hj
        rw [O2, ← E1.2.2.1 j hj]
        unfold nm
        rw [q_S2, q_An (by decide), q_An (by decide), q_An (by decide)]
      · rw [s22] at z; exact absurd z (by decide)
      · rw [trE, s18, kk]
        simp +decide only [eqm, false_and, if_false]
        exact hE
    · have z0 : cS (tr K (t + 1 + 1)) = 0 := by
        rw [trS, s18]
        simp +decide only [nxt, kk, if_true, if_false]
      have B := gd_bad G1 z0 (fun z => by rw [s18] at z; exact absurd z (by decide))
      rw [if_neg kk, q_bd1]
      exact Or.inl ⟨_, _, rfl, Or.inl rfl, B⟩
  rw [if_neg k7, q_bd2, if_pos rfl, g.take hT]
  by_cases k2 : K t = 2
  · rw [if_pos k2, q_bd2, if_neg (by decide)]
    rw [k2] at wS wR
    have s22 : cS (tr K (t + 1)) = 22 := by rw [wS]; simp +decide only [opr, if_true, if_false]
    exact Or.inr (Or.inl ⟨_, t + 1, rfl, by omega, ei_0 hT h' w8 (by rw [s22]; decide) (by rw [s22]; decide) wD wO hE (by rw [wR]; decide), Or.inr s22⟩)
  rw [if_neg k2, q_bd2, if_pos rfl, g.take hT]
  by_cases k8 : K t = 8
  · rw [if_pos k8, q_bd2, if_neg (by decide)]
    rw [k8] at wS wR
    have s22 : cS (tr K (t + 1)) = 22 := by rw [wS]; simp +decide only [opr, if_true, if_false]
    exact Or.inr (Or.inl ⟨_, t + 1, rfl, by omega, ei_0 hT h' w8 (by rw [s22]; decide) (by rw [s22]; decide) wD wO hE (by rw [wR]; decide), Or.inr s22⟩)
  rw [if_neg k8, q_bd2, if_pos rfl]
  have z0 : cS (tr K (t + 1)) = 0 := by
    rw [wS]
    simp +decide only [opr, k1, k2, k7, k8, k40, if_false]
  exact Or.inl ⟨_, _, rfl, Or.inl rfl, gd_bad g z0 (fun z => absurd z n1)⟩
/-- an expression is over -/
def RX (K : Nat → Int32) (N : Nat) (μ0 : Sto) (b c m : Nat) (e : Bool) (t : Nat) (r : Option Sto) : Prop := (∃ μ', r = some μ' ∧ BB K N μ0 μ') ∨ (∃ μ' t', r = some μ' ∧ t < t' ∧ EI K N μ0 b c m e t' μ' ∧ NS K t' ∧ cD (tr K t') = 0 ∧ ¬ K t' = 46 ∧ ¬ K t' = 43)
theorem RX.mono {t' : Nat} {r : Option Sto} (h : RX K N μ0 b c m e t' r) (ht : t ≤ t') : RX K N μ0 b c m e t r := h.imp id (fun ⟨a, u, x1, x2, x3⟩ => ⟨a, u, x1, by omega, x3⟩)
theorem bb_L {x3 : Int32} (n : Nat) (B : BB K N μ0 μ) (x1 x2 : Int32) : p_Mo_expression_L10 x1 x2 (n + 1) μ x3 1 = some μ := by
  unfold p_Mo_expression_L10
  rw [if_neg (by decide), if_neg B.n5]
theorem callB_1 (h : EI K N μ0 b c m e t μ) (hd : 1 ≤ cD (tr K t)) : (μ.2.1 16 (cD (tr K t) - 1) = 1 ↔ callB (tr K t) = true) ∧ (¬ μ.2.1 16 (cD (tr K t) - 1) = 1 → callB (tr K t) = false) := by
  have ho := h.2.2.1 (cD (tr K t) - 1) (by omega)
  rw [ho]
  by_cases z : cO (tr K t) (cD (tr K t) - 1) = -1
  · rw [if_pos z, callB_f (Or.inr z)]
    simp +decide
  · rw [if_neg z, callB_t hd z]
    simp +decide
theorem expL (hT : TKM K N μ0) : ∀ (j t fuel : Nat) (μ : Sto) (x3 : Int32), j = N + 1 - t → j < fuel → EI K N μ0 b c m e t μ → ((x3 = 1 ∧ WS K t) ∨ (x3 = 0 ∧ NS K t)) → (x3 = 0 → 1 ≤ t) → (x3 = 1 → RX K N μ0 b c m e t (p_Mo_expression_L10 (nI c) (nI m) fuel μ x3 1)) ∧ (x3 = 0 → RX K N μ0 b c m e (t - 1) (p_Mo_expression_L10 (nI c) (nI m) fuel μ x3 1)) := by
  intro j
  induction j using Nat.strongRecOn with
  | _ j ih =>
  intro t fuel μ x3 hj hf h hx ht1
  have g := h.1
  have tN := g.2.2.2.2.1
  obtain ⟨n, rfl⟩ : ∃ n, fuel = n + 1 := ⟨fuel - 1, by omega⟩
  obtain ⟨n', hn'⟩ : ∃ n', n = n' + 1 := ⟨n - 1, by omega⟩
  -- what a good or a bad part leads to
  have go : ∀ (r : Option (Int32 × Sto)) , RE K N μ0 b c m e t r → RX K N μ0 b c m e t (bd2 r fun v σ => p_Mo_expression_L10 (nI c) (nI m) n σ v 1) := by
    intro r hr
    rcases hr with ⟨v, μ', r1, hv, B⟩ | ⟨μ', t', r1, lt, E, w⟩ | ⟨μ', t', r1, lt, E, w⟩
    · rw [r1, q_bd2, hn', bb_L n' B]
      exact Or.inl ⟨_, rfl, B⟩
    · rw [r1, q_bd2]
      have t'N := E.1.2.2.2.2.1
      exact ((ih (N + 1 - t') (by omega) t' n μ' 0 rfl (by omega) E (Or.inr ⟨rfl, w⟩) (fun _ => by omega)).2 rfl).mono (by omega)
    · rw [r1, q_bd2]
      have t'N := E.1.2.2.2.2.1
      exact ((ih (N + 1 - t') (by omega) t' n μ' 1 rfl (by omega) E (Or.inl ⟨rfl, w⟩) (fun z => absurd z (by decide))).1 rfl).mono (by omega)
  rcases hx with ⟨rfl, w⟩ | ⟨rfl, w⟩
  · refine ⟨fun _ => ?_, fun z => absurd z (by decide)⟩
    unfold p_Mo_expression_L10
    rw [if_neg (by decide), if_pos g.2.1, if_neg (by decide)]
    exact go _ (oper hT h w)
  · refine ⟨fun z => absurd z (by decide), fun _ => ?_⟩
    obtain ⟨wS, wR, wD, wO, wE, _⟩ := ns_n w
    have w8 := ns_8 w
    have n1 : ¬ cS (tr K t) = 1 := n_8 w8 (by decide)
    have n14 := ns_14 w
    have d8 := (WF_all t g.2.2.2.1).1
    have he2 := h.2.2.2.2.2.2 n14
    have h7 := h.2.1
    have up : ∀ r, RX K N μ0 b c m e t r → RX K N μ0 b c m e (t - 1) r := fun r q => q.mono (by omega)
    unfold p_Mo_expression_L10
    rw [if_neg (by decide), if_pos g.2.1, if_pos rfl, g.take hT]
    by_cases k46 : K t = 46
    · rw [if_pos k46, q_bd2, if_neg (by decide)]
      apply up
      have hE := wE (by rw [k46]; decide)
      rw [k46] at wS wR wD
      have s19 : cS (tr K (t + 1)) = 19 := by rw [wS]; simp +decide only [tal, if_true, if_false]
      have D1 : cD (tr K (t + 1)) = cD (tr K t) := by rw [wD, if_neg (by decide)]
      have E1 := ei_0 hT h w8 (by rw [s19]; decide) (by rw [s19]; decide) D1 wO (hE.trans he2) (by rw [wR]; decide)
      have bn := bname (p := 11) (e := e) hT E1.1 E1.2.1 E1.2.2.1 E1.2.2.2.1 E1.2.2.2.2.1 (fun z => by rw [s19] at z; exact absurd z (by decide))
        (fun kk => by rw [trE, s19, kk]; simp +decide only [eqm, false_and, if_false]; exact hE.trans he2)
        (fun kk => by rw [trD, s19, kk]; simp +decide only [dpt, false_and, if_false])
        (fun kk => by rw [trO, s19, kk]; simp +decide only [opn, false_and, if_false])
        (fun kk => by unfold rbT; rw [s19]; simp +decide only [rb, if_true, if_false]) (Or.inr rfl) (by rw [s19]; decide)
        (fun kk => by rw [trS, s19, kk]; simp +decide only [nxt, if_true, if_false])
        (fun kk => by rw [trS, s19]; simp +decide only [nxt, kk, if_true, if_false])
      refine go _ ?_
      rcases bn with q | ⟨a, u, r1, lt, q⟩ | ⟨a, u, r1, lt, q⟩
      · exact Or.inl q
      · exact Or.inr (Or.inl ⟨a, u, r1, by omega, q⟩)
      · exact Or.inr (Or.inr ⟨a, u, r1, by omega, q⟩)
    rw [if_neg k46, q_bd2, if_pos rfl, g.take hT]
    by_cases k43 : K t = 43
    · rw [if_pos k43, q_bd2, if_neg (by decide)]
      apply up
      have hE := wE (by rw [k43]; decide)
      rw [k43] at wS wR wD
      have s17 : cS (tr K (t + 1)) = 17 := by rw [wS]; simp +decide only [tal, if_true, if_false]
      have D1 : cD (tr K (t + 1)) = cD (tr K t) := by rw [wD, if_neg (by decide)]
      have E1 := ei_0 hT h w8 (by rw [s17]; decide) (by rw [s17]; decide) D1 wO (hE.trans he2) (by rw [wR]; decide)
      have l1 := E1.1.2.2.2.2.1
      exact ((ih (N + 1 - (t + 1)) (by omega) (t + 1) n _ 1 rfl (by omega) E1 (Or.inl ⟨rfl, Or.inr (Or.inl s17)⟩) (fun z => absurd z (by decide))).1 rfl).mono (by omega)
    rw [if_neg k43, q_bd2, if_pos rfl]
    by_cases d0 : cD (tr K t) = 0
    · have hle : μ.1 7 ≤ 0 := by rw [h7, d0]; decide
      rw [if_pos hle]
      unfold p_Mo_expression_b107
      rw [if_pos hle, hn']
      unfold p_Mo_expression_L10
      rw [if_pos rfl]
      exact Or.inr ⟨μ, t, rfl, by have := ht1 rfl; omega, h, w, d0, k46, k43⟩
    · have hle : ¬ μ.1 7 ≤ 0 := by
        rw [h7]
        intro z
        have z0 : cD (tr K t) ≤ 0 := (q_leL (by omega) (by decide)).mp z
        omega
      have e1 : μ.1 7 - 1 = nI (cD (tr K t) - 1) := by
        rw [h7]
        exact q_subL (show 1 ≤ cD (tr K t) by omega)
      obtain ⟨cb1, cb2⟩ := callB_1 h (by omega)
      rw [if_neg hle, e1, if_pos (q_inR (by omega) (by decide)), q_tn (by omega)]
      apply up
      -- a bracket must close here
      have cl : ¬ (K t = 44 ∧ callB (tr K t) = true) → RX K N μ0 b c m e t (p_Mo_expression_b107 (nI c) (nI m) (p_Mo_expression_L10 (nI c) (nI m) n) μ 0 1) := by
        intro hnc
        unfold p_Mo_expression_b107
        rw [if_neg hle, g.need hT]
        by_cases k41 : K t = 41
        · rw [if_pos k41, q_bd1]
          have hE := wE (by rw [k41]; decide)
          rw [k41] at wS wR wD
          rw [if_pos rfl] at wD
          have s22 : cS (tr K (t + 1)) = 22 := by rw [wS]; simp +decide only [tal, if_true, if_false, d0]
          have G1 := (gd_0 hT g (by rw [s22]; decide) (fun z => absurd z n14) (rr_ro0 (by rw [wR]; decide))).s7 (w := nI (cD (tr K t) - 1))
          have e2 : (sS μ 4 (nI (t + 1))).1 7 - 1 = nI (cD (tr K t) - 1) := e1
          rw [e2]
          have l1 := G1.2.2.2.2.1
          have E1 : EI K N μ0 b c m e (t + 1) (sS (sS μ 4 (nI (t + 1))) 7 (nI (cD (tr K t) - 1))) := by
            refine ⟨G1, by rw [wD]; rfl, fun j hj => ?_, (cC_k (n_8 w8 (by decide))).trans h.2.2.2.1, (cM_k (n_8 w8 (by decide))).trans h.2.2.2.2.1, fun z => ?_, fun _ => hE.trans he2⟩
            · rw [wD] at hj
              rw [wO]
              exact h.2.2.1 j (by omega)
            · rw [s22] at z; exact absurd z (by decide)
          exact ((ih (N + 1 - (t + 1)) (by omega) (t + 1) n _ 0 rfl (by omega) E1 (Or.inr ⟨rfl, Or.inr s22⟩) (fun _ => by omega)).2 rfl).mono (by omega)
        · rw [if_neg k41, q_bd1]
          have z0 : cS (tr K (t + 1)) = 0 := by
            rw [wS]
            by_cases k44 : K t = 44
            · have cf : callB (tr K t) = false := by
                cases q : callB (tr K t)
                · rfl
                · exact absurd ⟨k44, q⟩ hnc
              simp +decide only [tal, k44, cf, if_true, if_false]
            · simp +decide only [tal, k41, k43, k44, k46, d0, if_true, if_false, ite_self]
          have B := (gd_bad g z0 (fun z => absurd z n1)).s7 (v := (sS μ 5 1).1 7 - 1)
          rw [hn', bb_L n' B]
          exact Or.inl ⟨_, rfl, B⟩
      by_cases kc : μ.2.1 16 (cD (tr K t) - 1) = 1
      · rw [if_pos kc, g.take hT]
        by_cases k44 : K t = 44
        · rw [if_pos k44, q_bd2, if_neg (by decide)]
          have ct := cb1.mp kc
          have hE := wE (by rw [k44]; decide)
          rw [k44] at wS wR wD
          have s17 : cS (tr K (t + 1)) = 17 := by rw [wS, ct]; simp +decide only [tal, if_true, if_false]
          have D1 : cD (tr K (t + 1)) = cD (tr K t) := by rw [wD, if_neg (by decide)]
          have E1 := ei_0 hT h w8 (by rw [s17]; decide) (by rw [s17]; decide) D1 wO (hE.trans he2) (by rw [wR]; decide)
          have l1 := E1.1.2.2.2.2.1
          exact ((ih (N + 1 - (t + 1)) (by omega) (t + 1) n _ 1 rfl (by omega) E1 (Or.inl ⟨rfl, Or.inr (Or.inl s17)⟩) (fun z => absurd z (by decide))).1 rfl).mono (by omega)
        · rw [if_neg k44, q_bd2, if_pos rfl]
          exact cl (fun z => k44 z.1)
      · rw [if_neg kc]
        exact cl (fun z => by rw [cb2 kc] at z; exact absurd z.2 (by decide))
theorem expr (hT : TKM K N μ0) (h : GD K N μ0 b t μ) (d0 : cD (tr K t) = 0) (hc : cC (tr K t) = c + 1) (hm : cM (tr K t) = m) (he1 : cS (tr K t) = 14 → e = true ∧ t = b) (he2 : ¬ cS (tr K t) = 14 → cE (tr K t) = e) (w : WS K t) : RX K N μ0 b c m e t (p_Mo_expression μ (nI c) (nI m)) := by
  unfold p_Mo_expression
  have l := h.lt hT
  have hN := hT.1
  exact (expL hT (N + 1 - t) t FU _ 1 rfl (by unfold FU; omega) ⟨h.s7, by rw [d0]; rfl, fun j hj => by omega, hc, hm, he1, he2⟩ (Or.inl ⟨rfl, w⟩) (fun z => absurd z (by decide))).1 rfl
end RP3
