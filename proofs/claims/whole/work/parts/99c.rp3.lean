/-! the reference's parser: statements -/
def RSt (K : Nat → Int32) (N : Nat) (μ0 : Sto) (c m t : Nat) (r : Option Sto) : Prop := (∃ μ', r = some μ' ∧ BB K N μ0 μ') ∨ (∃ μ' t', r = some μ' ∧ t < t' ∧ GD K N μ0 1000 t' μ' ∧ cS (tr K t') = 14 ∧ cC (tr K t') = c + 1 ∧ cM (tr K t') = m)
section RP4
variable {K : Nat → Int32} {N : Nat} {μ0 μ : Sto} {t b c m : Nat} {e : Bool}
theorem not1000 (hT : TKM K N μ0) : ¬ cS (tr K 1000) = 14 := fun z => by
  have := alive_le hT.2.2.1 (T := 1000) (by rw [z]; decide)
  have := hT.1
  omega
theorem gd_beg {v : Int32} (hT : TKM K N μ0) (h : GD K N μ0 1000 t μ) (s : cS (tr K t) = 14) (k : ¬ K t = 125) (hv : v = bg K t) : GD K N μ0 t t (sA μ 10 t v) := by
  obtain ⟨g1, g2, g3, g4, g5, j1, j2, j3, j4⟩ := h
  have hN := hT.1
  refine ⟨g1.A (by decide), g2, g3, g4, g5, fun u hu4 => ?_, fun u hu hr => ?_, fun u hu4 => ?_, fun u hu hub h14 h125 => ?_⟩
  · rw [q_An (by decide)]; exact j1 u hu4
  · rw [q_An (by decide), q_An (by decide)]; exact j2 u hu hr
  · rw [q_A2, if_pos rfl]
    by_cases e1 : u = t
    · rw [if_pos e1, if_pos ⟨Or.inr e1, by rw [e1]; exact ⟨s, k⟩⟩, e1, hv]
    · rw [if_neg e1, j3 u hu4]
      by_cases q : (u < t ∨ u = 1000) ∧ cS (tr K u) = 14 ∧ ¬ K u = 125
      · rw [if_pos q, if_pos ⟨Or.inl (q.1.resolve_right (fun z => by rw [z] at q; exact not1000 hT q.2.1)), q.2⟩]
      · rw [if_neg q, if_neg (fun z => q ⟨Or.inl (z.1.resolve_right e1), z.2⟩)]
  · rw [q_An (by decide), q_An (by decide)]; exact j4 u hu (by omega) h14 h125
theorem gd_end (hT : TKM K N μ0) (h : GD K N μ0 b t μ) (hb : b < t) (bs : cS (tr K b) = 14) (bk : ¬ K b = 125) (bc : cC (tr K b) = c + 1) (bm : cM (tr K b) = m) : GD K N μ0 1000 t (sA (sA μ 8 b (nI c)) 9 b (nI m)) := by
  obtain ⟨g1, g2, g3, g4, g5, j1, j2, j3, j4⟩ := h
  have l8 : 8 < cS (tr K b) := by rw [bs]; decide
  have v8 : ∀ u, (sA (sA μ 8 b (nI c)) 9 b (nI m)).2.1 8 u = if u = b then nI c else μ.2.1 8 u := fun u => by rw [q_An (by decide), q_A2, if_pos rfl]
  have v9 : ∀ u, (sA (sA μ 8 b (nI c)) 9 b (nI m)).2.1 9 u = if u = b then nI m else μ.2.1 9 u := fun u => by rw [q_A2, if_pos rfl, q_An (by decide)]
  refine ⟨(g1.A (by decide)).A (by decide), g2, g3, g4, g5, fun u hu4 => ?_, fun u hu hr => ?_, fun u hu4 => ?_, fun u hu hub h14 h125 => ?_⟩
  · rw [q_An (by decide), q_An (by decide)]; exact j1 u hu4
  · rw [v8, v9]
    by_cases e1 : u = b
    · rw [if_pos e1, if_pos e1, e1]; exact ⟨cls_k bc l8, mth_k bm l8⟩
    · rw [if_neg e1, if_neg e1]; exact j2 u hu hr
  · rw [q_An (by decide), q_An (by decide), j3 u hu4]
    by_cases q : (u < t ∨ u = b) ∧ cS (tr K u) = 14 ∧ ¬ K u = 125
    · rw [if_pos q, if_pos ⟨Or.inl (by rcases q.1 with z | z <;> omega), q.2⟩]
    · rw [if_neg q, if_neg (fun z => q ⟨Or.inl (z.1.resolve_right (fun y => by rw [y] at z; exact not1000 hT z.2.1)), z.2⟩)]
  · rw [v8, v9]
    by_cases e1 : u = b
    · rw [if_pos e1, if_pos e1, e1]; exact ⟨cls_k bc l8, mth_k bm l8⟩
    · rw [if_neg e1, if_neg e1]; exact j4 u hu e1 h14 h125
theorem bb_125 (x1 x2 : Int32) (B : BB K N μ0 μ) (hb : b < 124) : RSt K N μ0 c m t (p_Mo_statement_b125 x1 x2 μ (nI b)) := by
  unfold p_Mo_statement_b125
  have B2 := (B.a (a := 8) (i := b) (v := x1) (by decide)).a (a := 9) (i := b) (v := x2) (by decide)
  rw [if_pos (q_inR hb (by decide)), if_pos (q_inR hb (by decide)), q_tn (by omega), B2.need, q_bd1]
  exact Or.inl ⟨_, rfl, B2.s5⟩
theorem st_end (hT : TKM K N μ0) (h : EI K N μ0 b c m e t μ) (w : NS K t) (d0 : cD (tr K t) = 0) (k46 : ¬ K t = 46) (k43 : ¬ K t = 43) (h61 : K t = 61 → e = false) (hb : b < t) (bs : cS (tr K b) = 14) (bk : ¬ K b = 125) (bc : cC (tr K b) = c + 1) (bm : cM (tr K b) = m) : RSt K N μ0 c m b (p_Mo_statement_b125 (nI c) (nI m) μ (nI b)) := by
  have l := h.1.lt hT
  have G1 := gd_end hT h.1 hb bs bk bc bm
  obtain ⟨wS, wR, wD, wO, wE, _⟩ := ns_n w
  have w8 := ns_8 w
  unfold p_Mo_statement_b125
  rw [if_pos (q_inR (by omega) (by decide)), if_pos (q_inR (by omega) (by decide)), q_tn (by omega), G1.need hT]
  by_cases k59 : K t = 59
  · rw [if_pos k59, q_bd1]
    rw [k59] at wS wR
    have s14 : cS (tr K (t + 1)) = 14 := by rw [wS, d0]; simp +decide only [tal, if_true, if_false]
    exact Or.inr ⟨_, t + 1, rfl, by omega, gd_0 hT G1 (by rw [s14]; decide) (fun z => absurd z (ns_14 w)) (rr_ro0 (by rw [wR]; decide)), s14, (cC_k (n_8 w8 (by decide))).trans h.2.2.2.1, (cM_k (n_8 w8 (by decide))).trans h.2.2.2.2.1⟩
  · rw [if_neg k59, q_bd1]
    have cf : callB (tr K t) = false := callB_f (Or.inl d0)
    have z0 : cS (tr K (t + 1)) = 0 := by
      rw [wS, d0, cf, h.2.2.2.2.2.2 (ns_14 w)]
      by_cases k61 : K t = 61
      · rw [h61 k61]
        simp +decide only [tal, k61, if_true, if_false]
      · simp +decide only [tal, k43, k46, k59, k61, if_true, if_false, ite_self]
    exact Or.inl ⟨_, rfl, gd_bad G1 z0 (fun z => absurd z (n_8 w8 (by decide)))⟩
/-- a local -/
theorem st_36 (hT : TKM K N μ0) (h : GD K N μ0 1000 t μ) (s : cS (tr K t) = 14) (hk : K t = 3 ∨ (K t = 1 ∧ K (t + 1) = 1)) (hc : cC (tr K t) = c + 1) (hm : cM (tr K t) = m) : RSt K N μ0 c m t (p_Mo_statement_b36 (nI c) (nI m) μ (nI t)) := by
  have l := h.lt hT
  have n125 : ¬ K t = 125 := by rcases hk with z | z <;> (try rw [z]) <;> (try rw [z.1]) <;> decide
  have l8 : 8 < cS (tr K t) := by rw [s]; decide
  have G0 := gd_beg (v := 1) hT h s n125 (by unfold bg; rw [if_pos hk])
  have b1 : K t = 3 → cS (tr K (t + 1)) = 15 ∧ rr (ro K t) = 0 := fun k3 => ⟨by rw [trS, s, k3]; simp +decide only [nxt, if_true, if_false], rr_ro0 (by unfold rbT; rw [s, k3]; simp +decide only [rb, rr, if_true, if_false])⟩
  have b2 : K t = 1 → cS (tr K (t + 1)) = 15 ∧ rr (ro K t) = 2 := fun k1 => by
    have kk : K (t + 1) = 1 := by
      rcases hk with z | z
      · rw [k1] at z; exact absurd z (by decide)
      · exact z.2
    have r7 : rbT K t = 7 := by unfold rbT; rw [s, k1, kk]; simp +decide only [rb, and_self, if_true, if_false]
    exact ⟨by rw [trS, s, k1, kk]; simp +decide only [nxt, and_self, if_true, if_false], by rw [ro_s r7 (by decide) (by decide) (by decide)]; decide⟩
  have d0 : cD (tr K t) = 0 := (WF_all t h.2.2.2.1).2.1 (by rw [s]; decide)
  unfold p_Mo_statement_b36
  rw [if_pos (q_inR (by omega) (by decide)), q_tn (by omega)]
  have bad : ∀ μ', BB K N μ0 μ' → RSt K N μ0 c m t (bd1 (p_Mo_expression μ' (nI c) (nI m)) fun σ_66 => p_Mo_statement_b125 (nI c) (nI m) σ_66 (nI t)) := by
    intro μ' B
    rw [B.ex, q_bd1]
    exact bb_125 _ _ B.s7 (by omega)
  obtain ⟨μ1, r1, B | ⟨G1, s15⟩⟩ := tword (v := 15) (x1 := nI c) (x2 := nI m) hT G0 (by decide) (by rw [s]; decide) (fun _ _ => rfl) b1 b2 (fun z3 z1 => by rcases hk with z | z; exact absurd z z3; exact absurd z.1 z1) (cls_k hc l8) (mth_k hm l8)
  · rw [r1, q_bd1, B.name, q_bd1, B.s5.need, q_bd1]
    exact bad _ B.s5.s5
  rw [r1, q_bd1, G1.name hT]
  have l15 : 8 < cS (tr K (t + 1)) := by rw [s15]; decide
  have c1 : cC (tr K (t + 1)) = c + 1 := (cC_k (n_8 l8 (by decide))).trans hc
  have m1 : cM (tr K (t + 1)) = m := (cM_k (n_8 l8 (by decide))).trans hm
  have E1 : cE (tr K (t + 1)) = false := by
    rw [trE, s]
    rcases hk with z | z
    · rw [z]; simp +decide only [eqm, true_or, or_true, not_true_eq_false, decide_false, if_true]
    · rw [z.1, z.2]; simp +decide only [eqm, true_or, or_true, and_self, not_true_eq_false, decide_false, if_true]
  by_cases k1 : K (t + 1) = 1
  · have s16 : cS (tr K (t + 1 + 1)) = 16 := by rw [trS, s15, k1]; simp +decide only [nxt, if_true, if_false]
    have r5 : rbT K (t + 1) = 5 := by unfold rbT; rw [s15]; simp +decide only [rb, if_true, if_false]
    have G2 := gd_n (x1 := 8) (x2 := nI c) (x3 := nI m) hT G1 (by rw [s16]; decide) (fun z => by rw [s15] at z; exact absurd z (by decide)) (by rw [ro_s r5 (by decide) (by decide) (by decide)]; decide) (cls_k c1 l15) (mth_k m1 l15)
    rw [if_pos k1, q_bd1, G2.need hT]
    have l16 : 8 < cS (tr K (t + 1 + 1)) := by rw [s16]; decide
    have d2 : cD (tr K (t + 1 + 1)) = 0 := (WF_all _ G2.2.2.2.1).2.1 (by rw [s16]; decide)
    have E2 : cE (tr K (t + 1 + 1)) = false := by
      rw [trE, s15, k1]; simp +decide only [eqm, false_and, if_false]; exact E1
    by_cases k61 : K (t + 1 + 1) = 61
    · have s17 : cS (tr K (t + 1 + 1 + 1)) = 17 := by rw [trS, s16, k61]; simp +decide only [nxt, if_true, if_false]
      have G3 := gd_0 hT G2 (by rw [s17]; decide) (fun z => by rw [s16] at z; exact absurd z (by decide)) (rr_ro0 (by unfold rbT; rw [s16]; simp +decide only [rb, rr, if_true, if_false]))
      have d3 : cD (tr K (t + 1 + 1 + 1)) = 0 := by rw [trD, s16, k61]; simp +decide only [dpt, false_and, if_false]; exact d2
      have E3 : cE (tr K (t + 1 + 1 + 1)) = false := by rw [trE, s16, k61]; simp +decide only [eqm, or_self, and_false, if_false]; exact E2
      rw [if_pos k61, q_bd1]
      have X := expr (e := false) hT G3 d3 ((cC_k (n_8 l16 (by decide))).trans ((cC_k (n_8 l15 (by decide))).trans c1)) ((cM_k (n_8 l16 (by decide))).trans ((cM_k (n_8 l15 (by decide))).trans m1)) (fun z => by rw [s17] at z; exact absurd z (by decide)) (fun _ => E3) (Or.inr (Or.inl s17))
      rcases X with ⟨μ', r, B⟩ | ⟨μ', t', r, lt, E, w, d, k46, k43⟩
      · rw [r, q_bd1]; exact bb_125 _ _ B (by omega)
      · rw [r, q_bd1]; exact st_end hT E w d k46 k43 (fun _ => rfl) (by omega) s n125 hc hm
    · rw [if_neg k61, q_bd1]
      have z0 : cS (tr K (t + 1 + 1 + 1)) = 0 := by rw [trS, s16]; simp +decide only [nxt, k61, if_true, if_false]
      exact bad _ (gd_bad G2 z0 (fun z => by rw [s16] at z; exact absurd z (by decide)))
  · have z0 : cS (tr K (t + 1 + 1)) = 0 := by rw [trS, s15]; simp +decide only [nxt, k1, if_true, if_false]
    have B := gd_bad G1 z0 (fun z => by rw [s15] at z; exact absurd z (by decide))
    rw [if_neg k1, q_bd1, B.need, q_bd1]
    exact bad _ B.s5
theorem st_72 (hT : TKM K N μ0) (h : GD K N μ0 1000 t μ) (s : cS (tr K t) = 14) (n125 : ¬ K t = 125) (n3 : ¬ K t = 3) (n11 : ¬ (K t = 1 ∧ K (t + 1) = 1)) (hc : cC (tr K t) = c + 1) (hm : cM (tr K t) = m) : RSt K N μ0 c m t (p_Mo_statement_b72 (nI c) (nI m) μ (nI t)) := by
  have l := h.lt hT
  have l8 : 8 < cS (tr K t) := by rw [s]; decide
  have hk : ¬ (K t = 3 ∨ (K t = 1 ∧ K (t + 1) = 1)) := fun z => z.elim n3 n11
  have d0 : cD (tr K t) = 0 := (WF_all t h.2.2.2.1).2.1 (by rw [s]; decide)
  unfold p_Mo_statement_b72
  rw [h.take hT]
  by_cases k6 : K t = 6
  · have s17 : cS (tr K (t + 1)) = 17 := by rw [trS, s]; simp +decide only [nxt, k6, false_and, if_true, if_false]
    have G0 := gd_beg (v := 2) hT h s n125 (by unfold bg; rw [if_neg hk, if_pos k6])
    have G1 := gd_0 hT G0 (by rw [s17]; decide) (fun _ _ => rfl) (rr_ro0 (by unfold rbT; rw [s]; simp +decide only [rb, rr, k6, false_and, if_true, if_false]))
    have d1 : cD (tr K (t + 1)) = 0 := by rw [trD, s]; simp +decide only [dpt, k6, false_and, if_false]; exact d0
    have E1 : cE (tr K (t + 1)) = false := by rw [trE, s]; simp +decide only [eqm, k6, true_or, or_true, not_true_eq_false, decide_false, if_true]
    rw [if_pos k6, q_bd2, if_neg (by decide), if_pos (q_inR (by omega) (by decide)), q_tn (by omega)]
    rw [show sA (sS μ 4 (nI (t + 1))) 10 t 2 = sS (sA μ 10 t 2) 4 (nI (t + 1)) from rfl]
    have X := expr (e := false) hT G1 d1 ((cC_k (n_8 l8 (by decide))).trans hc) ((cM_k (n_8 l8 (by decide))).trans hm) (fun z => by rw [s17] at z; exact absurd z (by decide)) (fun _ => E1) (Or.inr (Or.inl s17))
    rcases X with ⟨μ', r, B⟩ | ⟨μ', t', r, lt, E, w, d, k46, k43⟩
    · rw [r, q_bd1]; exact bb_125 _ _ B (by omega)
    · rw [r, q_bd1]; exact st_end hT E w d k46 k43 (fun _ => rfl) (by omega) s n125 hc hm
  · have G0 := gd_beg (v := 3) hT h s n125 (by unfold bg; rw [if_neg hk, if_neg k6])
    rw [if_neg k6, q_bd2, if_pos rfl, if_pos (q_inR (by omega) (by decide)), q_tn (by omega)]
    have X := expr (e := true) hT G0 d0 hc hm (fun _ => ⟨rfl, rfl⟩) (fun z => absurd s z) (Or.inl ⟨s, n125, n3, n11, k6⟩)
    rcases X with ⟨μ', r, B⟩ | ⟨μ', t', r, lt, E, w, d, k46, k43⟩
    · rw [r, q_bd1, B.take, q_bd2, if_pos rfl]; exact bb_125 _ _ B (by omega)
    · rw [r, q_bd1, E.1.take hT]
      by_cases k61 : K t' = 61
      · obtain ⟨wS, wR, wD, wO, _, wE⟩ := ns_n w
        have w8 := ns_8 w
        have E1 := wE k61
        rw [k61] at wS wR wD
        have s17 : cS (tr K (t' + 1)) = 17 := by rw [wS, d, E.2.2.2.2.2.2 (ns_14 w)]; simp +decide only [tal, if_true, if_false]
        have G1 := gd_0 hT E.1 (by rw [s17]; decide) (fun z => absurd z (ns_14 w)) (rr_ro0 (by rw [wR]; decide))
        rw [if_pos k61, q_bd2, if_neg (by decide)]
        have X2 := expr (e := false) hT G1 (by rw [wD, if_neg (by decide)]; exact d) ((cC_k (n_8 w8 (by decide))).trans E.2.2.2.1) ((cM_k (n_8 w8 (by decide))).trans E.2.2.2.2.1) (fun z => by rw [s17] at z; exact absurd z (by decide)) (fun _ => E1) (Or.inr (Or.inl s17))
        rcases X2 with ⟨μ2, r2, B⟩ | ⟨μ2, t2, r2, lt2, E2, w2, d2, k46, k43⟩
        · rw [r2, q_bd1]; exact bb_125 _ _ B (by omega)
        · rw [r2, q_bd1]; exact st_end hT E2 w2 d2 k46 k43 (fun _ => rfl) (by omega) s n125 hc hm
      · rw [if_neg k61, q_bd2, if_pos rfl]
        exact st_end hT E w d k46 k43 (fun z => absurd z k61) (by omega) s n125 hc hm
theorem stmt (hT : TKM K N μ0) (h : GD K N μ0 1000 t μ) (s : cS (tr K t) = 14) (n125 : ¬ K t = 125) (hc : cC (tr K t) = c + 1) (hm : cM (tr K t) = m) : RSt K N μ0 c m t (p_Mo_statement μ (nI c) (nI m)) := by
  have l := h.lt hT
  unfold p_Mo_statement
  rw [h.is hT]
  by_cases k3 : K t = 3
  · rw [if_pos k3, q_bd1, if_neg (by decide), h.2.2.1]
    exact st_36 hT h s (Or.inl k3) hc hm
  · rw [if_neg k3, q_bd1, if_pos rfl, h.is hT, h.2.2.1]
    by_cases k1 : K t = 1
    · rw [if_pos k1, q_bd1, if_neg (by decide), nI_1, if_pos (q_inR (by omega) (by decide)), q_tn (by omega), h.kd hT (by omega)]
      by_cases kk : K (t + 1) = 1
      · rw [if_pos kk]; exact st_36 hT h s (Or.inr ⟨k1, kk⟩) hc hm
      · rw [if_neg kk]; exact st_72 hT h s n125 k3 (fun z => kk z.2) hc hm
    · rw [if_neg k1, q_bd1, if_pos rfl]
      exact st_72 hT h s n125 k3 (fun z => k1 z.1) hc hm
end RP4
